section
-- ===== PART A: goes FIRST, ahead of the names: the tables' words, and 'selects' of them =====
def lw_okq (q : MethodName × Nat) : Prop := (q.1.cls ≠ "java/lang/invoke/MethodHandle" ∧ q.1.cls ≠ "java/lang/invoke/VarHandle") ∧ Cond.instantiable q.1.cls q.2 ∈ tables_1 ∧ Cond.privateMethod q.1 ∈ tables_1 ∧ Cond.instanceMethod q.1 ∈ tables_1
theorem lw_p0 : lw_okq (⟨"RuleKeeper", "hold", "(I)Z"⟩, 7) := ⟨⟨by decide +kernel, by decide +kernel⟩, List.mem_of_getElem? (i := 11) (by decide +kernel), List.mem_of_getElem? (i := 213) (by decide +kernel), List.mem_of_getElem? (i := 214) (by decide +kernel)⟩
theorem lw_p1 : lw_okq (⟨"RuleKeeper", "follow", "(II)Z"⟩, 7) := ⟨⟨by decide +kernel, by decide +kernel⟩, List.mem_of_getElem? (i := 11) (by decide +kernel), List.mem_of_getElem? (i := 225) (by decide +kernel), List.mem_of_getElem? (i := 226) (by decide +kernel)⟩
theorem lw_p2 : lw_okq (⟨"RuleKeeper$Solver", "isMatchedBefore", "(LRuleKeeper$Pattern;II)Z"⟩, 4) := ⟨⟨by decide +kernel, by decide +kernel⟩, List.mem_of_getElem? (i := 19) (by decide +kernel), List.mem_of_getElem? (i := 248) (by decide +kernel), List.mem_of_getElem? (i := 249) (by decide +kernel)⟩
theorem lw_p3 : lw_okq (⟨"RuleKeeper$Solver", "fillColumns", "(LRuleKeeper$Rule;III)Z"⟩, 4) := ⟨⟨by decide +kernel, by decide +kernel⟩, List.mem_of_getElem? (i := 19) (by decide +kernel), List.mem_of_getElem? (i := 261) (by decide +kernel), List.mem_of_getElem? (i := 262) (by decide +kernel)⟩
theorem lw_p4 : lw_okq (⟨"RuleKeeper$Column", "take", "(III)V"⟩, 6) := ⟨⟨by decide +kernel, by decide +kernel⟩, List.mem_of_getElem? (i := 59) (by decide +kernel), List.mem_of_getElem? (i := 275) (by decide +kernel), List.mem_of_getElem? (i := 276) (by decide +kernel)⟩
theorem lw_p5 : lw_okq (⟨"RuleKeeper", "holdAnew", "()V"⟩, 7) := ⟨⟨by decide +kernel, by decide +kernel⟩, List.mem_of_getElem? (i := 11) (by decide +kernel), List.mem_of_getElem? (i := 302) (by decide +kernel), List.mem_of_getElem? (i := 303) (by decide +kernel)⟩
theorem lw_p6 : lw_okq (⟨"RuleKeeper", "draftIsRule", "()Z"⟩, 7) := ⟨⟨by decide +kernel, by decide +kernel⟩, List.mem_of_getElem? (i := 11) (by decide +kernel), List.mem_of_getElem? (i := 324) (by decide +kernel), List.mem_of_getElem? (i := 325) (by decide +kernel)⟩
theorem lw_p7 : lw_okq (⟨"RuleKeeper", "ruleOfDraft", "()LRuleKeeper$Rule;"⟩, 7) := ⟨⟨by decide +kernel, by decide +kernel⟩, List.mem_of_getElem? (i := 11) (by decide +kernel), List.mem_of_getElem? (i := 328) (by decide +kernel), List.mem_of_getElem? (i := 329) (by decide +kernel)⟩
theorem lw_p8 : lw_okq (⟨"RuleKeeperModel", "reckon", "()Z"⟩, 14) := ⟨⟨by decide +kernel, by decide +kernel⟩, List.mem_of_getElem? (i := 372) (by decide +kernel), List.mem_of_getElem? (i := 433) (by decide +kernel), List.mem_of_getElem? (i := 434) (by decide +kernel)⟩
theorem lw_p9 : lw_okq (⟨"RuleKeeperModel", "come", "(I)Z"⟩, 14) := ⟨⟨by decide +kernel, by decide +kernel⟩, List.mem_of_getElem? (i := 372) (by decide +kernel), List.mem_of_getElem? (i := 437) (by decide +kernel), List.mem_of_getElem? (i := 438) (by decide +kernel)⟩
theorem lw_p10 : lw_okq (⟨"RuleKeeperModel", "free", "()V"⟩, 14) := ⟨⟨by decide +kernel, by decide +kernel⟩, List.mem_of_getElem? (i := 372) (by decide +kernel), List.mem_of_getElem? (i := 441) (by decide +kernel), List.mem_of_getElem? (i := 442) (by decide +kernel)⟩
theorem lw_p11 : lw_okq (⟨"RuleKeeperModel", "allCases", "(IZ)Z"⟩, 14) := ⟨⟨by decide +kernel, by decide +kernel⟩, List.mem_of_getElem? (i := 372) (by decide +kernel), List.mem_of_getElem? (i := 445) (by decide +kernel), List.mem_of_getElem? (i := 446) (by decide +kernel)⟩
theorem lw_p12 : lw_okq (⟨"RuleKeeperModel", "loosen", "([III)V"⟩, 14) := ⟨⟨by decide +kernel, by decide +kernel⟩, List.mem_of_getElem? (i := 372) (by decide +kernel), List.mem_of_getElem? (i := 449) (by decide +kernel), List.mem_of_getElem? (i := 450) (by decide +kernel)⟩
theorem lw_p13 : lw_okq (⟨"RuleKeeperModel", "bind", "([III)Z"⟩, 14) := ⟨⟨by decide +kernel, by decide +kernel⟩, List.mem_of_getElem? (i := 372) (by decide +kernel), List.mem_of_getElem? (i := 453) (by decide +kernel), List.mem_of_getElem? (i := 454) (by decide +kernel)⟩
theorem lw_p14 : lw_okq (⟨"RuleKeeperModel", "give", "(IZ)Z"⟩, 14) := ⟨⟨by decide +kernel, by decide +kernel⟩, List.mem_of_getElem? (i := 372) (by decide +kernel), List.mem_of_getElem? (i := 460) (by decide +kernel), List.mem_of_getElem? (i := 461) (by decide +kernel)⟩
theorem lw_p15 : lw_okq (⟨"RuleKeeperModel", "value", "(I)I"⟩, 14) := ⟨⟨by decide +kernel, by decide +kernel⟩, List.mem_of_getElem? (i := 372) (by decide +kernel), List.mem_of_getElem? (i := 464) (by decide +kernel), List.mem_of_getElem? (i := 465) (by decide +kernel)⟩
def lw_privs_1 : List (MethodName × Nat) := [(⟨"RuleKeeper", "hold", "(I)Z"⟩, 7), (⟨"RuleKeeper", "follow", "(II)Z"⟩, 7), (⟨"RuleKeeper$Solver", "isMatchedBefore", "(LRuleKeeper$Pattern;II)Z"⟩, 4), (⟨"RuleKeeper$Solver", "fillColumns", "(LRuleKeeper$Rule;III)Z"⟩, 4), (⟨"RuleKeeper$Column", "take", "(III)V"⟩, 6), (⟨"RuleKeeper", "holdAnew", "()V"⟩, 7), (⟨"RuleKeeper", "draftIsRule", "()Z"⟩, 7), (⟨"RuleKeeper", "ruleOfDraft", "()LRuleKeeper$Rule;"⟩, 7), (⟨"RuleKeeperModel", "reckon", "()Z"⟩, 14), (⟨"RuleKeeperModel", "come", "(I)Z"⟩, 14), (⟨"RuleKeeperModel", "free", "()V"⟩, 14), (⟨"RuleKeeperModel", "allCases", "(IZ)Z"⟩, 14), (⟨"RuleKeeperModel", "loosen", "([III)V"⟩, 14), (⟨"RuleKeeperModel", "bind", "([III)Z"⟩, 14), (⟨"RuleKeeperModel", "give", "(IZ)Z"⟩, 14), (⟨"RuleKeeperModel", "value", "(I)I"⟩, 14)]
theorem lw_r1 : ∀ q ∈ lw_privs_1, lw_okq q := List.forall_mem_cons.mpr ⟨lw_p0, List.forall_mem_cons.mpr ⟨lw_p1, List.forall_mem_cons.mpr ⟨lw_p2, List.forall_mem_cons.mpr ⟨lw_p3, List.forall_mem_cons.mpr ⟨lw_p4, List.forall_mem_cons.mpr ⟨lw_p5, List.forall_mem_cons.mpr ⟨lw_p6, List.forall_mem_cons.mpr ⟨lw_p7, List.forall_mem_cons.mpr ⟨lw_p8, List.forall_mem_cons.mpr ⟨lw_p9, List.forall_mem_cons.mpr ⟨lw_p10, List.forall_mem_cons.mpr ⟨lw_p11, List.forall_mem_cons.mpr ⟨lw_p12, List.forall_mem_cons.mpr ⟨lw_p13, List.forall_mem_cons.mpr ⟨lw_p14, List.forall_mem_cons.mpr ⟨lw_p15, fun _ h => absurd h List.not_mem_nil⟩⟩⟩⟩⟩⟩⟩⟩⟩⟩⟩⟩⟩⟩⟩⟩
theorem lw_p16 : lw_okq (⟨"RuleKeeperModel", "isMade", "()Z"⟩, 14) := ⟨⟨by decide +kernel, by decide +kernel⟩, List.mem_of_getElem? (i := 372) (by decide +kernel), List.mem_of_getElem? (i := 483) (by decide +kernel), List.mem_of_getElem? (i := 484) (by decide +kernel)⟩
def lw_privs_2 : List (MethodName × Nat) := [(⟨"RuleKeeperModel", "isMade", "()Z"⟩, 14)]
theorem lw_r2 : ∀ q ∈ lw_privs_2, lw_okq q := List.forall_mem_cons.mpr ⟨lw_p16, fun _ h => absurd h List.not_mem_nil⟩
def lw_privs : List (MethodName × Nat) := lw_privs_1 ++ (lw_privs_2)
def lw_tbl : List Cond := k2_sels lw_privs ++ tables_1
theorem lw_privs_ok : ∀ q ∈ lw_privs, lw_okq q := by
  show ∀ q ∈ lw_privs_1 ++ (lw_privs_2), lw_okq q
  exact List.forall_mem_append.mpr ⟨lw_r1, lw_r2⟩
-- names, by a program of mine (wip/gen/names.py)
def gw : List Cond := lw_tbl.filter goodWord
theorem gw_in : ∀ w ∈ gw, w ∈ lw_tbl := fun _ h => (List.mem_filter.mp h).1
theorem gw_good : ∀ w ∈ gw, (w.onTables && w.keeps) = true ∨ ∃ ty, w = .arrayClass ty := fun _ h => good_of_word (List.mem_filter.mp h).2
def R_Mk : String := "RuleKeeper$Marks"
def T_Mk : u_T := fun k => match k with
  | _ => ("RuleKeeper$Marks", "words", "[I", true)
def t_Mk : Nat → FieldType := fun k => match k with
  | _ => .array .int
theorem n_Mk : ∀ a, a < 1 → ∀ b, b < 1 → a ≠ b → (T_Mk a).2.1 ≠ (T_Mk b).2.1 := by decide +kernel
theorem o_Mk : ∀ k, k < 1 → parseFieldDescriptor (T_Mk k).2.2.1 = some (t_Mk k) := by decide +kernel
def R_Tr : String := "RuleKeeper$Triples"
def T_Tr : u_T := fun k => match k with
  | 0 => ("RuleKeeper$Triples", "codes", "[I", true)
  | 1 => ("RuleKeeper$Triples", "present", "LRuleKeeper$Marks;", true)
  | _ => ("RuleKeeper$Triples", "count", "I", false)
def t_Tr : Nat → FieldType := fun k => match k with
  | 0 => .array .int
  | 1 => .object "RuleKeeper$Marks"
  | _ => .int
theorem n_Tr : ∀ a, a < 3 → ∀ b, b < 3 → a ≠ b → (T_Tr a).2.1 ≠ (T_Tr b).2.1 := by decide +kernel
theorem o_Tr : ∀ k, k < 3 → parseFieldDescriptor (T_Tr k).2.2.1 = some (t_Tr k) := by decide +kernel
def R_Pt : String := "RuleKeeper$Pattern"
def T_Pt : u_T := fun k => match k with
  | 0 => ("RuleKeeper$Pattern", "bits", "[I", true)
  | 1 => ("RuleKeeper$Pattern", "slots", "[I", true)
  | 2 => ("RuleKeeper$Pattern", "variables", "I", true)
  | 3 => ("RuleKeeper$Pattern", "numberMask", "I", true)
  | 4 => ("RuleKeeper$Pattern", "numberCode", "I", true)
  | 5 => ("RuleKeeper$Pattern", "sameAB", "Z", true)
  | 6 => ("RuleKeeper$Pattern", "sameAC", "Z", true)
  | _ => ("RuleKeeper$Pattern", "sameBC", "Z", true)
def t_Pt : Nat → FieldType := fun k => match k with
  | 0 => .array .int
  | 1 => .array .int
  | 2 => .int
  | 3 => .int
  | 4 => .int
  | 5 => .boolean
  | 6 => .boolean
  | _ => .boolean
theorem n_Pt : ∀ a, a < 8 → ∀ b, b < 8 → a ≠ b → (T_Pt a).2.1 ≠ (T_Pt b).2.1 := by decide +kernel
theorem o_Pt : ∀ k, k < 8 → parseFieldDescriptor (T_Pt k).2.2.1 = some (t_Pt k) := by decide +kernel
def R_Ru : String := "RuleKeeper$Rule"
def T_Ru : u_T := fun k => match k with
  | 0 => ("RuleKeeper$Rule", "body", "[LRuleKeeper$Pattern;", true)
  | 1 => ("RuleKeeper$Rule", "head", "LRuleKeeper$Pattern;", true)
  | _ => ("RuleKeeper$Rule", "shared", "[I", true)
def t_Ru : Nat → FieldType := fun k => match k with
  | 0 => .array (.object "RuleKeeper$Pattern")
  | 1 => .object "RuleKeeper$Pattern"
  | _ => .array .int
theorem n_Ru : ∀ a, a < 3 → ∀ b, b < 3 → a ≠ b → (T_Ru a).2.1 ≠ (T_Ru b).2.1 := by decide +kernel
theorem o_Ru : ∀ k, k < 3 → parseFieldDescriptor (T_Ru k).2.2.1 = some (t_Ru k) := by decide +kernel
def R_Co : String := "RuleKeeper$Column"
def T_Co : u_T := fun k => match k with
  | 0 => ("RuleKeeper$Column", "parts", "[I", true)
  | 1 => ("RuleKeeper$Column", "times", "[I", true)
  | 2 => ("RuleKeeper$Column", "places", "[I", true)
  | 3 => ("RuleKeeper$Column", "source", "LRuleKeeper$Pattern;", false)
  | 4 => ("RuleKeeper$Column", "kept", "I", false)
  | _ => ("RuleKeeper$Column", "count", "I", false)
def t_Co : Nat → FieldType := fun k => match k with
  | 0 => .array .int
  | 1 => .array .int
  | 2 => .array .int
  | 3 => .object "RuleKeeper$Pattern"
  | 4 => .int
  | _ => .int
theorem n_Co : ∀ a, a < 6 → ∀ b, b < 6 → a ≠ b → (T_Co a).2.1 ≠ (T_Co b).2.1 := by decide +kernel
theorem o_Co : ∀ k, k < 6 → parseFieldDescriptor (T_Co k).2.2.1 = some (t_Co k) := by decide +kernel
def R_Sv : String := "RuleKeeper$Solver"
def T_Sv : u_T := fun k => match k with
  | 0 => ("RuleKeeper$Solver", "held", "LRuleKeeper$Triples;", true)
  | 1 => ("RuleKeeper$Solver", "values", "[I", true)
  | 2 => ("RuleKeeper$Solver", "columns", "[LRuleKeeper$Column;", true)
  | _ => ("RuleKeeper$Solver", "columnCount", "I", false)
def t_Sv : Nat → FieldType := fun k => match k with
  | 0 => .object "RuleKeeper$Triples"
  | 1 => .array .int
  | 2 => .array (.object "RuleKeeper$Column")
  | _ => .int
theorem n_Sv : ∀ a, a < 4 → ∀ b, b < 4 → a ≠ b → (T_Sv a).2.1 ≠ (T_Sv b).2.1 := by decide +kernel
theorem o_Sv : ∀ k, k < 4 → parseFieldDescriptor (T_Sv k).2.2.1 = some (t_Sv k) := by decide +kernel
def R_Kp : String := "RuleKeeper"
def T_Kp : u_T := fun k => match k with
  | 0 => ("RuleKeeper", "solver", "LRuleKeeper$Solver;", true)
  | 1 => ("RuleKeeper", "held", "LRuleKeeper$Triples;", true)
  | 2 => ("RuleKeeper", "said", "LRuleKeeper$Marks;", true)
  | 3 => ("RuleKeeper", "made", "[LRuleKeeper$Rule;", true)
  | 4 => ("RuleKeeper", "draft", "[LRuleKeeper$Pattern;", true)
  | 5 => ("RuleKeeper", "madeCount", "I", false)
  | _ => ("RuleKeeper", "draftCount", "I", false)
def t_Kp : Nat → FieldType := fun k => match k with
  | 0 => .object "RuleKeeper$Solver"
  | 1 => .object "RuleKeeper$Triples"
  | 2 => .object "RuleKeeper$Marks"
  | 3 => .array (.object "RuleKeeper$Rule")
  | 4 => .array (.object "RuleKeeper$Pattern")
  | 5 => .int
  | _ => .int
theorem n_Kp : ∀ a, a < 7 → ∀ b, b < 7 → a ≠ b → (T_Kp a).2.1 ≠ (T_Kp b).2.1 := by decide +kernel
theorem o_Kp : ∀ k, k < 7 → parseFieldDescriptor (T_Kp k).2.2.1 = some (t_Kp k) := by decide +kernel
def R_Md : String := "RuleKeeperModel"
def T_Md : u_T := fun k => match k with
  | 0 => ("RuleKeeperModel", "said", "[Z", true)
  | 1 => ("RuleKeeperModel", "holding", "[Z", true)
  | 2 => ("RuleKeeperModel", "supports", "[I", true)
  | 3 => ("RuleKeeperModel", "row", "[I", true)
  | 4 => ("RuleKeeperModel", "size", "I", false)
  | 5 => ("RuleKeeperModel", "items", "[I", true)
  | 6 => ("RuleKeeperModel", "bodies", "[I", true)
  | 7 => ("RuleKeeperModel", "rules", "I", false)
  | 8 => ("RuleKeeperModel", "draft", "[I", true)
  | 9 => ("RuleKeeperModel", "drafted", "I", false)
  | 10 => ("RuleKeeperModel", "values", "[I", true)
  | 11 => ("RuleKeeperModel", "bound", "[I", true)
  | 12 => ("RuleKeeperModel", "places", "[I", true)
  | _ => ("RuleKeeperModel", "asked", "[I", true)
def t_Md : Nat → FieldType := fun k => match k with
  | 0 => .array .boolean
  | 1 => .array .boolean
  | 2 => .array .int
  | 3 => .array .int
  | 4 => .int
  | 5 => .array .int
  | 6 => .array .int
  | 7 => .int
  | 8 => .array .int
  | 9 => .int
  | 10 => .array .int
  | 11 => .array .int
  | 12 => .array .int
  | _ => .array .int
theorem n_Md : ∀ a, a < 14 → ∀ b, b < 14 → a ≠ b → (T_Md a).2.1 ≠ (T_Md b).2.1 := by decide +kernel
theorem o_Md : ∀ k, k < 14 → parseFieldDescriptor (T_Md k).2.2.1 = some (t_Md k) := by decide +kernel
abbrev k_cl : List vw_C := [(R_Mk, T_Mk, 1), (R_Tr, T_Tr, 3), (R_Pt, T_Pt, 8), (R_Ru, T_Ru, 3), (R_Co, T_Co, 6), (R_Sv, T_Sv, 4), (R_Kp, T_Kp, 7), (R_Md, T_Md, 14)]
abbrev b_Kp_init : ByteArray := prog_1_method_1_code
def y_Kp_init : MethodName := ⟨"RuleKeeper", "<init>", "()V"⟩
abbrev b_Kp_say : ByteArray := prog_1_method_2_code
def y_Kp_say : MethodName := ⟨"RuleKeeper", "say", "(III)I"⟩
abbrev b_Kp_unsay : ByteArray := prog_1_method_3_code
def y_Kp_unsay : MethodName := ⟨"RuleKeeper", "unsay", "(III)I"⟩
abbrev b_Kp_pattern : ByteArray := prog_1_method_4_code
def y_Kp_pattern : MethodName := ⟨"RuleKeeper", "pattern", "(III)I"⟩
abbrev b_Kp_rule : ByteArray := prog_1_method_5_code
def y_Kp_rule : MethodName := ⟨"RuleKeeper", "rule", "()I"⟩
abbrev b_Kp_unrule : ByteArray := prog_1_method_6_code
def y_Kp_unrule : MethodName := ⟨"RuleKeeper", "unrule", "(I)I"⟩
abbrev b_Kp_rules : ByteArray := prog_1_method_7_code
def y_Kp_rules : MethodName := ⟨"RuleKeeper", "rules", "()I"⟩
abbrev b_Kp_holds : ByteArray := prog_1_method_8_code
def y_Kp_holds : MethodName := ⟨"RuleKeeper", "holds", "(III)I"⟩
abbrev b_Kp_support : ByteArray := prog_1_method_9_code
def y_Kp_support : MethodName := ⟨"RuleKeeper", "support", "(III)I"⟩
abbrev b_Kp_size : ByteArray := prog_1_method_10_code
def y_Kp_size : MethodName := ⟨"RuleKeeper", "size", "()I"⟩
abbrev b_Kp_next : ByteArray := prog_1_method_11_code
def y_Kp_next : MethodName := ⟨"RuleKeeper", "next", "(I)I"⟩
abbrev b_Kp_fitting : ByteArray := prog_1_method_12_code
def y_Kp_fitting : MethodName := ⟨"RuleKeeper", "fitting", "(III)I"⟩
abbrev b_Kp_clear : ByteArray := prog_1_method_13_code
def y_Kp_clear : MethodName := ⟨"RuleKeeper", "clear", "()I"⟩
abbrev b_Kp_isNumber : ByteArray := prog_1_method_14_code
def y_Kp_isNumber : MethodName := ⟨"RuleKeeper", "isNumber", "(I)Z"⟩
abbrev b_Kp_isTriple : ByteArray := prog_1_method_15_code
def y_Kp_isTriple : MethodName := ⟨"RuleKeeper", "isTriple", "(III)Z"⟩
abbrev b_Kp_isItem : ByteArray := prog_1_method_16_code
def y_Kp_isItem : MethodName := ⟨"RuleKeeper", "isItem", "(I)Z"⟩
abbrev b_Kp_isPattern : ByteArray := prog_1_method_17_code
def y_Kp_isPattern : MethodName := ⟨"RuleKeeper", "isPattern", "(III)Z"⟩
abbrev b_Kp_codeOf : ByteArray := prog_1_method_18_code
def y_Kp_codeOf : MethodName := ⟨"RuleKeeper", "codeOf", "(III)I"⟩
abbrev b_Kp_draftIsRule : ByteArray := prog_1_method_19_code
def y_Kp_draftIsRule : MethodName := ⟨"RuleKeeper", "draftIsRule", "()Z"⟩
abbrev b_Kp_ruleOfDraft : ByteArray := prog_1_method_20_code
def y_Kp_ruleOfDraft : MethodName := ⟨"RuleKeeper", "ruleOfDraft", "()LRuleKeeper$Rule;"⟩
abbrev b_Kp_hold : ByteArray := prog_1_method_21_code
def y_Kp_hold : MethodName := ⟨"RuleKeeper", "hold", "(I)Z"⟩
abbrev b_Kp_holdAnew : ByteArray := prog_1_method_22_code
def y_Kp_holdAnew : MethodName := ⟨"RuleKeeper", "holdAnew", "()V"⟩
abbrev b_Kp_follow : ByteArray := prog_1_method_23_code
def y_Kp_follow : MethodName := ⟨"RuleKeeper", "follow", "(II)Z"⟩
abbrev b_Md_init : ByteArray := prog_9_method_1_code
def y_Md_init : MethodName := ⟨"RuleKeeperModel", "<init>", "()V"⟩
abbrev b_Md_isNumber : ByteArray := prog_9_method_2_code
def y_Md_isNumber : MethodName := ⟨"RuleKeeperModel", "isNumber", "(I)Z"⟩
abbrev b_Md_isItem : ByteArray := prog_9_method_3_code
def y_Md_isItem : MethodName := ⟨"RuleKeeperModel", "isItem", "(I)Z"⟩
abbrev b_Md_code : ByteArray := prog_9_method_4_code
def y_Md_code : MethodName := ⟨"RuleKeeperModel", "code", "(III)I"⟩
abbrev b_Md_part : ByteArray := prog_9_method_5_code
def y_Md_part : MethodName := ⟨"RuleKeeperModel", "part", "(II)I"⟩
abbrev b_Md_bind : ByteArray := prog_9_method_6_code
def y_Md_bind : MethodName := ⟨"RuleKeeperModel", "bind", "([III)Z"⟩
abbrev b_Md_loosen : ByteArray := prog_9_method_7_code
def y_Md_loosen : MethodName := ⟨"RuleKeeperModel", "loosen", "([III)V"⟩
abbrev b_Md_value : ByteArray := prog_9_method_8_code
def y_Md_value : MethodName := ⟨"RuleKeeperModel", "value", "(I)I"⟩
abbrev b_Md_allCases : ByteArray := prog_9_method_9_code
def y_Md_allCases : MethodName := ⟨"RuleKeeperModel", "allCases", "(IZ)Z"⟩
abbrev b_Md_give : ByteArray := prog_9_method_10_code
def y_Md_give : MethodName := ⟨"RuleKeeperModel", "give", "(IZ)Z"⟩
abbrev b_Md_come : ByteArray := prog_9_method_11_code
def y_Md_come : MethodName := ⟨"RuleKeeperModel", "come", "(I)Z"⟩
abbrev b_Md_free : ByteArray := prog_9_method_12_code
def y_Md_free : MethodName := ⟨"RuleKeeperModel", "free", "()V"⟩
abbrev b_Md_reckon : ByteArray := prog_9_method_13_code
def y_Md_reckon : MethodName := ⟨"RuleKeeperModel", "reckon", "()Z"⟩
abbrev b_Md_say : ByteArray := prog_9_method_14_code
def y_Md_say : MethodName := ⟨"RuleKeeperModel", "say", "(III)I"⟩
abbrev b_Md_unsay : ByteArray := prog_9_method_15_code
def y_Md_unsay : MethodName := ⟨"RuleKeeperModel", "unsay", "(III)I"⟩
abbrev b_Md_pattern : ByteArray := prog_9_method_16_code
def y_Md_pattern : MethodName := ⟨"RuleKeeperModel", "pattern", "(III)I"⟩
abbrev b_Md_isMade : ByteArray := prog_9_method_17_code
def y_Md_isMade : MethodName := ⟨"RuleKeeperModel", "isMade", "()Z"⟩
abbrev b_Md_rule : ByteArray := prog_9_method_18_code
def y_Md_rule : MethodName := ⟨"RuleKeeperModel", "rule", "()I"⟩
abbrev b_Md_unrule : ByteArray := prog_9_method_19_code
def y_Md_unrule : MethodName := ⟨"RuleKeeperModel", "unrule", "(I)I"⟩
abbrev b_Md_rules : ByteArray := prog_9_method_20_code
def y_Md_rules : MethodName := ⟨"RuleKeeperModel", "rules", "()I"⟩
abbrev b_Md_holds : ByteArray := prog_9_method_21_code
def y_Md_holds : MethodName := ⟨"RuleKeeperModel", "holds", "(III)I"⟩
abbrev b_Md_support : ByteArray := prog_9_method_22_code
def y_Md_support : MethodName := ⟨"RuleKeeperModel", "support", "(III)I"⟩
abbrev b_Md_size : ByteArray := prog_9_method_23_code
def y_Md_size : MethodName := ⟨"RuleKeeperModel", "size", "()I"⟩
abbrev b_Md_next : ByteArray := prog_9_method_24_code
def y_Md_next : MethodName := ⟨"RuleKeeperModel", "next", "(I)I"⟩
abbrev b_Md_fitting : ByteArray := prog_9_method_25_code
def y_Md_fitting : MethodName := ⟨"RuleKeeperModel", "fitting", "(III)I"⟩
abbrev b_Md_clear : ByteArray := prog_9_method_26_code
def y_Md_clear : MethodName := ⟨"RuleKeeperModel", "clear", "()I"⟩
abbrev b_Co_init : ByteArray := prog_2_method_1_code
def y_Co_init : MethodName := ⟨"RuleKeeper$Column", "<init>", "()V"⟩
abbrev b_Co_fill : ByteArray := prog_2_method_2_code
def y_Co_fill : MethodName := ⟨"RuleKeeper$Column", "fill", "(LRuleKeeper$Triples;II[I)V"⟩
abbrev b_Co_take : ByteArray := prog_2_method_3_code
def y_Co_take : MethodName := ⟨"RuleKeeper$Column", "take", "(III)V"⟩
abbrev b_Co_placeOf : ByteArray := prog_2_method_4_code
def y_Co_placeOf : MethodName := ⟨"RuleKeeper$Column", "placeOf", "(II)I"⟩
abbrev b_Mk_init : ByteArray := prog_3_method_1_code
def y_Mk_init : MethodName := ⟨"RuleKeeper$Marks", "<init>", "()V"⟩
abbrev b_Mk_has : ByteArray := prog_3_method_2_code
def y_Mk_has : MethodName := ⟨"RuleKeeper$Marks", "has", "(I)Z"⟩
abbrev b_Mk_put : ByteArray := prog_3_method_3_code
def y_Mk_put : MethodName := ⟨"RuleKeeper$Marks", "put", "(I)V"⟩
abbrev b_Mk_drop : ByteArray := prog_3_method_4_code
def y_Mk_drop : MethodName := ⟨"RuleKeeper$Marks", "drop", "(I)V"⟩
abbrev b_Pt_init : ByteArray := prog_4_method_1_code
def y_Pt_init : MethodName := ⟨"RuleKeeper$Pattern", "<init>", "(III)V"⟩
abbrev b_Pt_fits : ByteArray := prog_4_method_2_code
def y_Pt_fits : MethodName := ⟨"RuleKeeper$Pattern", "fits", "(I)Z"⟩
abbrev b_Pt_agrees : ByteArray := prog_4_method_3_code
def y_Pt_agrees : MethodName := ⟨"RuleKeeper$Pattern", "agrees", "(I)Z"⟩
abbrev b_Pt_maskOf : ByteArray := prog_4_method_4_code
def y_Pt_maskOf : MethodName := ⟨"RuleKeeper$Pattern", "maskOf", "(I)I"⟩
abbrev b_Pt_filled : ByteArray := prog_4_method_5_code
def y_Pt_filled : MethodName := ⟨"RuleKeeper$Pattern", "filled", "(I[I)I"⟩
abbrev b_Pt_bind : ByteArray := prog_4_method_6_code
def y_Pt_bind : MethodName := ⟨"RuleKeeper$Pattern", "bind", "(II[I)V"⟩
abbrev b_Ru_init : ByteArray := prog_5_method_1_code
def y_Ru_init : MethodName := ⟨"RuleKeeper$Rule", "<init>", "([LRuleKeeper$Pattern;LRuleKeeper$Pattern;)V"⟩
abbrev b_Sv_init : ByteArray := prog_6_method_1_code
def y_Sv_init : MethodName := ⟨"RuleKeeper$Solver", "<init>", "()V"⟩
abbrev b_Sv_derive : ByteArray := prog_6_method_2_code
def y_Sv_derive : MethodName := ⟨"RuleKeeper$Solver", "derive", "(LRuleKeeper$Rule;II)Z"⟩
abbrev b_Sv_casesGiving : ByteArray := prog_6_method_3_code
def y_Sv_casesGiving : MethodName := ⟨"RuleKeeper$Solver", "casesGiving", "(LRuleKeeper$Rule;I)I"⟩
abbrev b_Sv_isMatchedBefore : ByteArray := prog_6_method_4_code
def y_Sv_isMatchedBefore : MethodName := ⟨"RuleKeeper$Solver", "isMatchedBefore", "(LRuleKeeper$Pattern;II)Z"⟩
abbrev b_Sv_fillColumns : ByteArray := prog_6_method_5_code
def y_Sv_fillColumns : MethodName := ⟨"RuleKeeper$Solver", "fillColumns", "(LRuleKeeper$Rule;III)Z"⟩
abbrev b_Sv_addJoined : ByteArray := prog_6_method_6_code
def y_Sv_addJoined : MethodName := ⟨"RuleKeeper$Solver", "addJoined", "(LRuleKeeper$Solver;LRuleKeeper$Rule;II)Z"⟩
abbrev b_Sv_countJoined : ByteArray := prog_6_method_7_code
def y_Sv_countJoined : MethodName := ⟨"RuleKeeper$Solver", "countJoined", "(LRuleKeeper$Solver;II)I"⟩
abbrev b_Tr_init : ByteArray := prog_7_method_1_code
def y_Tr_init : MethodName := ⟨"RuleKeeper$Triples", "<init>", "()V"⟩
abbrev b_Tr_has : ByteArray := prog_7_method_2_code
def y_Tr_has : MethodName := ⟨"RuleKeeper$Triples", "has", "(I)Z"⟩
abbrev b_Tr_add : ByteArray := prog_7_method_3_code
def y_Tr_add : MethodName := ⟨"RuleKeeper$Triples", "add", "(I)Z"⟩
abbrev b_Tr_cutTo : ByteArray := prog_7_method_4_code
def y_Tr_cutTo : MethodName := ⟨"RuleKeeper$Triples", "cutTo", "(I)V"⟩
abbrev b_Tr_keepThose : ByteArray := prog_7_method_5_code
def y_Tr_keepThose : MethodName := ⟨"RuleKeeper$Triples", "keepThose", "(LRuleKeeper$Marks;)V"⟩
abbrev b_Lw_law : ByteArray := code
end
section
theorem k_0 : (.initialized "RuleKeeperLaw" : Cond) ∈ gw := List.mem_filter.mpr ⟨List.mem_append_right _ (List.mem_of_getElem? (i := 0) (by decide +kernel)), rfl⟩
theorem k_1 : (.initialized "RuleKeeper" : Cond) ∈ gw := List.mem_filter.mpr ⟨List.mem_append_right _ (List.mem_of_getElem? (i := 1) (by decide +kernel)), rfl⟩
theorem k_2 : (.initialized "RuleKeeper$Solver" : Cond) ∈ gw := List.mem_filter.mpr ⟨List.mem_append_right _ (List.mem_of_getElem? (i := 2) (by decide +kernel)), rfl⟩
theorem k_3 : (.initialized "RuleKeeper$Triples" : Cond) ∈ gw := List.mem_filter.mpr ⟨List.mem_append_right _ (List.mem_of_getElem? (i := 3) (by decide +kernel)), rfl⟩
theorem k_4 : (.initialized "RuleKeeper$Marks" : Cond) ∈ gw := List.mem_filter.mpr ⟨List.mem_append_right _ (List.mem_of_getElem? (i := 4) (by decide +kernel)), rfl⟩
theorem k_5 : (.initialized "RuleKeeper$Column" : Cond) ∈ gw := List.mem_filter.mpr ⟨List.mem_append_right _ (List.mem_of_getElem? (i := 5) (by decide +kernel)), rfl⟩
theorem k_6 : (.initialized "RuleKeeper$Pattern" : Cond) ∈ gw := List.mem_filter.mpr ⟨List.mem_append_right _ (List.mem_of_getElem? (i := 6) (by decide +kernel)), rfl⟩
theorem k_7 : (.initialized "RuleKeeper$Rule" : Cond) ∈ gw := List.mem_filter.mpr ⟨List.mem_append_right _ (List.mem_of_getElem? (i := 7) (by decide +kernel)), rfl⟩
theorem k_8 : (.initialized "RuleKeeperModel" : Cond) ∈ gw := List.mem_filter.mpr ⟨List.mem_append_right _ (List.mem_of_getElem? (i := 8) (by decide +kernel)), rfl⟩
theorem k_9 : (.initialized "java/lang/Math" : Cond) ∈ gw := List.mem_filter.mpr ⟨List.mem_append_right _ (List.mem_of_getElem? (i := 9) (by decide +kernel)), rfl⟩
theorem k_10 : (.classLink "RuleKeeperLaw" 7 "RuleKeeper" : Cond) ∈ gw := List.mem_filter.mpr ⟨List.mem_append_right _ (List.mem_of_getElem? (i := 10) (by decide +kernel)), rfl⟩
theorem k_11 : (.instantiable "RuleKeeper" 7 : Cond) ∈ gw := List.mem_filter.mpr ⟨List.mem_append_right _ (List.mem_of_getElem? (i := 11) (by decide +kernel)), rfl⟩
theorem k_12 : (.methodLink "RuleKeeperLaw" 9 y_Kp_init : Cond) ∈ gw := List.mem_filter.mpr ⟨List.mem_append_right _ (List.mem_of_getElem? (i := 12) (by decide +kernel)), rfl⟩
theorem k_13 : (.instanceMethod y_Kp_init : Cond) ∈ gw := List.mem_filter.mpr ⟨List.mem_append_right _ (List.mem_of_getElem? (i := 13) (by decide +kernel)), rfl⟩
theorem k_14 : (.code y_Kp_init b_Kp_init 4 none : Cond) ∈ gw := List.mem_filter.mpr ⟨List.mem_append_right _ (List.mem_of_getElem? (i := 14) (by decide +kernel)), rfl⟩
theorem k_15 : (.methodLink "RuleKeeper" 3 ⟨"java/lang/Object", "<init>", "()V"⟩ : Cond) ∈ gw := List.mem_filter.mpr ⟨List.mem_append_right _ (List.mem_of_getElem? (i := 15) (by decide +kernel)), rfl⟩
theorem k_16 : (.instanceMethod ⟨"java/lang/Object", "<init>", "()V"⟩ : Cond) ∈ gw := List.mem_filter.mpr ⟨List.mem_append_right _ (List.mem_of_getElem? (i := 16) (by decide +kernel)), rfl⟩
theorem k_17 : (.code objectInit ⟨#[0xb1]⟩ 1 none : Cond) ∈ gw := List.mem_filter.mpr ⟨List.mem_append_right _ (List.mem_of_getElem? (i := 17) (by decide +kernel)), rfl⟩
theorem k_18 : (.classLink "RuleKeeper" 9 "RuleKeeper$Solver" : Cond) ∈ gw := List.mem_filter.mpr ⟨List.mem_append_right _ (List.mem_of_getElem? (i := 18) (by decide +kernel)), rfl⟩
theorem k_19 : (.instantiable "RuleKeeper$Solver" 4 : Cond) ∈ gw := List.mem_filter.mpr ⟨List.mem_append_right _ (List.mem_of_getElem? (i := 19) (by decide +kernel)), rfl⟩
theorem k_20 : (.methodLink "RuleKeeper" 11 y_Sv_init : Cond) ∈ gw := List.mem_filter.mpr ⟨List.mem_append_right _ (List.mem_of_getElem? (i := 20) (by decide +kernel)), rfl⟩
theorem k_21 : (.instanceMethod y_Sv_init : Cond) ∈ gw := List.mem_filter.mpr ⟨List.mem_append_right _ (List.mem_of_getElem? (i := 21) (by decide +kernel)), rfl⟩
theorem k_22 : (.code y_Sv_init b_Sv_init 2 none : Cond) ∈ gw := List.mem_filter.mpr ⟨List.mem_append_right _ (List.mem_of_getElem? (i := 22) (by decide +kernel)), rfl⟩
theorem k_23 : (.methodLink "RuleKeeper$Solver" 3 ⟨"java/lang/Object", "<init>", "()V"⟩ : Cond) ∈ gw := List.mem_filter.mpr ⟨List.mem_append_right _ (List.mem_of_getElem? (i := 23) (by decide +kernel)), rfl⟩
theorem k_24 : (.classLink "RuleKeeper$Solver" 9 "RuleKeeper$Triples" : Cond) ∈ gw := List.mem_filter.mpr ⟨List.mem_append_right _ (List.mem_of_getElem? (i := 24) (by decide +kernel)), rfl⟩
theorem k_25 : (.instantiable "RuleKeeper$Triples" 3 : Cond) ∈ gw := List.mem_filter.mpr ⟨List.mem_append_right _ (List.mem_of_getElem? (i := 25) (by decide +kernel)), rfl⟩
theorem k_26 : (.methodLink "RuleKeeper$Solver" 11 y_Tr_init : Cond) ∈ gw := List.mem_filter.mpr ⟨List.mem_append_right _ (List.mem_of_getElem? (i := 26) (by decide +kernel)), rfl⟩
theorem k_27 : (.instanceMethod y_Tr_init : Cond) ∈ gw := List.mem_filter.mpr ⟨List.mem_append_right _ (List.mem_of_getElem? (i := 27) (by decide +kernel)), rfl⟩
theorem k_28 : (.code y_Tr_init b_Tr_init 1 none : Cond) ∈ gw := List.mem_filter.mpr ⟨List.mem_append_right _ (List.mem_of_getElem? (i := 28) (by decide +kernel)), rfl⟩
theorem k_29 : (.methodLink "RuleKeeper$Triples" 3 ⟨"java/lang/Object", "<init>", "()V"⟩ : Cond) ∈ gw := List.mem_filter.mpr ⟨List.mem_append_right _ (List.mem_of_getElem? (i := 29) (by decide +kernel)), rfl⟩
theorem k_30 : (.classLink "RuleKeeper$Triples" 15 "RuleKeeper$Marks" : Cond) ∈ gw := List.mem_filter.mpr ⟨List.mem_append_right _ (List.mem_of_getElem? (i := 30) (by decide +kernel)), rfl⟩
theorem k_31 : (.instantiable "RuleKeeper$Marks" 1 : Cond) ∈ gw := List.mem_filter.mpr ⟨List.mem_append_right _ (List.mem_of_getElem? (i := 31) (by decide +kernel)), rfl⟩
theorem k_32 : (.methodLink "RuleKeeper$Triples" 17 y_Mk_init : Cond) ∈ gw := List.mem_filter.mpr ⟨List.mem_append_right _ (List.mem_of_getElem? (i := 32) (by decide +kernel)), rfl⟩
theorem k_33 : (.instanceMethod y_Mk_init : Cond) ∈ gw := List.mem_filter.mpr ⟨List.mem_append_right _ (List.mem_of_getElem? (i := 33) (by decide +kernel)), rfl⟩
theorem k_34 : (.code y_Mk_init b_Mk_init 1 none : Cond) ∈ gw := List.mem_filter.mpr ⟨List.mem_append_right _ (List.mem_of_getElem? (i := 34) (by decide +kernel)), rfl⟩
theorem k_35 : (.methodLink "RuleKeeper$Marks" 3 ⟨"java/lang/Object", "<init>", "()V"⟩ : Cond) ∈ gw := List.mem_filter.mpr ⟨List.mem_append_right _ (List.mem_of_getElem? (i := 35) (by decide +kernel)), rfl⟩
theorem k_36 : (.fieldLink "RuleKeeper$Marks" 9 "RuleKeeper$Marks" "words" "[I" : Cond) ∈ gw := List.mem_filter.mpr ⟨List.mem_append_right _ (List.mem_of_getElem? (i := 36) (by decide +kernel)), rfl⟩
theorem k_37 : (.laysFinal "RuleKeeper$Marks" "RuleKeeper$Marks" "words" "[I" : Cond) ∈ gw := List.mem_filter.mpr ⟨List.mem_append_right _ (List.mem_of_getElem? (i := 37) (by decide +kernel)), rfl⟩
theorem k_40 : (.arrayClass .int : Cond) ∈ gw := List.mem_filter.mpr ⟨List.mem_append_right _ (List.mem_of_getElem? (i := 40) (by decide +kernel)), rfl⟩
theorem k_41 : (.fieldLink "RuleKeeper$Triples" 9 "RuleKeeper$Triples" "codes" "[I" : Cond) ∈ gw := List.mem_filter.mpr ⟨List.mem_append_right _ (List.mem_of_getElem? (i := 41) (by decide +kernel)), rfl⟩
theorem k_42 : (.fieldLink "RuleKeeper$Solver" 39 "RuleKeeper$Triples" "codes" "[I" : Cond) ∈ gw := List.mem_filter.mpr ⟨List.mem_append_right _ (List.mem_of_getElem? (i := 42) (by decide +kernel)), rfl⟩
theorem k_43 : (.fieldLink "RuleKeeper$Column" 54 "RuleKeeper$Triples" "codes" "[I" : Cond) ∈ gw := List.mem_filter.mpr ⟨List.mem_append_right _ (List.mem_of_getElem? (i := 43) (by decide +kernel)), rfl⟩
theorem k_44 : (.fieldLink "RuleKeeper" 106 "RuleKeeper$Triples" "codes" "[I" : Cond) ∈ gw := List.mem_filter.mpr ⟨List.mem_append_right _ (List.mem_of_getElem? (i := 44) (by decide +kernel)), rfl⟩
theorem k_45 : (.fieldLink "RuleKeeper$Triples" 18 "RuleKeeper$Triples" "present" "LRuleKeeper$Marks;" : Cond) ∈ gw := List.mem_filter.mpr ⟨List.mem_append_right _ (List.mem_of_getElem? (i := 45) (by decide +kernel)), rfl⟩
theorem k_46 : (.fieldLink "RuleKeeper$Triples" 22 "RuleKeeper$Triples" "count" "I" : Cond) ∈ gw := List.mem_filter.mpr ⟨List.mem_append_right _ (List.mem_of_getElem? (i := 46) (by decide +kernel)), rfl⟩
theorem k_47 : (.fieldLink "RuleKeeper$Column" 51 "RuleKeeper$Triples" "count" "I" : Cond) ∈ gw := List.mem_filter.mpr ⟨List.mem_append_right _ (List.mem_of_getElem? (i := 47) (by decide +kernel)), rfl⟩
theorem k_48 : (.fieldLink "RuleKeeper$Solver" 74 "RuleKeeper$Triples" "count" "I" : Cond) ∈ gw := List.mem_filter.mpr ⟨List.mem_append_right _ (List.mem_of_getElem? (i := 48) (by decide +kernel)), rfl⟩
theorem k_49 : (.fieldLink "RuleKeeper" 88 "RuleKeeper$Triples" "count" "I" : Cond) ∈ gw := List.mem_filter.mpr ⟨List.mem_append_right _ (List.mem_of_getElem? (i := 49) (by decide +kernel)), rfl⟩
theorem k_50 : (.laysFinal "RuleKeeper$Triples" "RuleKeeper$Triples" "codes" "[I" : Cond) ∈ gw := List.mem_filter.mpr ⟨List.mem_append_right _ (List.mem_of_getElem? (i := 50) (by decide +kernel)), rfl⟩
theorem k_52 : (.laysFinal "RuleKeeper$Triples" "RuleKeeper$Triples" "present" "LRuleKeeper$Marks;" : Cond) ∈ gw := List.mem_filter.mpr ⟨List.mem_append_right _ (List.mem_of_getElem? (i := 52) (by decide +kernel)), rfl⟩
theorem k_54 : (.lays "RuleKeeper$Triples" "RuleKeeper$Triples" "count" "I" : Cond) ∈ gw := List.mem_filter.mpr ⟨List.mem_append_right _ (List.mem_of_getElem? (i := 54) (by decide +kernel)), rfl⟩
theorem k_57 : (.classLink "RuleKeeper$Solver" 22 "RuleKeeper$Column" : Cond) ∈ gw := List.mem_filter.mpr ⟨List.mem_append_right _ (List.mem_of_getElem? (i := 57) (by decide +kernel)), rfl⟩
theorem k_59 : (.instantiable "RuleKeeper$Column" 6 : Cond) ∈ gw := List.mem_filter.mpr ⟨List.mem_append_right _ (List.mem_of_getElem? (i := 59) (by decide +kernel)), rfl⟩
theorem k_60 : (.methodLink "RuleKeeper$Solver" 32 y_Co_init : Cond) ∈ gw := List.mem_filter.mpr ⟨List.mem_append_right _ (List.mem_of_getElem? (i := 60) (by decide +kernel)), rfl⟩
theorem k_61 : (.instanceMethod y_Co_init : Cond) ∈ gw := List.mem_filter.mpr ⟨List.mem_append_right _ (List.mem_of_getElem? (i := 61) (by decide +kernel)), rfl⟩
theorem k_62 : (.code y_Co_init b_Co_init 1 none : Cond) ∈ gw := List.mem_filter.mpr ⟨List.mem_append_right _ (List.mem_of_getElem? (i := 62) (by decide +kernel)), rfl⟩
theorem k_63 : (.methodLink "RuleKeeper$Column" 3 ⟨"java/lang/Object", "<init>", "()V"⟩ : Cond) ∈ gw := List.mem_filter.mpr ⟨List.mem_append_right _ (List.mem_of_getElem? (i := 63) (by decide +kernel)), rfl⟩
theorem k_64 : (.classLink "RuleKeeper$Column" 21 "RuleKeeper$Pattern" : Cond) ∈ gw := List.mem_filter.mpr ⟨List.mem_append_right _ (List.mem_of_getElem? (i := 64) (by decide +kernel)), rfl⟩
theorem k_65 : (.instantiable "RuleKeeper$Pattern" 8 : Cond) ∈ gw := List.mem_filter.mpr ⟨List.mem_append_right _ (List.mem_of_getElem? (i := 65) (by decide +kernel)), rfl⟩
theorem k_66 : (.methodLink "RuleKeeper$Column" 23 y_Pt_init : Cond) ∈ gw := List.mem_filter.mpr ⟨List.mem_append_right _ (List.mem_of_getElem? (i := 66) (by decide +kernel)), rfl⟩
theorem k_67 : (.instanceMethod y_Pt_init : Cond) ∈ gw := List.mem_filter.mpr ⟨List.mem_append_right _ (List.mem_of_getElem? (i := 67) (by decide +kernel)), rfl⟩
theorem k_68 : (.code y_Pt_init b_Pt_init 9 none : Cond) ∈ gw := List.mem_filter.mpr ⟨List.mem_append_right _ (List.mem_of_getElem? (i := 68) (by decide +kernel)), rfl⟩
theorem k_69 : (.methodLink "RuleKeeper$Pattern" 3 ⟨"java/lang/Object", "<init>", "()V"⟩ : Cond) ∈ gw := List.mem_filter.mpr ⟨List.mem_append_right _ (List.mem_of_getElem? (i := 69) (by decide +kernel)), rfl⟩
theorem k_72 : (.fieldLink "RuleKeeper$Pattern" 9 "RuleKeeper$Pattern" "bits" "[I" : Cond) ∈ gw := List.mem_filter.mpr ⟨List.mem_append_right _ (List.mem_of_getElem? (i := 72) (by decide +kernel)), rfl⟩
theorem k_73 : (.fieldLink "RuleKeeper$Pattern" 15 "RuleKeeper$Pattern" "slots" "[I" : Cond) ∈ gw := List.mem_filter.mpr ⟨List.mem_append_right _ (List.mem_of_getElem? (i := 73) (by decide +kernel)), rfl⟩
theorem k_74 : (.fieldLink "RuleKeeper$Rule" 21 "RuleKeeper$Pattern" "variables" "I" : Cond) ∈ gw := List.mem_filter.mpr ⟨List.mem_append_right _ (List.mem_of_getElem? (i := 74) (by decide +kernel)), rfl⟩
theorem k_75 : (.fieldLink "RuleKeeper$Pattern" 21 "RuleKeeper$Pattern" "variables" "I" : Cond) ∈ gw := List.mem_filter.mpr ⟨List.mem_append_right _ (List.mem_of_getElem? (i := 75) (by decide +kernel)), rfl⟩
theorem k_76 : (.fieldLink "RuleKeeper$Solver" 71 "RuleKeeper$Pattern" "variables" "I" : Cond) ∈ gw := List.mem_filter.mpr ⟨List.mem_append_right _ (List.mem_of_getElem? (i := 76) (by decide +kernel)), rfl⟩
theorem k_77 : (.fieldLink "RuleKeeper" 119 "RuleKeeper$Pattern" "variables" "I" : Cond) ∈ gw := List.mem_filter.mpr ⟨List.mem_append_right _ (List.mem_of_getElem? (i := 77) (by decide +kernel)), rfl⟩
theorem k_78 : (.fieldLink "RuleKeeper$Pattern" 25 "RuleKeeper$Pattern" "numberMask" "I" : Cond) ∈ gw := List.mem_filter.mpr ⟨List.mem_append_right _ (List.mem_of_getElem? (i := 78) (by decide +kernel)), rfl⟩
theorem k_79 : (.fieldLink "RuleKeeper$Column" 37 "RuleKeeper$Pattern" "numberMask" "I" : Cond) ∈ gw := List.mem_filter.mpr ⟨List.mem_append_right _ (List.mem_of_getElem? (i := 79) (by decide +kernel)), rfl⟩
theorem k_80 : (.fieldLink "RuleKeeper$Solver" 81 "RuleKeeper$Pattern" "numberMask" "I" : Cond) ∈ gw := List.mem_filter.mpr ⟨List.mem_append_right _ (List.mem_of_getElem? (i := 80) (by decide +kernel)), rfl⟩
theorem k_81 : (.fieldLink "RuleKeeper$Pattern" 28 "RuleKeeper$Pattern" "numberCode" "I" : Cond) ∈ gw := List.mem_filter.mpr ⟨List.mem_append_right _ (List.mem_of_getElem? (i := 81) (by decide +kernel)), rfl⟩
theorem k_82 : (.fieldLink "RuleKeeper$Column" 44 "RuleKeeper$Pattern" "numberCode" "I" : Cond) ∈ gw := List.mem_filter.mpr ⟨List.mem_append_right _ (List.mem_of_getElem? (i := 82) (by decide +kernel)), rfl⟩
theorem k_83 : (.fieldLink "RuleKeeper$Solver" 88 "RuleKeeper$Pattern" "numberCode" "I" : Cond) ∈ gw := List.mem_filter.mpr ⟨List.mem_append_right _ (List.mem_of_getElem? (i := 83) (by decide +kernel)), rfl⟩
theorem k_84 : (.fieldLink "RuleKeeper$Pattern" 31 "RuleKeeper$Pattern" "sameAB" "Z" : Cond) ∈ gw := List.mem_filter.mpr ⟨List.mem_append_right _ (List.mem_of_getElem? (i := 84) (by decide +kernel)), rfl⟩
theorem k_85 : (.fieldLink "RuleKeeper$Pattern" 35 "RuleKeeper$Pattern" "sameAC" "Z" : Cond) ∈ gw := List.mem_filter.mpr ⟨List.mem_append_right _ (List.mem_of_getElem? (i := 85) (by decide +kernel)), rfl⟩
theorem k_86 : (.fieldLink "RuleKeeper$Pattern" 38 "RuleKeeper$Pattern" "sameBC" "Z" : Cond) ∈ gw := List.mem_filter.mpr ⟨List.mem_append_right _ (List.mem_of_getElem? (i := 86) (by decide +kernel)), rfl⟩
theorem k_87 : (.laysFinal "RuleKeeper$Pattern" "RuleKeeper$Pattern" "bits" "[I" : Cond) ∈ gw := List.mem_filter.mpr ⟨List.mem_append_right _ (List.mem_of_getElem? (i := 87) (by decide +kernel)), rfl⟩
theorem k_89 : (.laysFinal "RuleKeeper$Pattern" "RuleKeeper$Pattern" "slots" "[I" : Cond) ∈ gw := List.mem_filter.mpr ⟨List.mem_append_right _ (List.mem_of_getElem? (i := 89) (by decide +kernel)), rfl⟩
theorem k_91 : (.laysFinal "RuleKeeper$Pattern" "RuleKeeper$Pattern" "variables" "I" : Cond) ∈ gw := List.mem_filter.mpr ⟨List.mem_append_right _ (List.mem_of_getElem? (i := 91) (by decide +kernel)), rfl⟩
theorem k_93 : (.laysFinal "RuleKeeper$Pattern" "RuleKeeper$Pattern" "numberMask" "I" : Cond) ∈ gw := List.mem_filter.mpr ⟨List.mem_append_right _ (List.mem_of_getElem? (i := 93) (by decide +kernel)), rfl⟩
theorem k_95 : (.laysFinal "RuleKeeper$Pattern" "RuleKeeper$Pattern" "numberCode" "I" : Cond) ∈ gw := List.mem_filter.mpr ⟨List.mem_append_right _ (List.mem_of_getElem? (i := 95) (by decide +kernel)), rfl⟩
theorem k_97 : (.laysFinal "RuleKeeper$Pattern" "RuleKeeper$Pattern" "sameAB" "Z" : Cond) ∈ gw := List.mem_filter.mpr ⟨List.mem_append_right _ (List.mem_of_getElem? (i := 97) (by decide +kernel)), rfl⟩
theorem k_99 : (.laysFinal "RuleKeeper$Pattern" "RuleKeeper$Pattern" "sameAC" "Z" : Cond) ∈ gw := List.mem_filter.mpr ⟨List.mem_append_right _ (List.mem_of_getElem? (i := 99) (by decide +kernel)), rfl⟩
theorem k_101 : (.laysFinal "RuleKeeper$Pattern" "RuleKeeper$Pattern" "sameBC" "Z" : Cond) ∈ gw := List.mem_filter.mpr ⟨List.mem_append_right _ (List.mem_of_getElem? (i := 101) (by decide +kernel)), rfl⟩
theorem k_104 : (.fieldLink "RuleKeeper$Column" 9 "RuleKeeper$Column" "parts" "[I" : Cond) ∈ gw := List.mem_filter.mpr ⟨List.mem_append_right _ (List.mem_of_getElem? (i := 104) (by decide +kernel)), rfl⟩
theorem k_105 : (.fieldLink "RuleKeeper$Solver" 115 "RuleKeeper$Column" "parts" "[I" : Cond) ∈ gw := List.mem_filter.mpr ⟨List.mem_append_right _ (List.mem_of_getElem? (i := 105) (by decide +kernel)), rfl⟩
theorem k_106 : (.fieldLink "RuleKeeper$Column" 15 "RuleKeeper$Column" "times" "[I" : Cond) ∈ gw := List.mem_filter.mpr ⟨List.mem_append_right _ (List.mem_of_getElem? (i := 106) (by decide +kernel)), rfl⟩
theorem k_107 : (.fieldLink "RuleKeeper$Solver" 118 "RuleKeeper$Column" "times" "[I" : Cond) ∈ gw := List.mem_filter.mpr ⟨List.mem_append_right _ (List.mem_of_getElem? (i := 107) (by decide +kernel)), rfl⟩
theorem k_108 : (.fieldLink "RuleKeeper$Column" 18 "RuleKeeper$Column" "places" "[I" : Cond) ∈ gw := List.mem_filter.mpr ⟨List.mem_append_right _ (List.mem_of_getElem? (i := 108) (by decide +kernel)), rfl⟩
theorem k_109 : (.fieldLink "RuleKeeper$Column" 26 "RuleKeeper$Column" "source" "LRuleKeeper$Pattern;" : Cond) ∈ gw := List.mem_filter.mpr ⟨List.mem_append_right _ (List.mem_of_getElem? (i := 109) (by decide +kernel)), rfl⟩
theorem k_110 : (.fieldLink "RuleKeeper$Solver" 98 "RuleKeeper$Column" "source" "LRuleKeeper$Pattern;" : Cond) ∈ gw := List.mem_filter.mpr ⟨List.mem_append_right _ (List.mem_of_getElem? (i := 110) (by decide +kernel)), rfl⟩
theorem k_111 : (.fieldLink "RuleKeeper$Column" 30 "RuleKeeper$Column" "kept" "I" : Cond) ∈ gw := List.mem_filter.mpr ⟨List.mem_append_right _ (List.mem_of_getElem? (i := 111) (by decide +kernel)), rfl⟩
theorem k_112 : (.fieldLink "RuleKeeper$Solver" 101 "RuleKeeper$Column" "kept" "I" : Cond) ∈ gw := List.mem_filter.mpr ⟨List.mem_append_right _ (List.mem_of_getElem? (i := 112) (by decide +kernel)), rfl⟩
theorem k_113 : (.fieldLink "RuleKeeper$Column" 34 "RuleKeeper$Column" "count" "I" : Cond) ∈ gw := List.mem_filter.mpr ⟨List.mem_append_right _ (List.mem_of_getElem? (i := 113) (by decide +kernel)), rfl⟩
theorem k_114 : (.fieldLink "RuleKeeper$Solver" 108 "RuleKeeper$Column" "count" "I" : Cond) ∈ gw := List.mem_filter.mpr ⟨List.mem_append_right _ (List.mem_of_getElem? (i := 114) (by decide +kernel)), rfl⟩
theorem k_115 : (.laysFinal "RuleKeeper$Column" "RuleKeeper$Column" "parts" "[I" : Cond) ∈ gw := List.mem_filter.mpr ⟨List.mem_append_right _ (List.mem_of_getElem? (i := 115) (by decide +kernel)), rfl⟩
theorem k_117 : (.laysFinal "RuleKeeper$Column" "RuleKeeper$Column" "times" "[I" : Cond) ∈ gw := List.mem_filter.mpr ⟨List.mem_append_right _ (List.mem_of_getElem? (i := 117) (by decide +kernel)), rfl⟩
theorem k_119 : (.laysFinal "RuleKeeper$Column" "RuleKeeper$Column" "places" "[I" : Cond) ∈ gw := List.mem_filter.mpr ⟨List.mem_append_right _ (List.mem_of_getElem? (i := 119) (by decide +kernel)), rfl⟩
theorem k_121 : (.lays "RuleKeeper$Column" "RuleKeeper$Column" "source" "LRuleKeeper$Pattern;" : Cond) ∈ gw := List.mem_filter.mpr ⟨List.mem_append_right _ (List.mem_of_getElem? (i := 121) (by decide +kernel)), rfl⟩
theorem k_123 : (.lays "RuleKeeper$Column" "RuleKeeper$Column" "kept" "I" : Cond) ∈ gw := List.mem_filter.mpr ⟨List.mem_append_right _ (List.mem_of_getElem? (i := 123) (by decide +kernel)), rfl⟩
theorem k_125 : (.lays "RuleKeeper$Column" "RuleKeeper$Column" "count" "I" : Cond) ∈ gw := List.mem_filter.mpr ⟨List.mem_append_right _ (List.mem_of_getElem? (i := 125) (by decide +kernel)), rfl⟩
theorem k_128 : (.fieldLink "RuleKeeper$Solver" 12 "RuleKeeper$Solver" "held" "LRuleKeeper$Triples;" : Cond) ∈ gw := List.mem_filter.mpr ⟨List.mem_append_right _ (List.mem_of_getElem? (i := 128) (by decide +kernel)), rfl⟩
theorem k_129 : (.fieldLink "RuleKeeper" 16 "RuleKeeper$Solver" "held" "LRuleKeeper$Triples;" : Cond) ∈ gw := List.mem_filter.mpr ⟨List.mem_append_right _ (List.mem_of_getElem? (i := 129) (by decide +kernel)), rfl⟩
theorem k_130 : (.fieldLink "RuleKeeper$Solver" 18 "RuleKeeper$Solver" "values" "[I" : Cond) ∈ gw := List.mem_filter.mpr ⟨List.mem_append_right _ (List.mem_of_getElem? (i := 130) (by decide +kernel)), rfl⟩
theorem k_131 : (.fieldLink "RuleKeeper$Solver" 24 "RuleKeeper$Solver" "columns" "[LRuleKeeper$Column;" : Cond) ∈ gw := List.mem_filter.mpr ⟨List.mem_append_right _ (List.mem_of_getElem? (i := 131) (by decide +kernel)), rfl⟩
theorem k_132 : (.fieldLink "RuleKeeper$Solver" 28 "RuleKeeper$Solver" "columnCount" "I" : Cond) ∈ gw := List.mem_filter.mpr ⟨List.mem_append_right _ (List.mem_of_getElem? (i := 132) (by decide +kernel)), rfl⟩
theorem k_133 : (.laysFinal "RuleKeeper$Solver" "RuleKeeper$Solver" "held" "LRuleKeeper$Triples;" : Cond) ∈ gw := List.mem_filter.mpr ⟨List.mem_append_right _ (List.mem_of_getElem? (i := 133) (by decide +kernel)), rfl⟩
theorem k_135 : (.laysFinal "RuleKeeper$Solver" "RuleKeeper$Solver" "values" "[I" : Cond) ∈ gw := List.mem_filter.mpr ⟨List.mem_append_right _ (List.mem_of_getElem? (i := 135) (by decide +kernel)), rfl⟩
theorem k_137 : (.laysFinal "RuleKeeper$Solver" "RuleKeeper$Solver" "columns" "[LRuleKeeper$Column;" : Cond) ∈ gw := List.mem_filter.mpr ⟨List.mem_append_right _ (List.mem_of_getElem? (i := 137) (by decide +kernel)), rfl⟩
theorem k_139 : (.lays "RuleKeeper$Solver" "RuleKeeper$Solver" "columnCount" "I" : Cond) ∈ gw := List.mem_filter.mpr ⟨List.mem_append_right _ (List.mem_of_getElem? (i := 139) (by decide +kernel)), rfl⟩
theorem k_142 : (.classLink "RuleKeeper" 21 "RuleKeeper$Marks" : Cond) ∈ gw := List.mem_filter.mpr ⟨List.mem_append_right _ (List.mem_of_getElem? (i := 142) (by decide +kernel)), rfl⟩
theorem k_143 : (.methodLink "RuleKeeper" 23 y_Mk_init : Cond) ∈ gw := List.mem_filter.mpr ⟨List.mem_append_right _ (List.mem_of_getElem? (i := 143) (by decide +kernel)), rfl⟩
theorem k_144 : (.classLink "RuleKeeper" 28 "RuleKeeper$Pattern" : Cond) ∈ gw := List.mem_filter.mpr ⟨List.mem_append_right _ (List.mem_of_getElem? (i := 144) (by decide +kernel)), rfl⟩
theorem k_146 : (.classLink "RuleKeeper" 34 "RuleKeeper$Rule" : Cond) ∈ gw := List.mem_filter.mpr ⟨List.mem_append_right _ (List.mem_of_getElem? (i := 146) (by decide +kernel)), rfl⟩
theorem k_148 : (.methodLink "RuleKeeper" 47 y_Pt_init : Cond) ∈ gw := List.mem_filter.mpr ⟨List.mem_append_right _ (List.mem_of_getElem? (i := 148) (by decide +kernel)), rfl⟩
theorem k_149 : (.instantiable "RuleKeeper$Rule" 3 : Cond) ∈ gw := List.mem_filter.mpr ⟨List.mem_append_right _ (List.mem_of_getElem? (i := 149) (by decide +kernel)), rfl⟩
theorem k_150 : (.methodLink "RuleKeeper" 50 y_Ru_init : Cond) ∈ gw := List.mem_filter.mpr ⟨List.mem_append_right _ (List.mem_of_getElem? (i := 150) (by decide +kernel)), rfl⟩
theorem k_151 : (.instanceMethod y_Ru_init : Cond) ∈ gw := List.mem_filter.mpr ⟨List.mem_append_right _ (List.mem_of_getElem? (i := 151) (by decide +kernel)), rfl⟩
theorem k_152 : (.code y_Ru_init b_Ru_init 6 none : Cond) ∈ gw := List.mem_filter.mpr ⟨List.mem_append_right _ (List.mem_of_getElem? (i := 152) (by decide +kernel)), rfl⟩
theorem k_153 : (.methodLink "RuleKeeper$Rule" 1 ⟨"java/lang/Object", "<init>", "()V"⟩ : Cond) ∈ gw := List.mem_filter.mpr ⟨List.mem_append_right _ (List.mem_of_getElem? (i := 153) (by decide +kernel)), rfl⟩
theorem k_154 : (.fieldLink "RuleKeeper$Rule" 7 "RuleKeeper$Rule" "body" "[LRuleKeeper$Pattern;" : Cond) ∈ gw := List.mem_filter.mpr ⟨List.mem_append_right _ (List.mem_of_getElem? (i := 154) (by decide +kernel)), rfl⟩
theorem k_155 : (.fieldLink "RuleKeeper$Solver" 33 "RuleKeeper$Rule" "body" "[LRuleKeeper$Pattern;" : Cond) ∈ gw := List.mem_filter.mpr ⟨List.mem_append_right _ (List.mem_of_getElem? (i := 155) (by decide +kernel)), rfl⟩
theorem k_156 : (.fieldLink "RuleKeeper" 135 "RuleKeeper$Rule" "body" "[LRuleKeeper$Pattern;" : Cond) ∈ gw := List.mem_filter.mpr ⟨List.mem_append_right _ (List.mem_of_getElem? (i := 156) (by decide +kernel)), rfl⟩
theorem k_157 : (.fieldLink "RuleKeeper$Rule" 13 "RuleKeeper$Rule" "head" "LRuleKeeper$Pattern;" : Cond) ∈ gw := List.mem_filter.mpr ⟨List.mem_append_right _ (List.mem_of_getElem? (i := 157) (by decide +kernel)), rfl⟩
theorem k_158 : (.fieldLink "RuleKeeper$Solver" 67 "RuleKeeper$Rule" "head" "LRuleKeeper$Pattern;" : Cond) ∈ gw := List.mem_filter.mpr ⟨List.mem_append_right _ (List.mem_of_getElem? (i := 158) (by decide +kernel)), rfl⟩
theorem k_159 : (.fieldLink "RuleKeeper$Rule" 17 "RuleKeeper$Rule" "shared" "[I" : Cond) ∈ gw := List.mem_filter.mpr ⟨List.mem_append_right _ (List.mem_of_getElem? (i := 159) (by decide +kernel)), rfl⟩
theorem k_160 : (.fieldLink "RuleKeeper$Solver" 48 "RuleKeeper$Rule" "shared" "[I" : Cond) ∈ gw := List.mem_filter.mpr ⟨List.mem_append_right _ (List.mem_of_getElem? (i := 160) (by decide +kernel)), rfl⟩
theorem k_161 : (.laysFinal "RuleKeeper$Rule" "RuleKeeper$Rule" "body" "[LRuleKeeper$Pattern;" : Cond) ∈ gw := List.mem_filter.mpr ⟨List.mem_append_right _ (List.mem_of_getElem? (i := 161) (by decide +kernel)), rfl⟩
theorem k_163 : (.laysFinal "RuleKeeper$Rule" "RuleKeeper$Rule" "head" "LRuleKeeper$Pattern;" : Cond) ∈ gw := List.mem_filter.mpr ⟨List.mem_append_right _ (List.mem_of_getElem? (i := 163) (by decide +kernel)), rfl⟩
theorem k_165 : (.laysFinal "RuleKeeper$Rule" "RuleKeeper$Rule" "shared" "[I" : Cond) ∈ gw := List.mem_filter.mpr ⟨List.mem_append_right _ (List.mem_of_getElem? (i := 165) (by decide +kernel)), rfl⟩
theorem k_168 : (.fieldLink "RuleKeeper" 12 "RuleKeeper" "solver" "LRuleKeeper$Solver;" : Cond) ∈ gw := List.mem_filter.mpr ⟨List.mem_append_right _ (List.mem_of_getElem? (i := 168) (by decide +kernel)), rfl⟩
theorem k_169 : (.fieldLink "RuleKeeper" 20 "RuleKeeper" "held" "LRuleKeeper$Triples;" : Cond) ∈ gw := List.mem_filter.mpr ⟨List.mem_append_right _ (List.mem_of_getElem? (i := 169) (by decide +kernel)), rfl⟩
theorem k_170 : (.fieldLink "RuleKeeper" 24 "RuleKeeper" "said" "LRuleKeeper$Marks;" : Cond) ∈ gw := List.mem_filter.mpr ⟨List.mem_append_right _ (List.mem_of_getElem? (i := 170) (by decide +kernel)), rfl⟩
theorem k_171 : (.fieldLink "RuleKeeper" 36 "RuleKeeper" "made" "[LRuleKeeper$Rule;" : Cond) ∈ gw := List.mem_filter.mpr ⟨List.mem_append_right _ (List.mem_of_getElem? (i := 171) (by decide +kernel)), rfl⟩
theorem k_172 : (.fieldLink "RuleKeeper" 30 "RuleKeeper" "draft" "[LRuleKeeper$Pattern;" : Cond) ∈ gw := List.mem_filter.mpr ⟨List.mem_append_right _ (List.mem_of_getElem? (i := 172) (by decide +kernel)), rfl⟩
theorem k_173 : (.fieldLink "RuleKeeper" 40 "RuleKeeper" "madeCount" "I" : Cond) ∈ gw := List.mem_filter.mpr ⟨List.mem_append_right _ (List.mem_of_getElem? (i := 173) (by decide +kernel)), rfl⟩
theorem k_174 : (.fieldLink "RuleKeeper" 44 "RuleKeeper" "draftCount" "I" : Cond) ∈ gw := List.mem_filter.mpr ⟨List.mem_append_right _ (List.mem_of_getElem? (i := 174) (by decide +kernel)), rfl⟩
theorem k_175 : (.laysFinal "RuleKeeper" "RuleKeeper" "solver" "LRuleKeeper$Solver;" : Cond) ∈ gw := List.mem_filter.mpr ⟨List.mem_append_right _ (List.mem_of_getElem? (i := 175) (by decide +kernel)), rfl⟩
theorem k_177 : (.laysFinal "RuleKeeper" "RuleKeeper" "held" "LRuleKeeper$Triples;" : Cond) ∈ gw := List.mem_filter.mpr ⟨List.mem_append_right _ (List.mem_of_getElem? (i := 177) (by decide +kernel)), rfl⟩
theorem k_179 : (.laysFinal "RuleKeeper" "RuleKeeper" "said" "LRuleKeeper$Marks;" : Cond) ∈ gw := List.mem_filter.mpr ⟨List.mem_append_right _ (List.mem_of_getElem? (i := 179) (by decide +kernel)), rfl⟩
theorem k_181 : (.laysFinal "RuleKeeper" "RuleKeeper" "made" "[LRuleKeeper$Rule;" : Cond) ∈ gw := List.mem_filter.mpr ⟨List.mem_append_right _ (List.mem_of_getElem? (i := 181) (by decide +kernel)), rfl⟩
theorem k_183 : (.laysFinal "RuleKeeper" "RuleKeeper" "draft" "[LRuleKeeper$Pattern;" : Cond) ∈ gw := List.mem_filter.mpr ⟨List.mem_append_right _ (List.mem_of_getElem? (i := 183) (by decide +kernel)), rfl⟩
theorem k_185 : (.lays "RuleKeeper" "RuleKeeper" "madeCount" "I" : Cond) ∈ gw := List.mem_filter.mpr ⟨List.mem_append_right _ (List.mem_of_getElem? (i := 185) (by decide +kernel)), rfl⟩
theorem k_187 : (.lays "RuleKeeper" "RuleKeeper" "draftCount" "I" : Cond) ∈ gw := List.mem_filter.mpr ⟨List.mem_append_right _ (List.mem_of_getElem? (i := 187) (by decide +kernel)), rfl⟩
theorem k_190 : (.methodLink "RuleKeeperLaw" 13 y_Kp_say : Cond) ∈ gw := List.mem_filter.mpr ⟨List.mem_append_right _ (List.mem_of_getElem? (i := 190) (by decide +kernel)), rfl⟩
theorem k_191 : (.instanceMethod y_Kp_say : Cond) ∈ gw := List.mem_filter.mpr ⟨List.mem_append_right _ (List.mem_of_getElem? (i := 191) (by decide +kernel)), rfl⟩
theorem k_192 : (.selects "RuleKeeper" y_Kp_say y_Kp_say : Cond) ∈ gw := List.mem_filter.mpr ⟨List.mem_append_right _ (List.mem_of_getElem? (i := 192) (by decide +kernel)), rfl⟩
theorem k_193 : (.code y_Kp_say b_Kp_say 5 (some .int) : Cond) ∈ gw := List.mem_filter.mpr ⟨List.mem_append_right _ (List.mem_of_getElem? (i := 193) (by decide +kernel)), rfl⟩
theorem k_194 : (.methodLink "RuleKeeper" 53 y_Kp_isTriple : Cond) ∈ gw := List.mem_filter.mpr ⟨List.mem_append_right _ (List.mem_of_getElem? (i := 194) (by decide +kernel)), rfl⟩
theorem k_195 : (.static y_Kp_isTriple : Cond) ∈ gw := List.mem_filter.mpr ⟨List.mem_append_right _ (List.mem_of_getElem? (i := 195) (by decide +kernel)), rfl⟩
theorem k_196 : (.code y_Kp_isTriple b_Kp_isTriple 3 (some .boolean) : Cond) ∈ gw := List.mem_filter.mpr ⟨List.mem_append_right _ (List.mem_of_getElem? (i := 196) (by decide +kernel)), rfl⟩
theorem k_197 : (.methodLink "RuleKeeper" 113 y_Kp_isNumber : Cond) ∈ gw := List.mem_filter.mpr ⟨List.mem_append_right _ (List.mem_of_getElem? (i := 197) (by decide +kernel)), rfl⟩
theorem k_198 : (.static y_Kp_isNumber : Cond) ∈ gw := List.mem_filter.mpr ⟨List.mem_append_right _ (List.mem_of_getElem? (i := 198) (by decide +kernel)), rfl⟩
theorem k_199 : (.code y_Kp_isNumber b_Kp_isNumber 1 (some .boolean) : Cond) ∈ gw := List.mem_filter.mpr ⟨List.mem_append_right _ (List.mem_of_getElem? (i := 199) (by decide +kernel)), rfl⟩
theorem k_200 : (.methodLink "RuleKeeper" 57 y_Kp_codeOf : Cond) ∈ gw := List.mem_filter.mpr ⟨List.mem_append_right _ (List.mem_of_getElem? (i := 200) (by decide +kernel)), rfl⟩
theorem k_201 : (.static y_Kp_codeOf : Cond) ∈ gw := List.mem_filter.mpr ⟨List.mem_append_right _ (List.mem_of_getElem? (i := 201) (by decide +kernel)), rfl⟩
theorem k_202 : (.code y_Kp_codeOf b_Kp_codeOf 3 (some .int) : Cond) ∈ gw := List.mem_filter.mpr ⟨List.mem_append_right _ (List.mem_of_getElem? (i := 202) (by decide +kernel)), rfl⟩
theorem k_203 : (.methodLink "RuleKeeper" 61 y_Mk_has : Cond) ∈ gw := List.mem_filter.mpr ⟨List.mem_append_right _ (List.mem_of_getElem? (i := 203) (by decide +kernel)), rfl⟩
theorem k_204 : (.instanceMethod y_Mk_has : Cond) ∈ gw := List.mem_filter.mpr ⟨List.mem_append_right _ (List.mem_of_getElem? (i := 204) (by decide +kernel)), rfl⟩
theorem k_205 : (.selects "RuleKeeper$Marks" y_Mk_has y_Mk_has : Cond) ∈ gw := List.mem_filter.mpr ⟨List.mem_append_right _ (List.mem_of_getElem? (i := 205) (by decide +kernel)), rfl⟩
theorem k_206 : (.code y_Mk_has b_Mk_has 2 (some .boolean) : Cond) ∈ gw := List.mem_filter.mpr ⟨List.mem_append_right _ (List.mem_of_getElem? (i := 206) (by decide +kernel)), rfl⟩
theorem k_207 : (.methodLink "RuleKeeper" 65 y_Tr_has : Cond) ∈ gw := List.mem_filter.mpr ⟨List.mem_append_right _ (List.mem_of_getElem? (i := 207) (by decide +kernel)), rfl⟩
theorem k_208 : (.instanceMethod y_Tr_has : Cond) ∈ gw := List.mem_filter.mpr ⟨List.mem_append_right _ (List.mem_of_getElem? (i := 208) (by decide +kernel)), rfl⟩
theorem k_209 : (.selects "RuleKeeper$Triples" y_Tr_has y_Tr_has : Cond) ∈ gw := List.mem_filter.mpr ⟨List.mem_append_right _ (List.mem_of_getElem? (i := 209) (by decide +kernel)), rfl⟩
theorem k_210 : (.code y_Tr_has b_Tr_has 2 (some .boolean) : Cond) ∈ gw := List.mem_filter.mpr ⟨List.mem_append_right _ (List.mem_of_getElem? (i := 210) (by decide +kernel)), rfl⟩
theorem k_211 : (.methodLink "RuleKeeper$Triples" 26 y_Mk_has : Cond) ∈ gw := List.mem_filter.mpr ⟨List.mem_append_right _ (List.mem_of_getElem? (i := 211) (by decide +kernel)), rfl⟩
theorem k_212 : (.methodLink "RuleKeeper" 68 y_Kp_hold : Cond) ∈ gw := List.mem_filter.mpr ⟨List.mem_append_right _ (List.mem_of_getElem? (i := 212) (by decide +kernel)), rfl⟩
theorem k_214 : (.instanceMethod y_Kp_hold : Cond) ∈ gw := List.mem_filter.mpr ⟨List.mem_append_right _ (List.mem_of_getElem? (i := 214) (by decide +kernel)), rfl⟩
theorem k_215 : (.code y_Kp_hold b_Kp_hold 3 (some .boolean) : Cond) ∈ gw := List.mem_filter.mpr ⟨List.mem_append_right _ (List.mem_of_getElem? (i := 215) (by decide +kernel)), rfl⟩
theorem k_216 : (.methodLink "RuleKeeper" 128 y_Tr_add : Cond) ∈ gw := List.mem_filter.mpr ⟨List.mem_append_right _ (List.mem_of_getElem? (i := 216) (by decide +kernel)), rfl⟩
theorem k_217 : (.instanceMethod y_Tr_add : Cond) ∈ gw := List.mem_filter.mpr ⟨List.mem_append_right _ (List.mem_of_getElem? (i := 217) (by decide +kernel)), rfl⟩
theorem k_218 : (.selects "RuleKeeper$Triples" y_Tr_add y_Tr_add : Cond) ∈ gw := List.mem_filter.mpr ⟨List.mem_append_right _ (List.mem_of_getElem? (i := 218) (by decide +kernel)), rfl⟩
theorem k_219 : (.code y_Tr_add b_Tr_add 2 (some .boolean) : Cond) ∈ gw := List.mem_filter.mpr ⟨List.mem_append_right _ (List.mem_of_getElem? (i := 219) (by decide +kernel)), rfl⟩
theorem k_220 : (.methodLink "RuleKeeper$Triples" 30 y_Mk_put : Cond) ∈ gw := List.mem_filter.mpr ⟨List.mem_append_right _ (List.mem_of_getElem? (i := 220) (by decide +kernel)), rfl⟩
theorem k_221 : (.instanceMethod y_Mk_put : Cond) ∈ gw := List.mem_filter.mpr ⟨List.mem_append_right _ (List.mem_of_getElem? (i := 221) (by decide +kernel)), rfl⟩
theorem k_222 : (.selects "RuleKeeper$Marks" y_Mk_put y_Mk_put : Cond) ∈ gw := List.mem_filter.mpr ⟨List.mem_append_right _ (List.mem_of_getElem? (i := 222) (by decide +kernel)), rfl⟩
theorem k_223 : (.code y_Mk_put b_Mk_put 2 none : Cond) ∈ gw := List.mem_filter.mpr ⟨List.mem_append_right _ (List.mem_of_getElem? (i := 223) (by decide +kernel)), rfl⟩
theorem k_224 : (.methodLink "RuleKeeper" 95 y_Kp_follow : Cond) ∈ gw := List.mem_filter.mpr ⟨List.mem_append_right _ (List.mem_of_getElem? (i := 224) (by decide +kernel)), rfl⟩
theorem k_226 : (.instanceMethod y_Kp_follow : Cond) ∈ gw := List.mem_filter.mpr ⟨List.mem_append_right _ (List.mem_of_getElem? (i := 226) (by decide +kernel)), rfl⟩
theorem k_227 : (.code y_Kp_follow b_Kp_follow 8 (some .boolean) : Cond) ∈ gw := List.mem_filter.mpr ⟨List.mem_append_right _ (List.mem_of_getElem? (i := 227) (by decide +kernel)), rfl⟩
theorem k_228 : (.methodLink "RuleKeeper" 122 ⟨"java/lang/Math", "max", "(II)I"⟩ : Cond) ∈ gw := List.mem_filter.mpr ⟨List.mem_append_right _ (List.mem_of_getElem? (i := 228) (by decide +kernel)), rfl⟩
theorem k_229 : (.static ⟨"java/lang/Math", "max", "(II)I"⟩ : Cond) ∈ gw := List.mem_filter.mpr ⟨List.mem_append_right _ (List.mem_of_getElem? (i := 229) (by decide +kernel)), rfl⟩
theorem k_230 : (.code Lib.Math.max.name Lib.Math.max.code 2 (some .int) : Cond) ∈ gw := List.mem_filter.mpr ⟨List.mem_append_right _ (List.mem_of_getElem? (i := 230) (by decide +kernel)), rfl⟩
theorem k_231 : (.methodLink "RuleKeeper" 138 y_Sv_derive : Cond) ∈ gw := List.mem_filter.mpr ⟨List.mem_append_right _ (List.mem_of_getElem? (i := 231) (by decide +kernel)), rfl⟩
theorem k_232 : (.instanceMethod y_Sv_derive : Cond) ∈ gw := List.mem_filter.mpr ⟨List.mem_append_right _ (List.mem_of_getElem? (i := 232) (by decide +kernel)), rfl⟩
theorem k_233 : (.selects "RuleKeeper$Solver" y_Sv_derive y_Sv_derive : Cond) ∈ gw := List.mem_filter.mpr ⟨List.mem_append_right _ (List.mem_of_getElem? (i := 233) (by decide +kernel)), rfl⟩
theorem k_234 : (.code y_Sv_derive b_Sv_derive 7 (some .boolean) : Cond) ∈ gw := List.mem_filter.mpr ⟨List.mem_append_right _ (List.mem_of_getElem? (i := 234) (by decide +kernel)), rfl⟩
theorem k_235 : (.methodLink "RuleKeeper$Solver" 42 y_Pt_fits : Cond) ∈ gw := List.mem_filter.mpr ⟨List.mem_append_right _ (List.mem_of_getElem? (i := 235) (by decide +kernel)), rfl⟩
theorem k_236 : (.instanceMethod y_Pt_fits : Cond) ∈ gw := List.mem_filter.mpr ⟨List.mem_append_right _ (List.mem_of_getElem? (i := 236) (by decide +kernel)), rfl⟩
theorem k_237 : (.selects "RuleKeeper$Pattern" y_Pt_fits y_Pt_fits : Cond) ∈ gw := List.mem_filter.mpr ⟨List.mem_append_right _ (List.mem_of_getElem? (i := 237) (by decide +kernel)), rfl⟩
theorem k_238 : (.code y_Pt_fits b_Pt_fits 2 (some .boolean) : Cond) ∈ gw := List.mem_filter.mpr ⟨List.mem_append_right _ (List.mem_of_getElem? (i := 238) (by decide +kernel)), rfl⟩
theorem k_239 : (.methodLink "RuleKeeper$Pattern" 41 y_Pt_agrees : Cond) ∈ gw := List.mem_filter.mpr ⟨List.mem_append_right _ (List.mem_of_getElem? (i := 239) (by decide +kernel)), rfl⟩
theorem k_240 : (.instanceMethod y_Pt_agrees : Cond) ∈ gw := List.mem_filter.mpr ⟨List.mem_append_right _ (List.mem_of_getElem? (i := 240) (by decide +kernel)), rfl⟩
theorem k_241 : (.selects "RuleKeeper$Pattern" y_Pt_agrees y_Pt_agrees : Cond) ∈ gw := List.mem_filter.mpr ⟨List.mem_append_right _ (List.mem_of_getElem? (i := 241) (by decide +kernel)), rfl⟩
theorem k_242 : (.code y_Pt_agrees b_Pt_agrees 5 (some .boolean) : Cond) ∈ gw := List.mem_filter.mpr ⟨List.mem_append_right _ (List.mem_of_getElem? (i := 242) (by decide +kernel)), rfl⟩
theorem k_243 : (.methodLink "RuleKeeper$Solver" 51 y_Pt_bind : Cond) ∈ gw := List.mem_filter.mpr ⟨List.mem_append_right _ (List.mem_of_getElem? (i := 243) (by decide +kernel)), rfl⟩
theorem k_244 : (.instanceMethod y_Pt_bind : Cond) ∈ gw := List.mem_filter.mpr ⟨List.mem_append_right _ (List.mem_of_getElem? (i := 244) (by decide +kernel)), rfl⟩
theorem k_245 : (.selects "RuleKeeper$Pattern" y_Pt_bind y_Pt_bind : Cond) ∈ gw := List.mem_filter.mpr ⟨List.mem_append_right _ (List.mem_of_getElem? (i := 245) (by decide +kernel)), rfl⟩
theorem k_246 : (.code y_Pt_bind b_Pt_bind 5 none : Cond) ∈ gw := List.mem_filter.mpr ⟨List.mem_append_right _ (List.mem_of_getElem? (i := 246) (by decide +kernel)), rfl⟩
theorem k_247 : (.methodLink "RuleKeeper$Solver" 55 y_Sv_isMatchedBefore : Cond) ∈ gw := List.mem_filter.mpr ⟨List.mem_append_right _ (List.mem_of_getElem? (i := 247) (by decide +kernel)), rfl⟩
theorem k_249 : (.instanceMethod y_Sv_isMatchedBefore : Cond) ∈ gw := List.mem_filter.mpr ⟨List.mem_append_right _ (List.mem_of_getElem? (i := 249) (by decide +kernel)), rfl⟩
theorem k_250 : (.code y_Sv_isMatchedBefore b_Sv_isMatchedBefore 8 (some .boolean) : Cond) ∈ gw := List.mem_filter.mpr ⟨List.mem_append_right _ (List.mem_of_getElem? (i := 250) (by decide +kernel)), rfl⟩
theorem k_251 : (.methodLink "RuleKeeper$Solver" 84 y_Pt_maskOf : Cond) ∈ gw := List.mem_filter.mpr ⟨List.mem_append_right _ (List.mem_of_getElem? (i := 251) (by decide +kernel)), rfl⟩
theorem k_252 : (.instanceMethod y_Pt_maskOf : Cond) ∈ gw := List.mem_filter.mpr ⟨List.mem_append_right _ (List.mem_of_getElem? (i := 252) (by decide +kernel)), rfl⟩
theorem k_253 : (.selects "RuleKeeper$Pattern" y_Pt_maskOf y_Pt_maskOf : Cond) ∈ gw := List.mem_filter.mpr ⟨List.mem_append_right _ (List.mem_of_getElem? (i := 253) (by decide +kernel)), rfl⟩
theorem k_254 : (.code y_Pt_maskOf b_Pt_maskOf 4 (some .int) : Cond) ∈ gw := List.mem_filter.mpr ⟨List.mem_append_right _ (List.mem_of_getElem? (i := 254) (by decide +kernel)), rfl⟩
theorem k_255 : (.methodLink "RuleKeeper$Solver" 91 y_Pt_filled : Cond) ∈ gw := List.mem_filter.mpr ⟨List.mem_append_right _ (List.mem_of_getElem? (i := 255) (by decide +kernel)), rfl⟩
theorem k_256 : (.instanceMethod y_Pt_filled : Cond) ∈ gw := List.mem_filter.mpr ⟨List.mem_append_right _ (List.mem_of_getElem? (i := 256) (by decide +kernel)), rfl⟩
theorem k_257 : (.selects "RuleKeeper$Pattern" y_Pt_filled y_Pt_filled : Cond) ∈ gw := List.mem_filter.mpr ⟨List.mem_append_right _ (List.mem_of_getElem? (i := 257) (by decide +kernel)), rfl⟩
theorem k_258 : (.code y_Pt_filled b_Pt_filled 5 (some .int) : Cond) ∈ gw := List.mem_filter.mpr ⟨List.mem_append_right _ (List.mem_of_getElem? (i := 258) (by decide +kernel)), rfl⟩
theorem k_259 : (.methodLink "RuleKeeper$Solver" 95 y_Pt_agrees : Cond) ∈ gw := List.mem_filter.mpr ⟨List.mem_append_right _ (List.mem_of_getElem? (i := 259) (by decide +kernel)), rfl⟩
theorem k_260 : (.methodLink "RuleKeeper$Solver" 59 y_Sv_fillColumns : Cond) ∈ gw := List.mem_filter.mpr ⟨List.mem_append_right _ (List.mem_of_getElem? (i := 260) (by decide +kernel)), rfl⟩
theorem k_262 : (.instanceMethod y_Sv_fillColumns : Cond) ∈ gw := List.mem_filter.mpr ⟨List.mem_append_right _ (List.mem_of_getElem? (i := 262) (by decide +kernel)), rfl⟩
theorem k_263 : (.code y_Sv_fillColumns b_Sv_fillColumns 7 (some .boolean) : Cond) ∈ gw := List.mem_filter.mpr ⟨List.mem_append_right _ (List.mem_of_getElem? (i := 263) (by decide +kernel)), rfl⟩
theorem k_264 : (.methodLink "RuleKeeper$Solver" 104 y_Co_fill : Cond) ∈ gw := List.mem_filter.mpr ⟨List.mem_append_right _ (List.mem_of_getElem? (i := 264) (by decide +kernel)), rfl⟩
theorem k_265 : (.instanceMethod y_Co_fill : Cond) ∈ gw := List.mem_filter.mpr ⟨List.mem_append_right _ (List.mem_of_getElem? (i := 265) (by decide +kernel)), rfl⟩
theorem k_266 : (.selects "RuleKeeper$Column" y_Co_fill y_Co_fill : Cond) ∈ gw := List.mem_filter.mpr ⟨List.mem_append_right _ (List.mem_of_getElem? (i := 266) (by decide +kernel)), rfl⟩
theorem k_267 : (.code y_Co_fill b_Co_fill 10 none : Cond) ∈ gw := List.mem_filter.mpr ⟨List.mem_append_right _ (List.mem_of_getElem? (i := 267) (by decide +kernel)), rfl⟩
theorem k_268 : (.methodLink "RuleKeeper$Column" 40 y_Pt_maskOf : Cond) ∈ gw := List.mem_filter.mpr ⟨List.mem_append_right _ (List.mem_of_getElem? (i := 268) (by decide +kernel)), rfl⟩
theorem k_269 : (.methodLink "RuleKeeper$Column" 47 y_Pt_filled : Cond) ∈ gw := List.mem_filter.mpr ⟨List.mem_append_right _ (List.mem_of_getElem? (i := 269) (by decide +kernel)), rfl⟩
theorem k_270 : (.methodLink "RuleKeeper$Column" 57 y_Pt_agrees : Cond) ∈ gw := List.mem_filter.mpr ⟨List.mem_append_right _ (List.mem_of_getElem? (i := 270) (by decide +kernel)), rfl⟩
theorem k_271 : (.methodLink "RuleKeeper$Column" 61 y_Co_placeOf : Cond) ∈ gw := List.mem_filter.mpr ⟨List.mem_append_right _ (List.mem_of_getElem? (i := 271) (by decide +kernel)), rfl⟩
theorem k_272 : (.static y_Co_placeOf : Cond) ∈ gw := List.mem_filter.mpr ⟨List.mem_append_right _ (List.mem_of_getElem? (i := 272) (by decide +kernel)), rfl⟩
theorem k_273 : (.code y_Co_placeOf b_Co_placeOf 4 (some .int) : Cond) ∈ gw := List.mem_filter.mpr ⟨List.mem_append_right _ (List.mem_of_getElem? (i := 273) (by decide +kernel)), rfl⟩
theorem k_274 : (.methodLink "RuleKeeper$Column" 65 y_Co_take : Cond) ∈ gw := List.mem_filter.mpr ⟨List.mem_append_right _ (List.mem_of_getElem? (i := 274) (by decide +kernel)), rfl⟩
theorem k_276 : (.instanceMethod y_Co_take : Cond) ∈ gw := List.mem_filter.mpr ⟨List.mem_append_right _ (List.mem_of_getElem? (i := 276) (by decide +kernel)), rfl⟩
theorem k_277 : (.code y_Co_take b_Co_take 5 none : Cond) ∈ gw := List.mem_filter.mpr ⟨List.mem_append_right _ (List.mem_of_getElem? (i := 277) (by decide +kernel)), rfl⟩
theorem k_278 : (.methodLink "RuleKeeper$Solver" 63 y_Sv_addJoined : Cond) ∈ gw := List.mem_filter.mpr ⟨List.mem_append_right _ (List.mem_of_getElem? (i := 278) (by decide +kernel)), rfl⟩
theorem k_279 : (.static y_Sv_addJoined : Cond) ∈ gw := List.mem_filter.mpr ⟨List.mem_append_right _ (List.mem_of_getElem? (i := 279) (by decide +kernel)), rfl⟩
theorem k_280 : (.code y_Sv_addJoined b_Sv_addJoined 10 (some .boolean) : Cond) ∈ gw := List.mem_filter.mpr ⟨List.mem_append_right _ (List.mem_of_getElem? (i := 280) (by decide +kernel)), rfl⟩
theorem k_281 : (.methodLink "RuleKeeper$Solver" 109 y_Tr_has : Cond) ∈ gw := List.mem_filter.mpr ⟨List.mem_append_right _ (List.mem_of_getElem? (i := 281) (by decide +kernel)), rfl⟩
theorem k_282 : (.methodLink "RuleKeeper$Solver" 112 y_Tr_add : Cond) ∈ gw := List.mem_filter.mpr ⟨List.mem_append_right _ (List.mem_of_getElem? (i := 282) (by decide +kernel)), rfl⟩
theorem k_283 : (.methodLink "RuleKeeper" 99 y_Tr_cutTo : Cond) ∈ gw := List.mem_filter.mpr ⟨List.mem_append_right _ (List.mem_of_getElem? (i := 283) (by decide +kernel)), rfl⟩
theorem k_284 : (.instanceMethod y_Tr_cutTo : Cond) ∈ gw := List.mem_filter.mpr ⟨List.mem_append_right _ (List.mem_of_getElem? (i := 284) (by decide +kernel)), rfl⟩
theorem k_285 : (.selects "RuleKeeper$Triples" y_Tr_cutTo y_Tr_cutTo : Cond) ∈ gw := List.mem_filter.mpr ⟨List.mem_append_right _ (List.mem_of_getElem? (i := 285) (by decide +kernel)), rfl⟩
theorem k_286 : (.code y_Tr_cutTo b_Tr_cutTo 3 none : Cond) ∈ gw := List.mem_filter.mpr ⟨List.mem_append_right _ (List.mem_of_getElem? (i := 286) (by decide +kernel)), rfl⟩
theorem k_287 : (.methodLink "RuleKeeper$Triples" 34 ⟨"java/lang/Math", "max", "(II)I"⟩ : Cond) ∈ gw := List.mem_filter.mpr ⟨List.mem_append_right _ (List.mem_of_getElem? (i := 287) (by decide +kernel)), rfl⟩
theorem k_288 : (.methodLink "RuleKeeper$Triples" 40 y_Mk_drop : Cond) ∈ gw := List.mem_filter.mpr ⟨List.mem_append_right _ (List.mem_of_getElem? (i := 288) (by decide +kernel)), rfl⟩
theorem k_289 : (.instanceMethod y_Mk_drop : Cond) ∈ gw := List.mem_filter.mpr ⟨List.mem_append_right _ (List.mem_of_getElem? (i := 289) (by decide +kernel)), rfl⟩
theorem k_290 : (.selects "RuleKeeper$Marks" y_Mk_drop y_Mk_drop : Cond) ∈ gw := List.mem_filter.mpr ⟨List.mem_append_right _ (List.mem_of_getElem? (i := 290) (by decide +kernel)), rfl⟩
theorem k_291 : (.code y_Mk_drop b_Mk_drop 2 none : Cond) ∈ gw := List.mem_filter.mpr ⟨List.mem_append_right _ (List.mem_of_getElem? (i := 291) (by decide +kernel)), rfl⟩
theorem k_292 : (.methodLink "RuleKeeper$Triples" 43 ⟨"java/lang/Math", "min", "(II)I"⟩ : Cond) ∈ gw := List.mem_filter.mpr ⟨List.mem_append_right _ (List.mem_of_getElem? (i := 292) (by decide +kernel)), rfl⟩
theorem k_293 : (.static ⟨"java/lang/Math", "min", "(II)I"⟩ : Cond) ∈ gw := List.mem_filter.mpr ⟨List.mem_append_right _ (List.mem_of_getElem? (i := 293) (by decide +kernel)), rfl⟩
theorem k_294 : (.code Lib.Math.min.name Lib.Math.min.code 2 (some .int) : Cond) ∈ gw := List.mem_filter.mpr ⟨List.mem_append_right _ (List.mem_of_getElem? (i := 294) (by decide +kernel)), rfl⟩
theorem k_295 : (.methodLink "RuleKeeper" 71 y_Mk_put : Cond) ∈ gw := List.mem_filter.mpr ⟨List.mem_append_right _ (List.mem_of_getElem? (i := 295) (by decide +kernel)), rfl⟩
theorem k_296 : (.methodLink "RuleKeeperLaw" 18 y_Kp_unsay : Cond) ∈ gw := List.mem_filter.mpr ⟨List.mem_append_right _ (List.mem_of_getElem? (i := 296) (by decide +kernel)), rfl⟩
theorem k_297 : (.instanceMethod y_Kp_unsay : Cond) ∈ gw := List.mem_filter.mpr ⟨List.mem_append_right _ (List.mem_of_getElem? (i := 297) (by decide +kernel)), rfl⟩
theorem k_298 : (.selects "RuleKeeper" y_Kp_unsay y_Kp_unsay : Cond) ∈ gw := List.mem_filter.mpr ⟨List.mem_append_right _ (List.mem_of_getElem? (i := 298) (by decide +kernel)), rfl⟩
theorem k_299 : (.code y_Kp_unsay b_Kp_unsay 5 (some .int) : Cond) ∈ gw := List.mem_filter.mpr ⟨List.mem_append_right _ (List.mem_of_getElem? (i := 299) (by decide +kernel)), rfl⟩
theorem k_300 : (.methodLink "RuleKeeper" 75 y_Mk_drop : Cond) ∈ gw := List.mem_filter.mpr ⟨List.mem_append_right _ (List.mem_of_getElem? (i := 300) (by decide +kernel)), rfl⟩
theorem k_301 : (.methodLink "RuleKeeper" 78 y_Kp_holdAnew : Cond) ∈ gw := List.mem_filter.mpr ⟨List.mem_append_right _ (List.mem_of_getElem? (i := 301) (by decide +kernel)), rfl⟩
theorem k_303 : (.instanceMethod y_Kp_holdAnew : Cond) ∈ gw := List.mem_filter.mpr ⟨List.mem_append_right _ (List.mem_of_getElem? (i := 303) (by decide +kernel)), rfl⟩
theorem k_304 : (.code y_Kp_holdAnew b_Kp_holdAnew 1 none : Cond) ∈ gw := List.mem_filter.mpr ⟨List.mem_append_right _ (List.mem_of_getElem? (i := 304) (by decide +kernel)), rfl⟩
theorem k_305 : (.methodLink "RuleKeeper" 131 y_Tr_keepThose : Cond) ∈ gw := List.mem_filter.mpr ⟨List.mem_append_right _ (List.mem_of_getElem? (i := 305) (by decide +kernel)), rfl⟩
theorem k_306 : (.instanceMethod y_Tr_keepThose : Cond) ∈ gw := List.mem_filter.mpr ⟨List.mem_append_right _ (List.mem_of_getElem? (i := 306) (by decide +kernel)), rfl⟩
theorem k_307 : (.selects "RuleKeeper$Triples" y_Tr_keepThose y_Tr_keepThose : Cond) ∈ gw := List.mem_filter.mpr ⟨List.mem_append_right _ (List.mem_of_getElem? (i := 307) (by decide +kernel)), rfl⟩
theorem k_308 : (.code y_Tr_keepThose b_Tr_keepThose 4 none : Cond) ∈ gw := List.mem_filter.mpr ⟨List.mem_append_right _ (List.mem_of_getElem? (i := 308) (by decide +kernel)), rfl⟩
theorem k_309 : (.methodLink "RuleKeeperLaw" 22 y_Kp_pattern : Cond) ∈ gw := List.mem_filter.mpr ⟨List.mem_append_right _ (List.mem_of_getElem? (i := 309) (by decide +kernel)), rfl⟩
theorem k_310 : (.instanceMethod y_Kp_pattern : Cond) ∈ gw := List.mem_filter.mpr ⟨List.mem_append_right _ (List.mem_of_getElem? (i := 310) (by decide +kernel)), rfl⟩
theorem k_311 : (.selects "RuleKeeper" y_Kp_pattern y_Kp_pattern : Cond) ∈ gw := List.mem_filter.mpr ⟨List.mem_append_right _ (List.mem_of_getElem? (i := 311) (by decide +kernel)), rfl⟩
theorem k_312 : (.code y_Kp_pattern b_Kp_pattern 4 (some .int) : Cond) ∈ gw := List.mem_filter.mpr ⟨List.mem_append_right _ (List.mem_of_getElem? (i := 312) (by decide +kernel)), rfl⟩
theorem k_313 : (.methodLink "RuleKeeper" 81 y_Kp_isPattern : Cond) ∈ gw := List.mem_filter.mpr ⟨List.mem_append_right _ (List.mem_of_getElem? (i := 313) (by decide +kernel)), rfl⟩
theorem k_314 : (.static y_Kp_isPattern : Cond) ∈ gw := List.mem_filter.mpr ⟨List.mem_append_right _ (List.mem_of_getElem? (i := 314) (by decide +kernel)), rfl⟩
theorem k_315 : (.code y_Kp_isPattern b_Kp_isPattern 3 (some .boolean) : Cond) ∈ gw := List.mem_filter.mpr ⟨List.mem_append_right _ (List.mem_of_getElem? (i := 315) (by decide +kernel)), rfl⟩
theorem k_316 : (.methodLink "RuleKeeper" 116 y_Kp_isItem : Cond) ∈ gw := List.mem_filter.mpr ⟨List.mem_append_right _ (List.mem_of_getElem? (i := 316) (by decide +kernel)), rfl⟩
theorem k_317 : (.static y_Kp_isItem : Cond) ∈ gw := List.mem_filter.mpr ⟨List.mem_append_right _ (List.mem_of_getElem? (i := 317) (by decide +kernel)), rfl⟩
theorem k_318 : (.code y_Kp_isItem b_Kp_isItem 1 (some .boolean) : Cond) ∈ gw := List.mem_filter.mpr ⟨List.mem_append_right _ (List.mem_of_getElem? (i := 318) (by decide +kernel)), rfl⟩
theorem k_319 : (.methodLink "RuleKeeperLaw" 26 y_Kp_rule : Cond) ∈ gw := List.mem_filter.mpr ⟨List.mem_append_right _ (List.mem_of_getElem? (i := 319) (by decide +kernel)), rfl⟩
theorem k_320 : (.instanceMethod y_Kp_rule : Cond) ∈ gw := List.mem_filter.mpr ⟨List.mem_append_right _ (List.mem_of_getElem? (i := 320) (by decide +kernel)), rfl⟩
theorem k_321 : (.selects "RuleKeeper" y_Kp_rule y_Kp_rule : Cond) ∈ gw := List.mem_filter.mpr ⟨List.mem_append_right _ (List.mem_of_getElem? (i := 321) (by decide +kernel)), rfl⟩
theorem k_322 : (.code y_Kp_rule b_Kp_rule 2 (some .int) : Cond) ∈ gw := List.mem_filter.mpr ⟨List.mem_append_right _ (List.mem_of_getElem? (i := 322) (by decide +kernel)), rfl⟩
theorem k_323 : (.methodLink "RuleKeeper" 84 y_Kp_draftIsRule : Cond) ∈ gw := List.mem_filter.mpr ⟨List.mem_append_right _ (List.mem_of_getElem? (i := 323) (by decide +kernel)), rfl⟩
theorem k_325 : (.instanceMethod y_Kp_draftIsRule : Cond) ∈ gw := List.mem_filter.mpr ⟨List.mem_append_right _ (List.mem_of_getElem? (i := 325) (by decide +kernel)), rfl⟩
theorem k_326 : (.code y_Kp_draftIsRule b_Kp_draftIsRule 4 (some .boolean) : Cond) ∈ gw := List.mem_filter.mpr ⟨List.mem_append_right _ (List.mem_of_getElem? (i := 326) (by decide +kernel)), rfl⟩
theorem k_327 : (.methodLink "RuleKeeper" 91 y_Kp_ruleOfDraft : Cond) ∈ gw := List.mem_filter.mpr ⟨List.mem_append_right _ (List.mem_of_getElem? (i := 327) (by decide +kernel)), rfl⟩
theorem k_329 : (.instanceMethod y_Kp_ruleOfDraft : Cond) ∈ gw := List.mem_filter.mpr ⟨List.mem_append_right _ (List.mem_of_getElem? (i := 329) (by decide +kernel)), rfl⟩
theorem k_330 : (.code y_Kp_ruleOfDraft b_Kp_ruleOfDraft 4 (some (.object "RuleKeeper$Rule")) : Cond) ∈ gw := List.mem_filter.mpr ⟨List.mem_append_right _ (List.mem_of_getElem? (i := 330) (by decide +kernel)), rfl⟩
theorem k_331 : (.methodLink "RuleKeeperLaw" 31 y_Kp_unrule : Cond) ∈ gw := List.mem_filter.mpr ⟨List.mem_append_right _ (List.mem_of_getElem? (i := 331) (by decide +kernel)), rfl⟩
theorem k_332 : (.instanceMethod y_Kp_unrule : Cond) ∈ gw := List.mem_filter.mpr ⟨List.mem_append_right _ (List.mem_of_getElem? (i := 332) (by decide +kernel)), rfl⟩
theorem k_333 : (.selects "RuleKeeper" y_Kp_unrule y_Kp_unrule : Cond) ∈ gw := List.mem_filter.mpr ⟨List.mem_append_right _ (List.mem_of_getElem? (i := 333) (by decide +kernel)), rfl⟩
theorem k_334 : (.code y_Kp_unrule b_Kp_unrule 3 (some .int) : Cond) ∈ gw := List.mem_filter.mpr ⟨List.mem_append_right _ (List.mem_of_getElem? (i := 334) (by decide +kernel)), rfl⟩
theorem k_335 : (.methodLink "RuleKeeperLaw" 36 y_Kp_rules : Cond) ∈ gw := List.mem_filter.mpr ⟨List.mem_append_right _ (List.mem_of_getElem? (i := 335) (by decide +kernel)), rfl⟩
theorem k_336 : (.instanceMethod y_Kp_rules : Cond) ∈ gw := List.mem_filter.mpr ⟨List.mem_append_right _ (List.mem_of_getElem? (i := 336) (by decide +kernel)), rfl⟩
theorem k_337 : (.selects "RuleKeeper" y_Kp_rules y_Kp_rules : Cond) ∈ gw := List.mem_filter.mpr ⟨List.mem_append_right _ (List.mem_of_getElem? (i := 337) (by decide +kernel)), rfl⟩
theorem k_338 : (.code y_Kp_rules b_Kp_rules 1 (some .int) : Cond) ∈ gw := List.mem_filter.mpr ⟨List.mem_append_right _ (List.mem_of_getElem? (i := 338) (by decide +kernel)), rfl⟩
theorem k_339 : (.methodLink "RuleKeeperLaw" 40 y_Kp_holds : Cond) ∈ gw := List.mem_filter.mpr ⟨List.mem_append_right _ (List.mem_of_getElem? (i := 339) (by decide +kernel)), rfl⟩
theorem k_340 : (.instanceMethod y_Kp_holds : Cond) ∈ gw := List.mem_filter.mpr ⟨List.mem_append_right _ (List.mem_of_getElem? (i := 340) (by decide +kernel)), rfl⟩
theorem k_341 : (.selects "RuleKeeper" y_Kp_holds y_Kp_holds : Cond) ∈ gw := List.mem_filter.mpr ⟨List.mem_append_right _ (List.mem_of_getElem? (i := 341) (by decide +kernel)), rfl⟩
theorem k_342 : (.code y_Kp_holds b_Kp_holds 5 (some .int) : Cond) ∈ gw := List.mem_filter.mpr ⟨List.mem_append_right _ (List.mem_of_getElem? (i := 342) (by decide +kernel)), rfl⟩
theorem k_343 : (.methodLink "RuleKeeperLaw" 44 y_Kp_support : Cond) ∈ gw := List.mem_filter.mpr ⟨List.mem_append_right _ (List.mem_of_getElem? (i := 343) (by decide +kernel)), rfl⟩
theorem k_344 : (.instanceMethod y_Kp_support : Cond) ∈ gw := List.mem_filter.mpr ⟨List.mem_append_right _ (List.mem_of_getElem? (i := 344) (by decide +kernel)), rfl⟩
theorem k_345 : (.selects "RuleKeeper" y_Kp_support y_Kp_support : Cond) ∈ gw := List.mem_filter.mpr ⟨List.mem_append_right _ (List.mem_of_getElem? (i := 345) (by decide +kernel)), rfl⟩
theorem k_346 : (.code y_Kp_support b_Kp_support 7 (some .int) : Cond) ∈ gw := List.mem_filter.mpr ⟨List.mem_append_right _ (List.mem_of_getElem? (i := 346) (by decide +kernel)), rfl⟩
theorem k_347 : (.methodLink "RuleKeeper" 102 y_Sv_casesGiving : Cond) ∈ gw := List.mem_filter.mpr ⟨List.mem_append_right _ (List.mem_of_getElem? (i := 347) (by decide +kernel)), rfl⟩
theorem k_348 : (.instanceMethod y_Sv_casesGiving : Cond) ∈ gw := List.mem_filter.mpr ⟨List.mem_append_right _ (List.mem_of_getElem? (i := 348) (by decide +kernel)), rfl⟩
theorem k_349 : (.selects "RuleKeeper$Solver" y_Sv_casesGiving y_Sv_casesGiving : Cond) ∈ gw := List.mem_filter.mpr ⟨List.mem_append_right _ (List.mem_of_getElem? (i := 349) (by decide +kernel)), rfl⟩
theorem k_350 : (.code y_Sv_casesGiving b_Sv_casesGiving 4 (some .int) : Cond) ∈ gw := List.mem_filter.mpr ⟨List.mem_append_right _ (List.mem_of_getElem? (i := 350) (by decide +kernel)), rfl⟩
theorem k_351 : (.methodLink "RuleKeeper$Solver" 77 y_Sv_countJoined : Cond) ∈ gw := List.mem_filter.mpr ⟨List.mem_append_right _ (List.mem_of_getElem? (i := 351) (by decide +kernel)), rfl⟩
theorem k_352 : (.static y_Sv_countJoined : Cond) ∈ gw := List.mem_filter.mpr ⟨List.mem_append_right _ (List.mem_of_getElem? (i := 352) (by decide +kernel)), rfl⟩
theorem k_353 : (.code y_Sv_countJoined b_Sv_countJoined 8 (some .int) : Cond) ∈ gw := List.mem_filter.mpr ⟨List.mem_append_right _ (List.mem_of_getElem? (i := 353) (by decide +kernel)), rfl⟩
theorem k_354 : (.methodLink "RuleKeeperLaw" 48 y_Kp_size : Cond) ∈ gw := List.mem_filter.mpr ⟨List.mem_append_right _ (List.mem_of_getElem? (i := 354) (by decide +kernel)), rfl⟩
theorem k_355 : (.instanceMethod y_Kp_size : Cond) ∈ gw := List.mem_filter.mpr ⟨List.mem_append_right _ (List.mem_of_getElem? (i := 355) (by decide +kernel)), rfl⟩
theorem k_356 : (.selects "RuleKeeper" y_Kp_size y_Kp_size : Cond) ∈ gw := List.mem_filter.mpr ⟨List.mem_append_right _ (List.mem_of_getElem? (i := 356) (by decide +kernel)), rfl⟩
theorem k_357 : (.code y_Kp_size b_Kp_size 1 (some .int) : Cond) ∈ gw := List.mem_filter.mpr ⟨List.mem_append_right _ (List.mem_of_getElem? (i := 357) (by decide +kernel)), rfl⟩
theorem k_358 : (.methodLink "RuleKeeperLaw" 52 y_Kp_next : Cond) ∈ gw := List.mem_filter.mpr ⟨List.mem_append_right _ (List.mem_of_getElem? (i := 358) (by decide +kernel)), rfl⟩
theorem k_359 : (.instanceMethod y_Kp_next : Cond) ∈ gw := List.mem_filter.mpr ⟨List.mem_append_right _ (List.mem_of_getElem? (i := 359) (by decide +kernel)), rfl⟩
theorem k_360 : (.selects "RuleKeeper" y_Kp_next y_Kp_next : Cond) ∈ gw := List.mem_filter.mpr ⟨List.mem_append_right _ (List.mem_of_getElem? (i := 360) (by decide +kernel)), rfl⟩
theorem k_361 : (.code y_Kp_next b_Kp_next 5 (some .int) : Cond) ∈ gw := List.mem_filter.mpr ⟨List.mem_append_right _ (List.mem_of_getElem? (i := 361) (by decide +kernel)), rfl⟩
theorem k_362 : (.methodLink "RuleKeeperLaw" 56 y_Kp_fitting : Cond) ∈ gw := List.mem_filter.mpr ⟨List.mem_append_right _ (List.mem_of_getElem? (i := 362) (by decide +kernel)), rfl⟩
theorem k_363 : (.instanceMethod y_Kp_fitting : Cond) ∈ gw := List.mem_filter.mpr ⟨List.mem_append_right _ (List.mem_of_getElem? (i := 363) (by decide +kernel)), rfl⟩
theorem k_364 : (.selects "RuleKeeper" y_Kp_fitting y_Kp_fitting : Cond) ∈ gw := List.mem_filter.mpr ⟨List.mem_append_right _ (List.mem_of_getElem? (i := 364) (by decide +kernel)), rfl⟩
theorem k_365 : (.code y_Kp_fitting b_Kp_fitting 7 (some .int) : Cond) ∈ gw := List.mem_filter.mpr ⟨List.mem_append_right _ (List.mem_of_getElem? (i := 365) (by decide +kernel)), rfl⟩
theorem k_366 : (.methodLink "RuleKeeper" 110 y_Pt_fits : Cond) ∈ gw := List.mem_filter.mpr ⟨List.mem_append_right _ (List.mem_of_getElem? (i := 366) (by decide +kernel)), rfl⟩
theorem k_367 : (.methodLink "RuleKeeperLaw" 60 y_Kp_clear : Cond) ∈ gw := List.mem_filter.mpr ⟨List.mem_append_right _ (List.mem_of_getElem? (i := 367) (by decide +kernel)), rfl⟩
theorem k_368 : (.instanceMethod y_Kp_clear : Cond) ∈ gw := List.mem_filter.mpr ⟨List.mem_append_right _ (List.mem_of_getElem? (i := 368) (by decide +kernel)), rfl⟩
theorem k_369 : (.selects "RuleKeeper" y_Kp_clear y_Kp_clear : Cond) ∈ gw := List.mem_filter.mpr ⟨List.mem_append_right _ (List.mem_of_getElem? (i := 369) (by decide +kernel)), rfl⟩
theorem k_370 : (.code y_Kp_clear b_Kp_clear 3 (some .int) : Cond) ∈ gw := List.mem_filter.mpr ⟨List.mem_append_right _ (List.mem_of_getElem? (i := 370) (by decide +kernel)), rfl⟩
theorem k_371 : (.classLink "RuleKeeperLaw" 10 "RuleKeeperModel" : Cond) ∈ gw := List.mem_filter.mpr ⟨List.mem_append_right _ (List.mem_of_getElem? (i := 371) (by decide +kernel)), rfl⟩
theorem k_372 : (.instantiable "RuleKeeperModel" 14 : Cond) ∈ gw := List.mem_filter.mpr ⟨List.mem_append_right _ (List.mem_of_getElem? (i := 372) (by decide +kernel)), rfl⟩
theorem k_373 : (.methodLink "RuleKeeperLaw" 12 y_Md_init : Cond) ∈ gw := List.mem_filter.mpr ⟨List.mem_append_right _ (List.mem_of_getElem? (i := 373) (by decide +kernel)), rfl⟩
theorem k_374 : (.instanceMethod y_Md_init : Cond) ∈ gw := List.mem_filter.mpr ⟨List.mem_append_right _ (List.mem_of_getElem? (i := 374) (by decide +kernel)), rfl⟩
theorem k_375 : (.code y_Md_init b_Md_init 1 none : Cond) ∈ gw := List.mem_filter.mpr ⟨List.mem_append_right _ (List.mem_of_getElem? (i := 375) (by decide +kernel)), rfl⟩
theorem k_376 : (.methodLink "RuleKeeperModel" 1 ⟨"java/lang/Object", "<init>", "()V"⟩ : Cond) ∈ gw := List.mem_filter.mpr ⟨List.mem_append_right _ (List.mem_of_getElem? (i := 376) (by decide +kernel)), rfl⟩
theorem k_377 : (.constant "RuleKeeperModel" 7 32768 : Cond) ∈ gw := List.mem_filter.mpr ⟨List.mem_append_right _ (List.mem_of_getElem? (i := 377) (by decide +kernel)), rfl⟩
theorem k_378 : (.fieldLink "RuleKeeperModel" 8 "RuleKeeperModel" "said" "[Z" : Cond) ∈ gw := List.mem_filter.mpr ⟨List.mem_append_right _ (List.mem_of_getElem? (i := 378) (by decide +kernel)), rfl⟩
theorem k_379 : (.fieldLink "RuleKeeperModel" 14 "RuleKeeperModel" "holding" "[Z" : Cond) ∈ gw := List.mem_filter.mpr ⟨List.mem_append_right _ (List.mem_of_getElem? (i := 379) (by decide +kernel)), rfl⟩
theorem k_380 : (.fieldLink "RuleKeeperModel" 17 "RuleKeeperModel" "supports" "[I" : Cond) ∈ gw := List.mem_filter.mpr ⟨List.mem_append_right _ (List.mem_of_getElem? (i := 380) (by decide +kernel)), rfl⟩
theorem k_381 : (.fieldLink "RuleKeeperModel" 21 "RuleKeeperModel" "row" "[I" : Cond) ∈ gw := List.mem_filter.mpr ⟨List.mem_append_right _ (List.mem_of_getElem? (i := 381) (by decide +kernel)), rfl⟩
theorem k_382 : (.fieldLink "RuleKeeperModel" 53 "RuleKeeperModel" "size" "I" : Cond) ∈ gw := List.mem_filter.mpr ⟨List.mem_append_right _ (List.mem_of_getElem? (i := 382) (by decide +kernel)), rfl⟩
theorem k_383 : (.fieldLink "RuleKeeperModel" 24 "RuleKeeperModel" "items" "[I" : Cond) ∈ gw := List.mem_filter.mpr ⟨List.mem_append_right _ (List.mem_of_getElem? (i := 383) (by decide +kernel)), rfl⟩
theorem k_384 : (.fieldLink "RuleKeeperModel" 27 "RuleKeeperModel" "bodies" "[I" : Cond) ∈ gw := List.mem_filter.mpr ⟨List.mem_append_right _ (List.mem_of_getElem? (i := 384) (by decide +kernel)), rfl⟩
theorem k_385 : (.fieldLink "RuleKeeperModel" 77 "RuleKeeperModel" "rules" "I" : Cond) ∈ gw := List.mem_filter.mpr ⟨List.mem_append_right _ (List.mem_of_getElem? (i := 385) (by decide +kernel)), rfl⟩
theorem k_386 : (.fieldLink "RuleKeeperModel" 30 "RuleKeeperModel" "draft" "[I" : Cond) ∈ gw := List.mem_filter.mpr ⟨List.mem_append_right _ (List.mem_of_getElem? (i := 386) (by decide +kernel)), rfl⟩
theorem k_387 : (.fieldLink "RuleKeeperModel" 96 "RuleKeeperModel" "drafted" "I" : Cond) ∈ gw := List.mem_filter.mpr ⟨List.mem_append_right _ (List.mem_of_getElem? (i := 387) (by decide +kernel)), rfl⟩
theorem k_388 : (.fieldLink "RuleKeeperModel" 33 "RuleKeeperModel" "values" "[I" : Cond) ∈ gw := List.mem_filter.mpr ⟨List.mem_append_right _ (List.mem_of_getElem? (i := 388) (by decide +kernel)), rfl⟩
theorem k_389 : (.fieldLink "RuleKeeperModel" 36 "RuleKeeperModel" "bound" "[I" : Cond) ∈ gw := List.mem_filter.mpr ⟨List.mem_append_right _ (List.mem_of_getElem? (i := 389) (by decide +kernel)), rfl⟩
theorem k_390 : (.fieldLink "RuleKeeperModel" 39 "RuleKeeperModel" "places" "[I" : Cond) ∈ gw := List.mem_filter.mpr ⟨List.mem_append_right _ (List.mem_of_getElem? (i := 390) (by decide +kernel)), rfl⟩
theorem k_391 : (.fieldLink "RuleKeeperModel" 42 "RuleKeeperModel" "asked" "[I" : Cond) ∈ gw := List.mem_filter.mpr ⟨List.mem_append_right _ (List.mem_of_getElem? (i := 391) (by decide +kernel)), rfl⟩
theorem k_392 : (.laysFinal "RuleKeeperModel" "RuleKeeperModel" "said" "[Z" : Cond) ∈ gw := List.mem_filter.mpr ⟨List.mem_append_right _ (List.mem_of_getElem? (i := 392) (by decide +kernel)), rfl⟩
theorem k_394 : (.laysFinal "RuleKeeperModel" "RuleKeeperModel" "holding" "[Z" : Cond) ∈ gw := List.mem_filter.mpr ⟨List.mem_append_right _ (List.mem_of_getElem? (i := 394) (by decide +kernel)), rfl⟩
theorem k_396 : (.laysFinal "RuleKeeperModel" "RuleKeeperModel" "supports" "[I" : Cond) ∈ gw := List.mem_filter.mpr ⟨List.mem_append_right _ (List.mem_of_getElem? (i := 396) (by decide +kernel)), rfl⟩
theorem k_398 : (.laysFinal "RuleKeeperModel" "RuleKeeperModel" "row" "[I" : Cond) ∈ gw := List.mem_filter.mpr ⟨List.mem_append_right _ (List.mem_of_getElem? (i := 398) (by decide +kernel)), rfl⟩
theorem k_400 : (.lays "RuleKeeperModel" "RuleKeeperModel" "size" "I" : Cond) ∈ gw := List.mem_filter.mpr ⟨List.mem_append_right _ (List.mem_of_getElem? (i := 400) (by decide +kernel)), rfl⟩
theorem k_402 : (.laysFinal "RuleKeeperModel" "RuleKeeperModel" "items" "[I" : Cond) ∈ gw := List.mem_filter.mpr ⟨List.mem_append_right _ (List.mem_of_getElem? (i := 402) (by decide +kernel)), rfl⟩
theorem k_404 : (.laysFinal "RuleKeeperModel" "RuleKeeperModel" "bodies" "[I" : Cond) ∈ gw := List.mem_filter.mpr ⟨List.mem_append_right _ (List.mem_of_getElem? (i := 404) (by decide +kernel)), rfl⟩
theorem k_406 : (.lays "RuleKeeperModel" "RuleKeeperModel" "rules" "I" : Cond) ∈ gw := List.mem_filter.mpr ⟨List.mem_append_right _ (List.mem_of_getElem? (i := 406) (by decide +kernel)), rfl⟩
theorem k_408 : (.laysFinal "RuleKeeperModel" "RuleKeeperModel" "draft" "[I" : Cond) ∈ gw := List.mem_filter.mpr ⟨List.mem_append_right _ (List.mem_of_getElem? (i := 408) (by decide +kernel)), rfl⟩
theorem k_410 : (.lays "RuleKeeperModel" "RuleKeeperModel" "drafted" "I" : Cond) ∈ gw := List.mem_filter.mpr ⟨List.mem_append_right _ (List.mem_of_getElem? (i := 410) (by decide +kernel)), rfl⟩
theorem k_412 : (.laysFinal "RuleKeeperModel" "RuleKeeperModel" "values" "[I" : Cond) ∈ gw := List.mem_filter.mpr ⟨List.mem_append_right _ (List.mem_of_getElem? (i := 412) (by decide +kernel)), rfl⟩
theorem k_414 : (.laysFinal "RuleKeeperModel" "RuleKeeperModel" "bound" "[I" : Cond) ∈ gw := List.mem_filter.mpr ⟨List.mem_append_right _ (List.mem_of_getElem? (i := 414) (by decide +kernel)), rfl⟩
theorem k_416 : (.laysFinal "RuleKeeperModel" "RuleKeeperModel" "places" "[I" : Cond) ∈ gw := List.mem_filter.mpr ⟨List.mem_append_right _ (List.mem_of_getElem? (i := 416) (by decide +kernel)), rfl⟩
theorem k_418 : (.laysFinal "RuleKeeperModel" "RuleKeeperModel" "asked" "[I" : Cond) ∈ gw := List.mem_filter.mpr ⟨List.mem_append_right _ (List.mem_of_getElem? (i := 418) (by decide +kernel)), rfl⟩
theorem k_421 : (.arrayClass .boolean : Cond) ∈ gw := List.mem_filter.mpr ⟨List.mem_append_right _ (List.mem_of_getElem? (i := 421) (by decide +kernel)), rfl⟩
theorem k_422 : (.methodLink "RuleKeeperLaw" 17 y_Md_say : Cond) ∈ gw := List.mem_filter.mpr ⟨List.mem_append_right _ (List.mem_of_getElem? (i := 422) (by decide +kernel)), rfl⟩
theorem k_423 : (.instanceMethod y_Md_say : Cond) ∈ gw := List.mem_filter.mpr ⟨List.mem_append_right _ (List.mem_of_getElem? (i := 423) (by decide +kernel)), rfl⟩
theorem k_424 : (.selects "RuleKeeperModel" y_Md_say y_Md_say : Cond) ∈ gw := List.mem_filter.mpr ⟨List.mem_append_right _ (List.mem_of_getElem? (i := 424) (by decide +kernel)), rfl⟩
theorem k_425 : (.code y_Md_say b_Md_say 5 (some .int) : Cond) ∈ gw := List.mem_filter.mpr ⟨List.mem_append_right _ (List.mem_of_getElem? (i := 425) (by decide +kernel)), rfl⟩
theorem k_426 : (.methodLink "RuleKeeperModel" 86 y_Md_isNumber : Cond) ∈ gw := List.mem_filter.mpr ⟨List.mem_append_right _ (List.mem_of_getElem? (i := 426) (by decide +kernel)), rfl⟩
theorem k_427 : (.static y_Md_isNumber : Cond) ∈ gw := List.mem_filter.mpr ⟨List.mem_append_right _ (List.mem_of_getElem? (i := 427) (by decide +kernel)), rfl⟩
theorem k_428 : (.code y_Md_isNumber b_Md_isNumber 1 (some .boolean) : Cond) ∈ gw := List.mem_filter.mpr ⟨List.mem_append_right _ (List.mem_of_getElem? (i := 428) (by decide +kernel)), rfl⟩
theorem k_429 : (.methodLink "RuleKeeperModel" 69 y_Md_code : Cond) ∈ gw := List.mem_filter.mpr ⟨List.mem_append_right _ (List.mem_of_getElem? (i := 429) (by decide +kernel)), rfl⟩
theorem k_430 : (.static y_Md_code : Cond) ∈ gw := List.mem_filter.mpr ⟨List.mem_append_right _ (List.mem_of_getElem? (i := 430) (by decide +kernel)), rfl⟩
theorem k_431 : (.code y_Md_code b_Md_code 3 (some .int) : Cond) ∈ gw := List.mem_filter.mpr ⟨List.mem_append_right _ (List.mem_of_getElem? (i := 431) (by decide +kernel)), rfl⟩
theorem k_432 : (.methodLink "RuleKeeperModel" 89 y_Md_reckon : Cond) ∈ gw := List.mem_filter.mpr ⟨List.mem_append_right _ (List.mem_of_getElem? (i := 432) (by decide +kernel)), rfl⟩
theorem k_434 : (.instanceMethod y_Md_reckon : Cond) ∈ gw := List.mem_filter.mpr ⟨List.mem_append_right _ (List.mem_of_getElem? (i := 434) (by decide +kernel)), rfl⟩
theorem k_435 : (.code y_Md_reckon b_Md_reckon 3 (some .boolean) : Cond) ∈ gw := List.mem_filter.mpr ⟨List.mem_append_right _ (List.mem_of_getElem? (i := 435) (by decide +kernel)), rfl⟩
theorem k_436 : (.methodLink "RuleKeeperModel" 73 y_Md_come : Cond) ∈ gw := List.mem_filter.mpr ⟨List.mem_append_right _ (List.mem_of_getElem? (i := 436) (by decide +kernel)), rfl⟩
theorem k_438 : (.instanceMethod y_Md_come : Cond) ∈ gw := List.mem_filter.mpr ⟨List.mem_append_right _ (List.mem_of_getElem? (i := 438) (by decide +kernel)), rfl⟩
theorem k_439 : (.code y_Md_come b_Md_come 2 (some .boolean) : Cond) ∈ gw := List.mem_filter.mpr ⟨List.mem_append_right _ (List.mem_of_getElem? (i := 439) (by decide +kernel)), rfl⟩
theorem k_440 : (.methodLink "RuleKeeperModel" 80 y_Md_free : Cond) ∈ gw := List.mem_filter.mpr ⟨List.mem_append_right _ (List.mem_of_getElem? (i := 440) (by decide +kernel)), rfl⟩
theorem k_442 : (.instanceMethod y_Md_free : Cond) ∈ gw := List.mem_filter.mpr ⟨List.mem_append_right _ (List.mem_of_getElem? (i := 442) (by decide +kernel)), rfl⟩
theorem k_443 : (.code y_Md_free b_Md_free 2 none : Cond) ∈ gw := List.mem_filter.mpr ⟨List.mem_append_right _ (List.mem_of_getElem? (i := 443) (by decide +kernel)), rfl⟩
theorem k_444 : (.methodLink "RuleKeeperModel" 83 y_Md_allCases : Cond) ∈ gw := List.mem_filter.mpr ⟨List.mem_append_right _ (List.mem_of_getElem? (i := 444) (by decide +kernel)), rfl⟩
theorem k_446 : (.instanceMethod y_Md_allCases : Cond) ∈ gw := List.mem_filter.mpr ⟨List.mem_append_right _ (List.mem_of_getElem? (i := 446) (by decide +kernel)), rfl⟩
theorem k_447 : (.code y_Md_allCases b_Md_allCases 6 (some .boolean) : Cond) ∈ gw := List.mem_filter.mpr ⟨List.mem_append_right _ (List.mem_of_getElem? (i := 447) (by decide +kernel)), rfl⟩
theorem k_448 : (.methodLink "RuleKeeperModel" 49 y_Md_loosen : Cond) ∈ gw := List.mem_filter.mpr ⟨List.mem_append_right _ (List.mem_of_getElem? (i := 448) (by decide +kernel)), rfl⟩
theorem k_450 : (.instanceMethod y_Md_loosen : Cond) ∈ gw := List.mem_filter.mpr ⟨List.mem_append_right _ (List.mem_of_getElem? (i := 450) (by decide +kernel)), rfl⟩
theorem k_451 : (.code y_Md_loosen b_Md_loosen 5 none : Cond) ∈ gw := List.mem_filter.mpr ⟨List.mem_append_right _ (List.mem_of_getElem? (i := 451) (by decide +kernel)), rfl⟩
theorem k_452 : (.methodLink "RuleKeeperModel" 57 y_Md_bind : Cond) ∈ gw := List.mem_filter.mpr ⟨List.mem_append_right _ (List.mem_of_getElem? (i := 452) (by decide +kernel)), rfl⟩
theorem k_454 : (.instanceMethod y_Md_bind : Cond) ∈ gw := List.mem_filter.mpr ⟨List.mem_append_right _ (List.mem_of_getElem? (i := 454) (by decide +kernel)), rfl⟩
theorem k_455 : (.code y_Md_bind b_Md_bind 8 (some .boolean) : Cond) ∈ gw := List.mem_filter.mpr ⟨List.mem_append_right _ (List.mem_of_getElem? (i := 455) (by decide +kernel)), rfl⟩
theorem k_456 : (.methodLink "RuleKeeperModel" 45 y_Md_part : Cond) ∈ gw := List.mem_filter.mpr ⟨List.mem_append_right _ (List.mem_of_getElem? (i := 456) (by decide +kernel)), rfl⟩
theorem k_457 : (.static y_Md_part : Cond) ∈ gw := List.mem_filter.mpr ⟨List.mem_append_right _ (List.mem_of_getElem? (i := 457) (by decide +kernel)), rfl⟩
theorem k_458 : (.code y_Md_part b_Md_part 2 (some .int) : Cond) ∈ gw := List.mem_filter.mpr ⟨List.mem_append_right _ (List.mem_of_getElem? (i := 458) (by decide +kernel)), rfl⟩
theorem k_459 : (.methodLink "RuleKeeperModel" 61 y_Md_give : Cond) ∈ gw := List.mem_filter.mpr ⟨List.mem_append_right _ (List.mem_of_getElem? (i := 459) (by decide +kernel)), rfl⟩
theorem k_461 : (.instanceMethod y_Md_give : Cond) ∈ gw := List.mem_filter.mpr ⟨List.mem_append_right _ (List.mem_of_getElem? (i := 461) (by decide +kernel)), rfl⟩
theorem k_462 : (.code y_Md_give b_Md_give 5 (some .boolean) : Cond) ∈ gw := List.mem_filter.mpr ⟨List.mem_append_right _ (List.mem_of_getElem? (i := 462) (by decide +kernel)), rfl⟩
theorem k_463 : (.methodLink "RuleKeeperModel" 65 y_Md_value : Cond) ∈ gw := List.mem_filter.mpr ⟨List.mem_append_right _ (List.mem_of_getElem? (i := 463) (by decide +kernel)), rfl⟩
theorem k_465 : (.instanceMethod y_Md_value : Cond) ∈ gw := List.mem_filter.mpr ⟨List.mem_append_right _ (List.mem_of_getElem? (i := 465) (by decide +kernel)), rfl⟩
theorem k_466 : (.code y_Md_value b_Md_value 2 (some .int) : Cond) ∈ gw := List.mem_filter.mpr ⟨List.mem_append_right _ (List.mem_of_getElem? (i := 466) (by decide +kernel)), rfl⟩
theorem k_467 : (.methodLink "RuleKeeperLaw" 21 y_Md_unsay : Cond) ∈ gw := List.mem_filter.mpr ⟨List.mem_append_right _ (List.mem_of_getElem? (i := 467) (by decide +kernel)), rfl⟩
theorem k_468 : (.instanceMethod y_Md_unsay : Cond) ∈ gw := List.mem_filter.mpr ⟨List.mem_append_right _ (List.mem_of_getElem? (i := 468) (by decide +kernel)), rfl⟩
theorem k_469 : (.selects "RuleKeeperModel" y_Md_unsay y_Md_unsay : Cond) ∈ gw := List.mem_filter.mpr ⟨List.mem_append_right _ (List.mem_of_getElem? (i := 469) (by decide +kernel)), rfl⟩
theorem k_470 : (.code y_Md_unsay b_Md_unsay 5 (some .int) : Cond) ∈ gw := List.mem_filter.mpr ⟨List.mem_append_right _ (List.mem_of_getElem? (i := 470) (by decide +kernel)), rfl⟩
theorem k_471 : (.methodLink "RuleKeeperLaw" 25 y_Md_pattern : Cond) ∈ gw := List.mem_filter.mpr ⟨List.mem_append_right _ (List.mem_of_getElem? (i := 471) (by decide +kernel)), rfl⟩
theorem k_472 : (.instanceMethod y_Md_pattern : Cond) ∈ gw := List.mem_filter.mpr ⟨List.mem_append_right _ (List.mem_of_getElem? (i := 472) (by decide +kernel)), rfl⟩
theorem k_473 : (.selects "RuleKeeperModel" y_Md_pattern y_Md_pattern : Cond) ∈ gw := List.mem_filter.mpr ⟨List.mem_append_right _ (List.mem_of_getElem? (i := 473) (by decide +kernel)), rfl⟩
theorem k_474 : (.code y_Md_pattern b_Md_pattern 4 (some .int) : Cond) ∈ gw := List.mem_filter.mpr ⟨List.mem_append_right _ (List.mem_of_getElem? (i := 474) (by decide +kernel)), rfl⟩
theorem k_475 : (.methodLink "RuleKeeperModel" 93 y_Md_isItem : Cond) ∈ gw := List.mem_filter.mpr ⟨List.mem_append_right _ (List.mem_of_getElem? (i := 475) (by decide +kernel)), rfl⟩
theorem k_476 : (.static y_Md_isItem : Cond) ∈ gw := List.mem_filter.mpr ⟨List.mem_append_right _ (List.mem_of_getElem? (i := 476) (by decide +kernel)), rfl⟩
theorem k_477 : (.code y_Md_isItem b_Md_isItem 1 (some .boolean) : Cond) ∈ gw := List.mem_filter.mpr ⟨List.mem_append_right _ (List.mem_of_getElem? (i := 477) (by decide +kernel)), rfl⟩
theorem k_478 : (.methodLink "RuleKeeperLaw" 30 y_Md_rule : Cond) ∈ gw := List.mem_filter.mpr ⟨List.mem_append_right _ (List.mem_of_getElem? (i := 478) (by decide +kernel)), rfl⟩
theorem k_479 : (.instanceMethod y_Md_rule : Cond) ∈ gw := List.mem_filter.mpr ⟨List.mem_append_right _ (List.mem_of_getElem? (i := 479) (by decide +kernel)), rfl⟩
theorem k_480 : (.selects "RuleKeeperModel" y_Md_rule y_Md_rule : Cond) ∈ gw := List.mem_filter.mpr ⟨List.mem_append_right _ (List.mem_of_getElem? (i := 480) (by decide +kernel)), rfl⟩
theorem k_481 : (.code y_Md_rule b_Md_rule 2 (some .int) : Cond) ∈ gw := List.mem_filter.mpr ⟨List.mem_append_right _ (List.mem_of_getElem? (i := 481) (by decide +kernel)), rfl⟩
theorem k_482 : (.methodLink "RuleKeeperModel" 99 y_Md_isMade : Cond) ∈ gw := List.mem_filter.mpr ⟨List.mem_append_right _ (List.mem_of_getElem? (i := 482) (by decide +kernel)), rfl⟩
theorem k_484 : (.instanceMethod y_Md_isMade : Cond) ∈ gw := List.mem_filter.mpr ⟨List.mem_append_right _ (List.mem_of_getElem? (i := 484) (by decide +kernel)), rfl⟩
theorem k_485 : (.code y_Md_isMade b_Md_isMade 5 (some .boolean) : Cond) ∈ gw := List.mem_filter.mpr ⟨List.mem_append_right _ (List.mem_of_getElem? (i := 485) (by decide +kernel)), rfl⟩
theorem k_486 : (.methodLink "RuleKeeperLaw" 35 y_Md_unrule : Cond) ∈ gw := List.mem_filter.mpr ⟨List.mem_append_right _ (List.mem_of_getElem? (i := 486) (by decide +kernel)), rfl⟩
theorem k_487 : (.instanceMethod y_Md_unrule : Cond) ∈ gw := List.mem_filter.mpr ⟨List.mem_append_right _ (List.mem_of_getElem? (i := 487) (by decide +kernel)), rfl⟩
theorem k_488 : (.selects "RuleKeeperModel" y_Md_unrule y_Md_unrule : Cond) ∈ gw := List.mem_filter.mpr ⟨List.mem_append_right _ (List.mem_of_getElem? (i := 488) (by decide +kernel)), rfl⟩
theorem k_489 : (.code y_Md_unrule b_Md_unrule 4 (some .int) : Cond) ∈ gw := List.mem_filter.mpr ⟨List.mem_append_right _ (List.mem_of_getElem? (i := 489) (by decide +kernel)), rfl⟩
theorem k_490 : (.methodLink "RuleKeeperLaw" 39 y_Md_rules : Cond) ∈ gw := List.mem_filter.mpr ⟨List.mem_append_right _ (List.mem_of_getElem? (i := 490) (by decide +kernel)), rfl⟩
theorem k_491 : (.instanceMethod y_Md_rules : Cond) ∈ gw := List.mem_filter.mpr ⟨List.mem_append_right _ (List.mem_of_getElem? (i := 491) (by decide +kernel)), rfl⟩
theorem k_492 : (.selects "RuleKeeperModel" y_Md_rules y_Md_rules : Cond) ∈ gw := List.mem_filter.mpr ⟨List.mem_append_right _ (List.mem_of_getElem? (i := 492) (by decide +kernel)), rfl⟩
theorem k_493 : (.code y_Md_rules b_Md_rules 1 (some .int) : Cond) ∈ gw := List.mem_filter.mpr ⟨List.mem_append_right _ (List.mem_of_getElem? (i := 493) (by decide +kernel)), rfl⟩
theorem k_494 : (.methodLink "RuleKeeperLaw" 43 y_Md_holds : Cond) ∈ gw := List.mem_filter.mpr ⟨List.mem_append_right _ (List.mem_of_getElem? (i := 494) (by decide +kernel)), rfl⟩
theorem k_495 : (.instanceMethod y_Md_holds : Cond) ∈ gw := List.mem_filter.mpr ⟨List.mem_append_right _ (List.mem_of_getElem? (i := 495) (by decide +kernel)), rfl⟩
theorem k_496 : (.selects "RuleKeeperModel" y_Md_holds y_Md_holds : Cond) ∈ gw := List.mem_filter.mpr ⟨List.mem_append_right _ (List.mem_of_getElem? (i := 496) (by decide +kernel)), rfl⟩
theorem k_497 : (.code y_Md_holds b_Md_holds 5 (some .int) : Cond) ∈ gw := List.mem_filter.mpr ⟨List.mem_append_right _ (List.mem_of_getElem? (i := 497) (by decide +kernel)), rfl⟩
theorem k_498 : (.methodLink "RuleKeeperLaw" 47 y_Md_support : Cond) ∈ gw := List.mem_filter.mpr ⟨List.mem_append_right _ (List.mem_of_getElem? (i := 498) (by decide +kernel)), rfl⟩
theorem k_499 : (.instanceMethod y_Md_support : Cond) ∈ gw := List.mem_filter.mpr ⟨List.mem_append_right _ (List.mem_of_getElem? (i := 499) (by decide +kernel)), rfl⟩
theorem k_500 : (.selects "RuleKeeperModel" y_Md_support y_Md_support : Cond) ∈ gw := List.mem_filter.mpr ⟨List.mem_append_right _ (List.mem_of_getElem? (i := 500) (by decide +kernel)), rfl⟩
theorem k_501 : (.code y_Md_support b_Md_support 4 (some .int) : Cond) ∈ gw := List.mem_filter.mpr ⟨List.mem_append_right _ (List.mem_of_getElem? (i := 501) (by decide +kernel)), rfl⟩
theorem k_502 : (.methodLink "RuleKeeperLaw" 51 y_Md_size : Cond) ∈ gw := List.mem_filter.mpr ⟨List.mem_append_right _ (List.mem_of_getElem? (i := 502) (by decide +kernel)), rfl⟩
theorem k_503 : (.instanceMethod y_Md_size : Cond) ∈ gw := List.mem_filter.mpr ⟨List.mem_append_right _ (List.mem_of_getElem? (i := 503) (by decide +kernel)), rfl⟩
theorem k_504 : (.selects "RuleKeeperModel" y_Md_size y_Md_size : Cond) ∈ gw := List.mem_filter.mpr ⟨List.mem_append_right _ (List.mem_of_getElem? (i := 504) (by decide +kernel)), rfl⟩
theorem k_505 : (.code y_Md_size b_Md_size 1 (some .int) : Cond) ∈ gw := List.mem_filter.mpr ⟨List.mem_append_right _ (List.mem_of_getElem? (i := 505) (by decide +kernel)), rfl⟩
theorem k_506 : (.methodLink "RuleKeeperLaw" 55 y_Md_next : Cond) ∈ gw := List.mem_filter.mpr ⟨List.mem_append_right _ (List.mem_of_getElem? (i := 506) (by decide +kernel)), rfl⟩
theorem k_507 : (.instanceMethod y_Md_next : Cond) ∈ gw := List.mem_filter.mpr ⟨List.mem_append_right _ (List.mem_of_getElem? (i := 507) (by decide +kernel)), rfl⟩
theorem k_508 : (.selects "RuleKeeperModel" y_Md_next y_Md_next : Cond) ∈ gw := List.mem_filter.mpr ⟨List.mem_append_right _ (List.mem_of_getElem? (i := 508) (by decide +kernel)), rfl⟩
theorem k_509 : (.code y_Md_next b_Md_next 3 (some .int) : Cond) ∈ gw := List.mem_filter.mpr ⟨List.mem_append_right _ (List.mem_of_getElem? (i := 509) (by decide +kernel)), rfl⟩
theorem k_510 : (.methodLink "RuleKeeperLaw" 59 y_Md_fitting : Cond) ∈ gw := List.mem_filter.mpr ⟨List.mem_append_right _ (List.mem_of_getElem? (i := 510) (by decide +kernel)), rfl⟩
theorem k_511 : (.instanceMethod y_Md_fitting : Cond) ∈ gw := List.mem_filter.mpr ⟨List.mem_append_right _ (List.mem_of_getElem? (i := 511) (by decide +kernel)), rfl⟩
theorem k_512 : (.selects "RuleKeeperModel" y_Md_fitting y_Md_fitting : Cond) ∈ gw := List.mem_filter.mpr ⟨List.mem_append_right _ (List.mem_of_getElem? (i := 512) (by decide +kernel)), rfl⟩
theorem k_513 : (.code y_Md_fitting b_Md_fitting 6 (some .int) : Cond) ∈ gw := List.mem_filter.mpr ⟨List.mem_append_right _ (List.mem_of_getElem? (i := 513) (by decide +kernel)), rfl⟩
theorem k_514 : (.methodLink "RuleKeeperLaw" 63 y_Md_clear : Cond) ∈ gw := List.mem_filter.mpr ⟨List.mem_append_right _ (List.mem_of_getElem? (i := 514) (by decide +kernel)), rfl⟩
theorem k_515 : (.instanceMethod y_Md_clear : Cond) ∈ gw := List.mem_filter.mpr ⟨List.mem_append_right _ (List.mem_of_getElem? (i := 515) (by decide +kernel)), rfl⟩
theorem k_516 : (.selects "RuleKeeperModel" y_Md_clear y_Md_clear : Cond) ∈ gw := List.mem_filter.mpr ⟨List.mem_append_right _ (List.mem_of_getElem? (i := 516) (by decide +kernel)), rfl⟩
theorem k_517 : (.code y_Md_clear b_Md_clear 3 (some .int) : Cond) ∈ gw := List.mem_filter.mpr ⟨List.mem_append_right _ (List.mem_of_getElem? (i := 517) (by decide +kernel)), rfl⟩
theorem s_Kp_hold : (.selects "RuleKeeper" y_Kp_hold y_Kp_hold : Cond) ∈ gw := List.mem_filter.mpr ⟨List.mem_append_left _ (List.mem_of_getElem? (i := 0) (by decide +kernel)), rfl⟩
theorem s_Kp_follow : (.selects "RuleKeeper" y_Kp_follow y_Kp_follow : Cond) ∈ gw := List.mem_filter.mpr ⟨List.mem_append_left _ (List.mem_of_getElem? (i := 1) (by decide +kernel)), rfl⟩
theorem s_Sv_isMatchedBefore : (.selects "RuleKeeper$Solver" y_Sv_isMatchedBefore y_Sv_isMatchedBefore : Cond) ∈ gw := List.mem_filter.mpr ⟨List.mem_append_left _ (List.mem_of_getElem? (i := 2) (by decide +kernel)), rfl⟩
theorem s_Sv_fillColumns : (.selects "RuleKeeper$Solver" y_Sv_fillColumns y_Sv_fillColumns : Cond) ∈ gw := List.mem_filter.mpr ⟨List.mem_append_left _ (List.mem_of_getElem? (i := 3) (by decide +kernel)), rfl⟩
theorem s_Co_take : (.selects "RuleKeeper$Column" y_Co_take y_Co_take : Cond) ∈ gw := List.mem_filter.mpr ⟨List.mem_append_left _ (List.mem_of_getElem? (i := 4) (by decide +kernel)), rfl⟩
theorem s_Kp_holdAnew : (.selects "RuleKeeper" y_Kp_holdAnew y_Kp_holdAnew : Cond) ∈ gw := List.mem_filter.mpr ⟨List.mem_append_left _ (List.mem_of_getElem? (i := 5) (by decide +kernel)), rfl⟩
theorem s_Kp_draftIsRule : (.selects "RuleKeeper" y_Kp_draftIsRule y_Kp_draftIsRule : Cond) ∈ gw := List.mem_filter.mpr ⟨List.mem_append_left _ (List.mem_of_getElem? (i := 6) (by decide +kernel)), rfl⟩
theorem s_Kp_ruleOfDraft : (.selects "RuleKeeper" y_Kp_ruleOfDraft y_Kp_ruleOfDraft : Cond) ∈ gw := List.mem_filter.mpr ⟨List.mem_append_left _ (List.mem_of_getElem? (i := 7) (by decide +kernel)), rfl⟩
theorem s_Md_reckon : (.selects "RuleKeeperModel" y_Md_reckon y_Md_reckon : Cond) ∈ gw := List.mem_filter.mpr ⟨List.mem_append_left _ (List.mem_of_getElem? (i := 8) (by decide +kernel)), rfl⟩
theorem s_Md_come : (.selects "RuleKeeperModel" y_Md_come y_Md_come : Cond) ∈ gw := List.mem_filter.mpr ⟨List.mem_append_left _ (List.mem_of_getElem? (i := 9) (by decide +kernel)), rfl⟩
theorem s_Md_free : (.selects "RuleKeeperModel" y_Md_free y_Md_free : Cond) ∈ gw := List.mem_filter.mpr ⟨List.mem_append_left _ (List.mem_of_getElem? (i := 10) (by decide +kernel)), rfl⟩
theorem s_Md_allCases : (.selects "RuleKeeperModel" y_Md_allCases y_Md_allCases : Cond) ∈ gw := List.mem_filter.mpr ⟨List.mem_append_left _ (List.mem_of_getElem? (i := 11) (by decide +kernel)), rfl⟩
theorem s_Md_loosen : (.selects "RuleKeeperModel" y_Md_loosen y_Md_loosen : Cond) ∈ gw := List.mem_filter.mpr ⟨List.mem_append_left _ (List.mem_of_getElem? (i := 12) (by decide +kernel)), rfl⟩
theorem s_Md_bind : (.selects "RuleKeeperModel" y_Md_bind y_Md_bind : Cond) ∈ gw := List.mem_filter.mpr ⟨List.mem_append_left _ (List.mem_of_getElem? (i := 13) (by decide +kernel)), rfl⟩
theorem s_Md_give : (.selects "RuleKeeperModel" y_Md_give y_Md_give : Cond) ∈ gw := List.mem_filter.mpr ⟨List.mem_append_left _ (List.mem_of_getElem? (i := 14) (by decide +kernel)), rfl⟩
theorem s_Md_value : (.selects "RuleKeeperModel" y_Md_value y_Md_value : Cond) ∈ gw := List.mem_filter.mpr ⟨List.mem_append_left _ (List.mem_of_getElem? (i := 15) (by decide +kernel)), rfl⟩
theorem s_Md_isMade : (.selects "RuleKeeperModel" y_Md_isMade y_Md_isMade : Cond) ∈ gw := List.mem_filter.mpr ⟨List.mem_append_left _ (List.mem_of_getElem? (i := 16) (by decide +kernel)), rfl⟩
theorem i_Mk : ∀ w ∈ u_ws R_Mk T_Mk 1, w ∈ gw := by
  intro w hw
  obtain ⟨k, hk, rfl⟩ := List.mem_map.mp hw
  have hk := List.mem_range.mp hk
  rcases (show k = 0 by omega) with rfl
  · exact k_37
theorem i_Tr : ∀ w ∈ u_ws R_Tr T_Tr 3, w ∈ gw := by
  intro w hw
  obtain ⟨k, hk, rfl⟩ := List.mem_map.mp hw
  have hk := List.mem_range.mp hk
  rcases (show k = 0 ∨ k = 1 ∨ k = 2 by omega) with rfl | rfl | rfl
  · exact k_50
  · exact k_52
  · exact k_54
theorem i_Pt : ∀ w ∈ u_ws R_Pt T_Pt 8, w ∈ gw := by
  intro w hw
  obtain ⟨k, hk, rfl⟩ := List.mem_map.mp hw
  have hk := List.mem_range.mp hk
  rcases (show k = 0 ∨ k = 1 ∨ k = 2 ∨ k = 3 ∨ k = 4 ∨ k = 5 ∨ k = 6 ∨ k = 7 by omega) with rfl | rfl | rfl | rfl | rfl | rfl | rfl | rfl
  · exact k_87
  · exact k_89
  · exact k_91
  · exact k_93
  · exact k_95
  · exact k_97
  · exact k_99
  · exact k_101
theorem i_Ru : ∀ w ∈ u_ws R_Ru T_Ru 3, w ∈ gw := by
  intro w hw
  obtain ⟨k, hk, rfl⟩ := List.mem_map.mp hw
  have hk := List.mem_range.mp hk
  rcases (show k = 0 ∨ k = 1 ∨ k = 2 by omega) with rfl | rfl | rfl
  · exact k_161
  · exact k_163
  · exact k_165
theorem i_Co : ∀ w ∈ u_ws R_Co T_Co 6, w ∈ gw := by
  intro w hw
  obtain ⟨k, hk, rfl⟩ := List.mem_map.mp hw
  have hk := List.mem_range.mp hk
  rcases (show k = 0 ∨ k = 1 ∨ k = 2 ∨ k = 3 ∨ k = 4 ∨ k = 5 by omega) with rfl | rfl | rfl | rfl | rfl | rfl
  · exact k_115
  · exact k_117
  · exact k_119
  · exact k_121
  · exact k_123
  · exact k_125
theorem i_Sv : ∀ w ∈ u_ws R_Sv T_Sv 4, w ∈ gw := by
  intro w hw
  obtain ⟨k, hk, rfl⟩ := List.mem_map.mp hw
  have hk := List.mem_range.mp hk
  rcases (show k = 0 ∨ k = 1 ∨ k = 2 ∨ k = 3 by omega) with rfl | rfl | rfl | rfl
  · exact k_133
  · exact k_135
  · exact k_137
  · exact k_139
theorem i_Kp : ∀ w ∈ u_ws R_Kp T_Kp 7, w ∈ gw := by
  intro w hw
  obtain ⟨k, hk, rfl⟩ := List.mem_map.mp hw
  have hk := List.mem_range.mp hk
  rcases (show k = 0 ∨ k = 1 ∨ k = 2 ∨ k = 3 ∨ k = 4 ∨ k = 5 ∨ k = 6 by omega) with rfl | rfl | rfl | rfl | rfl | rfl | rfl
  · exact k_175
  · exact k_177
  · exact k_179
  · exact k_181
  · exact k_183
  · exact k_185
  · exact k_187
theorem i_Md : ∀ w ∈ u_ws R_Md T_Md 14, w ∈ gw := by
  intro w hw
  obtain ⟨k, hk, rfl⟩ := List.mem_map.mp hw
  have hk := List.mem_range.mp hk
  rcases (show k = 0 ∨ k = 1 ∨ k = 2 ∨ k = 3 ∨ k = 4 ∨ k = 5 ∨ k = 6 ∨ k = 7 ∨ k = 8 ∨ k = 9 ∨ k = 10 ∨ k = 11 ∨ k = 12 ∨ k = 13 by omega) with rfl | rfl | rfl | rfl | rfl | rfl | rfl | rfl | rfl | rfl | rfl | rfl | rfl | rfl
  · exact k_392
  · exact k_394
  · exact k_396
  · exact k_398
  · exact k_400
  · exact k_402
  · exact k_404
  · exact k_406
  · exact k_408
  · exact k_410
  · exact k_412
  · exact k_414
  · exact k_416
  · exact k_418
end
section
theorem d_Mk_init_0 : decode b_Mk_init 0 = .ok (.aload_n 0, 1) := by decide +kernel
theorem d_Mk_init_1 : decode b_Mk_init 1 = .ok (.invokespecial 3, 3) := by decide +kernel
theorem d_Mk_init_4 : decode b_Mk_init 4 = .ok (.aload_n 0, 1) := by decide +kernel
theorem d_Mk_init_5 : decode b_Mk_init 5 = .ok (.sipush 1024, 3) := by decide +kernel
theorem d_Mk_init_8 : decode b_Mk_init 8 = .ok (.newarray .int, 2) := by decide +kernel
theorem d_Mk_init_10 : decode b_Mk_init 10 = .ok (.putfield 9, 3) := by decide +kernel
theorem d_Mk_init_13 : decode b_Mk_init 13 = .ok (.return_, 1) := by decide +kernel
theorem d_Mk_has_0 : decode b_Mk_has 0 = .ok (.aload_n 0, 1) := by decide +kernel
theorem d_Mk_has_1 : decode b_Mk_has 1 = .ok (.getfield 9, 3) := by decide +kernel
theorem d_Mk_has_4 : decode b_Mk_has 4 = .ok (.iload_n 1, 1) := by decide +kernel
theorem d_Mk_has_5 : decode b_Mk_has 5 = .ok (.iconst 5, 1) := by decide +kernel
theorem d_Mk_has_6 : decode b_Mk_has 6 = .ok (.ishr, 1) := by decide +kernel
theorem d_Mk_has_7 : decode b_Mk_has 7 = .ok (.sipush 1023, 3) := by decide +kernel
theorem d_Mk_has_10 : decode b_Mk_has 10 = .ok (.iand, 1) := by decide +kernel
theorem d_Mk_has_11 : decode b_Mk_has 11 = .ok (.iaload, 1) := by decide +kernel
theorem d_Mk_has_12 : decode b_Mk_has 12 = .ok (.iconst 1, 1) := by decide +kernel
theorem d_Mk_has_13 : decode b_Mk_has 13 = .ok (.iload_n 1, 1) := by decide +kernel
theorem d_Mk_has_14 : decode b_Mk_has 14 = .ok (.bipush 31, 2) := by decide +kernel
theorem d_Mk_has_16 : decode b_Mk_has 16 = .ok (.iand, 1) := by decide +kernel
theorem d_Mk_has_17 : decode b_Mk_has 17 = .ok (.ishl, 1) := by decide +kernel
theorem d_Mk_has_18 : decode b_Mk_has 18 = .ok (.iand, 1) := by decide +kernel
theorem d_Mk_has_19 : decode b_Mk_has 19 = .ok (.ifCond .eq 7, 3) := by decide +kernel
theorem d_Mk_has_22 : decode b_Mk_has 22 = .ok (.iconst 1, 1) := by decide +kernel
theorem d_Mk_has_23 : decode b_Mk_has 23 = .ok (.goto 4, 3) := by decide +kernel
theorem d_Mk_has_26 : decode b_Mk_has 26 = .ok (.iconst 0, 1) := by decide +kernel
theorem d_Mk_has_27 : decode b_Mk_has 27 = .ok (.ireturn, 1) := by decide +kernel
theorem d_Mk_put_0 : decode b_Mk_put 0 = .ok (.aload_n 0, 1) := by decide +kernel
theorem d_Mk_put_1 : decode b_Mk_put 1 = .ok (.getfield 9, 3) := by decide +kernel
theorem d_Mk_put_4 : decode b_Mk_put 4 = .ok (.iload_n 1, 1) := by decide +kernel
theorem d_Mk_put_5 : decode b_Mk_put 5 = .ok (.iconst 5, 1) := by decide +kernel
theorem d_Mk_put_6 : decode b_Mk_put 6 = .ok (.ishr, 1) := by decide +kernel
theorem d_Mk_put_7 : decode b_Mk_put 7 = .ok (.sipush 1023, 3) := by decide +kernel
theorem d_Mk_put_10 : decode b_Mk_put 10 = .ok (.iand, 1) := by decide +kernel
theorem d_Mk_put_11 : decode b_Mk_put 11 = .ok (.dup2, 1) := by decide +kernel
theorem d_Mk_put_12 : decode b_Mk_put 12 = .ok (.iaload, 1) := by decide +kernel
theorem d_Mk_put_13 : decode b_Mk_put 13 = .ok (.iconst 1, 1) := by decide +kernel
theorem d_Mk_put_14 : decode b_Mk_put 14 = .ok (.iload_n 1, 1) := by decide +kernel
theorem d_Mk_put_15 : decode b_Mk_put 15 = .ok (.bipush 31, 2) := by decide +kernel
theorem d_Mk_put_17 : decode b_Mk_put 17 = .ok (.iand, 1) := by decide +kernel
theorem d_Mk_put_18 : decode b_Mk_put 18 = .ok (.ishl, 1) := by decide +kernel
theorem d_Mk_put_19 : decode b_Mk_put 19 = .ok (.ior, 1) := by decide +kernel
theorem d_Mk_put_20 : decode b_Mk_put 20 = .ok (.iastore, 1) := by decide +kernel
theorem d_Mk_put_21 : decode b_Mk_put 21 = .ok (.return_, 1) := by decide +kernel
theorem d_Mk_drop_0 : decode b_Mk_drop 0 = .ok (.aload_n 0, 1) := by decide +kernel
theorem d_Mk_drop_1 : decode b_Mk_drop 1 = .ok (.getfield 9, 3) := by decide +kernel
theorem d_Mk_drop_4 : decode b_Mk_drop 4 = .ok (.iload_n 1, 1) := by decide +kernel
theorem d_Mk_drop_5 : decode b_Mk_drop 5 = .ok (.iconst 5, 1) := by decide +kernel
theorem d_Mk_drop_6 : decode b_Mk_drop 6 = .ok (.ishr, 1) := by decide +kernel
theorem d_Mk_drop_7 : decode b_Mk_drop 7 = .ok (.sipush 1023, 3) := by decide +kernel
theorem d_Mk_drop_10 : decode b_Mk_drop 10 = .ok (.iand, 1) := by decide +kernel
theorem d_Mk_drop_11 : decode b_Mk_drop 11 = .ok (.dup2, 1) := by decide +kernel
theorem d_Mk_drop_12 : decode b_Mk_drop 12 = .ok (.iaload, 1) := by decide +kernel
theorem d_Mk_drop_13 : decode b_Mk_drop 13 = .ok (.iconst 1, 1) := by decide +kernel
theorem d_Mk_drop_14 : decode b_Mk_drop 14 = .ok (.iload_n 1, 1) := by decide +kernel
theorem d_Mk_drop_15 : decode b_Mk_drop 15 = .ok (.bipush 31, 2) := by decide +kernel
theorem d_Mk_drop_17 : decode b_Mk_drop 17 = .ok (.iand, 1) := by decide +kernel
theorem d_Mk_drop_18 : decode b_Mk_drop 18 = .ok (.ishl, 1) := by decide +kernel
theorem d_Mk_drop_19 : decode b_Mk_drop 19 = .ok (.iconst (-1), 1) := by decide +kernel
theorem d_Mk_drop_20 : decode b_Mk_drop 20 = .ok (.ixor, 1) := by decide +kernel
theorem d_Mk_drop_21 : decode b_Mk_drop 21 = .ok (.iand, 1) := by decide +kernel
theorem d_Mk_drop_22 : decode b_Mk_drop 22 = .ok (.iastore, 1) := by decide +kernel
theorem d_Mk_drop_23 : decode b_Mk_drop 23 = .ok (.return_, 1) := by decide +kernel
theorem d_Tr_init_0 : decode b_Tr_init 0 = .ok (.aload_n 0, 1) := by decide +kernel
theorem d_Tr_init_1 : decode b_Tr_init 1 = .ok (.invokespecial 3, 3) := by decide +kernel
theorem d_Tr_init_4 : decode b_Tr_init 4 = .ok (.aload_n 0, 1) := by decide +kernel
theorem d_Tr_init_5 : decode b_Tr_init 5 = .ok (.sipush 300, 3) := by decide +kernel
theorem d_Tr_init_8 : decode b_Tr_init 8 = .ok (.newarray .int, 2) := by decide +kernel
theorem d_Tr_init_10 : decode b_Tr_init 10 = .ok (.putfield 9, 3) := by decide +kernel
theorem d_Tr_init_13 : decode b_Tr_init 13 = .ok (.aload_n 0, 1) := by decide +kernel
theorem d_Tr_init_14 : decode b_Tr_init 14 = .ok (.new 15, 3) := by decide +kernel
theorem d_Tr_init_17 : decode b_Tr_init 17 = .ok (.dup, 1) := by decide +kernel
theorem d_Tr_init_18 : decode b_Tr_init 18 = .ok (.invokespecial 17, 3) := by decide +kernel
theorem d_Tr_init_21 : decode b_Tr_init 21 = .ok (.putfield 18, 3) := by decide +kernel
theorem d_Tr_init_24 : decode b_Tr_init 24 = .ok (.aload_n 0, 1) := by decide +kernel
theorem d_Tr_init_25 : decode b_Tr_init 25 = .ok (.iconst 0, 1) := by decide +kernel
theorem d_Tr_init_26 : decode b_Tr_init 26 = .ok (.putfield 22, 3) := by decide +kernel
theorem d_Tr_init_29 : decode b_Tr_init 29 = .ok (.return_, 1) := by decide +kernel
theorem d_Tr_has_0 : decode b_Tr_has 0 = .ok (.aload_n 0, 1) := by decide +kernel
theorem d_Tr_has_1 : decode b_Tr_has 1 = .ok (.getfield 18, 3) := by decide +kernel
theorem d_Tr_has_4 : decode b_Tr_has 4 = .ok (.iload_n 1, 1) := by decide +kernel
theorem d_Tr_has_5 : decode b_Tr_has 5 = .ok (.invokevirtual 26, 3) := by decide +kernel
theorem d_Tr_has_8 : decode b_Tr_has 8 = .ok (.ireturn, 1) := by decide +kernel
theorem d_Tr_add_0 : decode b_Tr_add 0 = .ok (.aload_n 0, 1) := by decide +kernel
theorem d_Tr_add_1 : decode b_Tr_add 1 = .ok (.getfield 22, 3) := by decide +kernel
theorem d_Tr_add_4 : decode b_Tr_add 4 = .ok (.sipush 300, 3) := by decide +kernel
theorem d_Tr_add_7 : decode b_Tr_add 7 = .ok (.if_icmp .lt 5, 3) := by decide +kernel
theorem d_Tr_add_10 : decode b_Tr_add 10 = .ok (.iconst 0, 1) := by decide +kernel
theorem d_Tr_add_11 : decode b_Tr_add 11 = .ok (.ireturn, 1) := by decide +kernel
theorem d_Tr_add_12 : decode b_Tr_add 12 = .ok (.aload_n 0, 1) := by decide +kernel
theorem d_Tr_add_13 : decode b_Tr_add 13 = .ok (.getfield 9, 3) := by decide +kernel
theorem d_Tr_add_16 : decode b_Tr_add 16 = .ok (.aload_n 0, 1) := by decide +kernel
theorem d_Tr_add_17 : decode b_Tr_add 17 = .ok (.getfield 22, 3) := by decide +kernel
theorem d_Tr_add_20 : decode b_Tr_add 20 = .ok (.iload_n 1, 1) := by decide +kernel
theorem d_Tr_add_21 : decode b_Tr_add 21 = .ok (.iastore, 1) := by decide +kernel
theorem d_Tr_add_22 : decode b_Tr_add 22 = .ok (.aload_n 0, 1) := by decide +kernel
theorem d_Tr_add_23 : decode b_Tr_add 23 = .ok (.dup, 1) := by decide +kernel
theorem d_Tr_add_24 : decode b_Tr_add 24 = .ok (.getfield 22, 3) := by decide +kernel
theorem d_Tr_add_27 : decode b_Tr_add 27 = .ok (.iconst 1, 1) := by decide +kernel
theorem d_Tr_add_28 : decode b_Tr_add 28 = .ok (.iadd, 1) := by decide +kernel
theorem d_Tr_add_29 : decode b_Tr_add 29 = .ok (.putfield 22, 3) := by decide +kernel
theorem d_Tr_add_32 : decode b_Tr_add 32 = .ok (.aload_n 0, 1) := by decide +kernel
theorem d_Tr_add_33 : decode b_Tr_add 33 = .ok (.getfield 18, 3) := by decide +kernel
theorem d_Tr_add_36 : decode b_Tr_add 36 = .ok (.iload_n 1, 1) := by decide +kernel
theorem d_Tr_add_37 : decode b_Tr_add 37 = .ok (.invokevirtual 30, 3) := by decide +kernel
theorem d_Tr_add_40 : decode b_Tr_add 40 = .ok (.iconst 1, 1) := by decide +kernel
theorem d_Tr_add_41 : decode b_Tr_add 41 = .ok (.ireturn, 1) := by decide +kernel
theorem d_Tr_cutTo_0 : decode b_Tr_cutTo 0 = .ok (.iload_n 1, 1) := by decide +kernel
theorem d_Tr_cutTo_1 : decode b_Tr_cutTo 1 = .ok (.iconst 0, 1) := by decide +kernel
theorem d_Tr_cutTo_2 : decode b_Tr_cutTo 2 = .ok (.invokestatic 34, 3) := by decide +kernel
theorem d_Tr_cutTo_5 : decode b_Tr_cutTo 5 = .ok (.istore_n 2, 1) := by decide +kernel
theorem d_Tr_cutTo_6 : decode b_Tr_cutTo 6 = .ok (.iload_n 2, 1) := by decide +kernel
theorem d_Tr_cutTo_7 : decode b_Tr_cutTo 7 = .ok (.aload_n 0, 1) := by decide +kernel
theorem d_Tr_cutTo_8 : decode b_Tr_cutTo 8 = .ok (.getfield 22, 3) := by decide +kernel
theorem d_Tr_cutTo_11 : decode b_Tr_cutTo 11 = .ok (.if_icmp .ge 22, 3) := by decide +kernel
theorem d_Tr_cutTo_14 : decode b_Tr_cutTo 14 = .ok (.aload_n 0, 1) := by decide +kernel
theorem d_Tr_cutTo_15 : decode b_Tr_cutTo 15 = .ok (.getfield 18, 3) := by decide +kernel
theorem d_Tr_cutTo_18 : decode b_Tr_cutTo 18 = .ok (.aload_n 0, 1) := by decide +kernel
theorem d_Tr_cutTo_19 : decode b_Tr_cutTo 19 = .ok (.getfield 9, 3) := by decide +kernel
theorem d_Tr_cutTo_22 : decode b_Tr_cutTo 22 = .ok (.iload_n 2, 1) := by decide +kernel
theorem d_Tr_cutTo_23 : decode b_Tr_cutTo 23 = .ok (.iaload, 1) := by decide +kernel
theorem d_Tr_cutTo_24 : decode b_Tr_cutTo 24 = .ok (.invokevirtual 40, 3) := by decide +kernel
theorem d_Tr_cutTo_27 : decode b_Tr_cutTo 27 = .ok (.iinc 2 1, 3) := by decide +kernel
theorem d_Tr_cutTo_30 : decode b_Tr_cutTo 30 = .ok (.goto (-24), 3) := by decide +kernel
theorem d_Tr_cutTo_33 : decode b_Tr_cutTo 33 = .ok (.aload_n 0, 1) := by decide +kernel
theorem d_Tr_cutTo_34 : decode b_Tr_cutTo 34 = .ok (.aload_n 0, 1) := by decide +kernel
theorem d_Tr_cutTo_35 : decode b_Tr_cutTo 35 = .ok (.getfield 22, 3) := by decide +kernel
theorem d_Tr_cutTo_38 : decode b_Tr_cutTo 38 = .ok (.iload_n 1, 1) := by decide +kernel
theorem d_Tr_cutTo_39 : decode b_Tr_cutTo 39 = .ok (.iconst 0, 1) := by decide +kernel
theorem d_Tr_cutTo_40 : decode b_Tr_cutTo 40 = .ok (.invokestatic 34, 3) := by decide +kernel
theorem d_Tr_cutTo_43 : decode b_Tr_cutTo 43 = .ok (.invokestatic 43, 3) := by decide +kernel
theorem d_Tr_cutTo_46 : decode b_Tr_cutTo 46 = .ok (.putfield 22, 3) := by decide +kernel
theorem d_Tr_cutTo_49 : decode b_Tr_cutTo 49 = .ok (.return_, 1) := by decide +kernel
theorem d_Tr_keepThose_0 : decode b_Tr_keepThose 0 = .ok (.iconst 0, 1) := by decide +kernel
theorem d_Tr_keepThose_1 : decode b_Tr_keepThose 1 = .ok (.istore_n 2, 1) := by decide +kernel
theorem d_Tr_keepThose_2 : decode b_Tr_keepThose 2 = .ok (.iconst 0, 1) := by decide +kernel
theorem d_Tr_keepThose_3 : decode b_Tr_keepThose 3 = .ok (.istore_n 3, 1) := by decide +kernel
theorem d_Tr_keepThose_4 : decode b_Tr_keepThose 4 = .ok (.iload_n 3, 1) := by decide +kernel
theorem d_Tr_keepThose_5 : decode b_Tr_keepThose 5 = .ok (.aload_n 0, 1) := by decide +kernel
theorem d_Tr_keepThose_6 : decode b_Tr_keepThose 6 = .ok (.getfield 22, 3) := by decide +kernel
theorem d_Tr_keepThose_9 : decode b_Tr_keepThose 9 = .ok (.if_icmp .ge 53, 3) := by decide +kernel
theorem d_Tr_keepThose_12 : decode b_Tr_keepThose 12 = .ok (.aload_n 1, 1) := by decide +kernel
theorem d_Tr_keepThose_13 : decode b_Tr_keepThose 13 = .ok (.aload_n 0, 1) := by decide +kernel
theorem d_Tr_keepThose_14 : decode b_Tr_keepThose 14 = .ok (.getfield 9, 3) := by decide +kernel
theorem d_Tr_keepThose_17 : decode b_Tr_keepThose 17 = .ok (.iload_n 3, 1) := by decide +kernel
theorem d_Tr_keepThose_18 : decode b_Tr_keepThose 18 = .ok (.iaload, 1) := by decide +kernel
theorem d_Tr_keepThose_19 : decode b_Tr_keepThose 19 = .ok (.invokevirtual 26, 3) := by decide +kernel
theorem d_Tr_keepThose_22 : decode b_Tr_keepThose 22 = .ok (.ifCond .eq 21, 3) := by decide +kernel
theorem d_Tr_keepThose_25 : decode b_Tr_keepThose 25 = .ok (.aload_n 0, 1) := by decide +kernel
theorem d_Tr_keepThose_26 : decode b_Tr_keepThose 26 = .ok (.getfield 9, 3) := by decide +kernel
theorem d_Tr_keepThose_29 : decode b_Tr_keepThose 29 = .ok (.iload_n 2, 1) := by decide +kernel
theorem d_Tr_keepThose_30 : decode b_Tr_keepThose 30 = .ok (.aload_n 0, 1) := by decide +kernel
theorem d_Tr_keepThose_31 : decode b_Tr_keepThose 31 = .ok (.getfield 9, 3) := by decide +kernel
theorem d_Tr_keepThose_34 : decode b_Tr_keepThose 34 = .ok (.iload_n 3, 1) := by decide +kernel
theorem d_Tr_keepThose_35 : decode b_Tr_keepThose 35 = .ok (.iaload, 1) := by decide +kernel
theorem d_Tr_keepThose_36 : decode b_Tr_keepThose 36 = .ok (.iastore, 1) := by decide +kernel
theorem d_Tr_keepThose_37 : decode b_Tr_keepThose 37 = .ok (.iinc 2 1, 3) := by decide +kernel
theorem d_Tr_keepThose_40 : decode b_Tr_keepThose 40 = .ok (.goto 16, 3) := by decide +kernel
theorem d_Tr_keepThose_43 : decode b_Tr_keepThose 43 = .ok (.aload_n 0, 1) := by decide +kernel
theorem d_Tr_keepThose_44 : decode b_Tr_keepThose 44 = .ok (.getfield 18, 3) := by decide +kernel
theorem d_Tr_keepThose_47 : decode b_Tr_keepThose 47 = .ok (.aload_n 0, 1) := by decide +kernel
theorem d_Tr_keepThose_48 : decode b_Tr_keepThose 48 = .ok (.getfield 9, 3) := by decide +kernel
theorem d_Tr_keepThose_51 : decode b_Tr_keepThose 51 = .ok (.iload_n 3, 1) := by decide +kernel
theorem d_Tr_keepThose_52 : decode b_Tr_keepThose 52 = .ok (.iaload, 1) := by decide +kernel
theorem d_Tr_keepThose_53 : decode b_Tr_keepThose 53 = .ok (.invokevirtual 40, 3) := by decide +kernel
theorem d_Tr_keepThose_56 : decode b_Tr_keepThose 56 = .ok (.iinc 3 1, 3) := by decide +kernel
theorem d_Tr_keepThose_59 : decode b_Tr_keepThose 59 = .ok (.goto (-55), 3) := by decide +kernel
theorem d_Tr_keepThose_62 : decode b_Tr_keepThose 62 = .ok (.aload_n 0, 1) := by decide +kernel
theorem d_Tr_keepThose_63 : decode b_Tr_keepThose 63 = .ok (.iload_n 2, 1) := by decide +kernel
theorem d_Tr_keepThose_64 : decode b_Tr_keepThose 64 = .ok (.putfield 22, 3) := by decide +kernel
theorem d_Tr_keepThose_67 : decode b_Tr_keepThose 67 = .ok (.return_, 1) := by decide +kernel
theorem d_Pt_init_0 : decode b_Pt_init 0 = .ok (.aload_n 0, 1) := by decide +kernel
theorem d_Pt_init_1 : decode b_Pt_init 1 = .ok (.invokespecial 3, 3) := by decide +kernel
theorem d_Pt_init_4 : decode b_Pt_init 4 = .ok (.iconst 3, 1) := by decide +kernel
theorem d_Pt_init_5 : decode b_Pt_init 5 = .ok (.newarray .int, 2) := by decide +kernel
theorem d_Pt_init_7 : decode b_Pt_init 7 = .ok (.dup, 1) := by decide +kernel
theorem d_Pt_init_8 : decode b_Pt_init 8 = .ok (.iconst 0, 1) := by decide +kernel
theorem d_Pt_init_9 : decode b_Pt_init 9 = .ok (.iload_n 1, 1) := by decide +kernel
theorem d_Pt_init_10 : decode b_Pt_init 10 = .ok (.iastore, 1) := by decide +kernel
theorem d_Pt_init_11 : decode b_Pt_init 11 = .ok (.dup, 1) := by decide +kernel
theorem d_Pt_init_12 : decode b_Pt_init 12 = .ok (.iconst 1, 1) := by decide +kernel
theorem d_Pt_init_13 : decode b_Pt_init 13 = .ok (.iload_n 2, 1) := by decide +kernel
theorem d_Pt_init_14 : decode b_Pt_init 14 = .ok (.iastore, 1) := by decide +kernel
theorem d_Pt_init_15 : decode b_Pt_init 15 = .ok (.dup, 1) := by decide +kernel
theorem d_Pt_init_16 : decode b_Pt_init 16 = .ok (.iconst 2, 1) := by decide +kernel
theorem d_Pt_init_17 : decode b_Pt_init 17 = .ok (.iload_n 3, 1) := by decide +kernel
theorem d_Pt_init_18 : decode b_Pt_init 18 = .ok (.iastore, 1) := by decide +kernel
theorem d_Pt_init_19 : decode b_Pt_init 19 = .ok (.astore 4, 2) := by decide +kernel
theorem d_Pt_init_21 : decode b_Pt_init 21 = .ok (.aload_n 0, 1) := by decide +kernel
theorem d_Pt_init_22 : decode b_Pt_init 22 = .ok (.iconst 3, 1) := by decide +kernel
theorem d_Pt_init_23 : decode b_Pt_init 23 = .ok (.newarray .int, 2) := by decide +kernel
theorem d_Pt_init_25 : decode b_Pt_init 25 = .ok (.putfield 9, 3) := by decide +kernel
theorem d_Pt_init_28 : decode b_Pt_init 28 = .ok (.aload_n 0, 1) := by decide +kernel
theorem d_Pt_init_29 : decode b_Pt_init 29 = .ok (.iconst 3, 1) := by decide +kernel
theorem d_Pt_init_30 : decode b_Pt_init 30 = .ok (.newarray .int, 2) := by decide +kernel
theorem d_Pt_init_32 : decode b_Pt_init 32 = .ok (.putfield 15, 3) := by decide +kernel
theorem d_Pt_init_35 : decode b_Pt_init 35 = .ok (.iconst 0, 1) := by decide +kernel
theorem d_Pt_init_36 : decode b_Pt_init 36 = .ok (.istore 5, 2) := by decide +kernel
theorem d_Pt_init_38 : decode b_Pt_init 38 = .ok (.iconst 0, 1) := by decide +kernel
theorem d_Pt_init_39 : decode b_Pt_init 39 = .ok (.istore 6, 2) := by decide +kernel
theorem d_Pt_init_41 : decode b_Pt_init 41 = .ok (.iconst 0, 1) := by decide +kernel
theorem d_Pt_init_42 : decode b_Pt_init 42 = .ok (.istore 7, 2) := by decide +kernel
theorem d_Pt_init_44 : decode b_Pt_init 44 = .ok (.iconst 0, 1) := by decide +kernel
theorem d_Pt_init_45 : decode b_Pt_init 45 = .ok (.istore 8, 2) := by decide +kernel
theorem d_Pt_init_47 : decode b_Pt_init 47 = .ok (.iload 8, 2) := by decide +kernel
theorem d_Pt_init_49 : decode b_Pt_init 49 = .ok (.iconst 3, 1) := by decide +kernel
theorem d_Pt_init_50 : decode b_Pt_init 50 = .ok (.if_icmp .ge 96, 3) := by decide +kernel
theorem d_Pt_init_53 : decode b_Pt_init 53 = .ok (.aload 4, 2) := by decide +kernel
theorem d_Pt_init_55 : decode b_Pt_init 55 = .ok (.iload 8, 2) := by decide +kernel
theorem d_Pt_init_57 : decode b_Pt_init 57 = .ok (.iaload, 1) := by decide +kernel
theorem d_Pt_init_58 : decode b_Pt_init 58 = .ok (.ifCond .ge 51, 3) := by decide +kernel
theorem d_Pt_init_61 : decode b_Pt_init 61 = .ok (.aload_n 0, 1) := by decide +kernel
theorem d_Pt_init_62 : decode b_Pt_init 62 = .ok (.getfield 15, 3) := by decide +kernel
theorem d_Pt_init_65 : decode b_Pt_init 65 = .ok (.iload 8, 2) := by decide +kernel
theorem d_Pt_init_67 : decode b_Pt_init 67 = .ok (.iconst (-1), 1) := by decide +kernel
theorem d_Pt_init_68 : decode b_Pt_init 68 = .ok (.aload 4, 2) := by decide +kernel
theorem d_Pt_init_70 : decode b_Pt_init 70 = .ok (.iload 8, 2) := by decide +kernel
theorem d_Pt_init_72 : decode b_Pt_init 72 = .ok (.iaload, 1) := by decide +kernel
theorem d_Pt_init_73 : decode b_Pt_init 73 = .ok (.isub, 1) := by decide +kernel
theorem d_Pt_init_74 : decode b_Pt_init 74 = .ok (.bipush 7, 2) := by decide +kernel
theorem d_Pt_init_76 : decode b_Pt_init 76 = .ok (.iand, 1) := by decide +kernel
theorem d_Pt_init_77 : decode b_Pt_init 77 = .ok (.iastore, 1) := by decide +kernel
theorem d_Pt_init_78 : decode b_Pt_init 78 = .ok (.aload_n 0, 1) := by decide +kernel
theorem d_Pt_init_79 : decode b_Pt_init 79 = .ok (.getfield 9, 3) := by decide +kernel
theorem d_Pt_init_82 : decode b_Pt_init 82 = .ok (.iload 8, 2) := by decide +kernel
theorem d_Pt_init_84 : decode b_Pt_init 84 = .ok (.iconst 1, 1) := by decide +kernel
theorem d_Pt_init_85 : decode b_Pt_init 85 = .ok (.aload_n 0, 1) := by decide +kernel
theorem d_Pt_init_86 : decode b_Pt_init 86 = .ok (.getfield 15, 3) := by decide +kernel
theorem d_Pt_init_89 : decode b_Pt_init 89 = .ok (.iload 8, 2) := by decide +kernel
theorem d_Pt_init_91 : decode b_Pt_init 91 = .ok (.iaload, 1) := by decide +kernel
theorem d_Pt_init_92 : decode b_Pt_init 92 = .ok (.ishl, 1) := by decide +kernel
theorem d_Pt_init_93 : decode b_Pt_init 93 = .ok (.iastore, 1) := by decide +kernel
theorem d_Pt_init_94 : decode b_Pt_init 94 = .ok (.iload 5, 2) := by decide +kernel
theorem d_Pt_init_96 : decode b_Pt_init 96 = .ok (.aload_n 0, 1) := by decide +kernel
theorem d_Pt_init_97 : decode b_Pt_init 97 = .ok (.getfield 9, 3) := by decide +kernel
theorem d_Pt_init_100 : decode b_Pt_init 100 = .ok (.iload 8, 2) := by decide +kernel
theorem d_Pt_init_102 : decode b_Pt_init 102 = .ok (.iaload, 1) := by decide +kernel
theorem d_Pt_init_103 : decode b_Pt_init 103 = .ok (.ior, 1) := by decide +kernel
theorem d_Pt_init_104 : decode b_Pt_init 104 = .ok (.istore 5, 2) := by decide +kernel
theorem d_Pt_init_106 : decode b_Pt_init 106 = .ok (.goto 34, 3) := by decide +kernel
theorem d_Pt_init_109 : decode b_Pt_init 109 = .ok (.iload 6, 2) := by decide +kernel
theorem d_Pt_init_111 : decode b_Pt_init 111 = .ok (.bipush 31, 2) := by decide +kernel
theorem d_Pt_init_113 : decode b_Pt_init 113 = .ok (.getstatic 18, 3) := by decide +kernel
theorem d_Pt_init_116 : decode b_Pt_init 116 = .ok (.iload 8, 2) := by decide +kernel
theorem d_Pt_init_118 : decode b_Pt_init 118 = .ok (.iaload, 1) := by decide +kernel
theorem d_Pt_init_119 : decode b_Pt_init 119 = .ok (.ishl, 1) := by decide +kernel
theorem d_Pt_init_120 : decode b_Pt_init 120 = .ok (.ior, 1) := by decide +kernel
theorem d_Pt_init_121 : decode b_Pt_init 121 = .ok (.istore 6, 2) := by decide +kernel
theorem d_Pt_init_123 : decode b_Pt_init 123 = .ok (.iload 7, 2) := by decide +kernel
theorem d_Pt_init_125 : decode b_Pt_init 125 = .ok (.aload 4, 2) := by decide +kernel
theorem d_Pt_init_127 : decode b_Pt_init 127 = .ok (.iload 8, 2) := by decide +kernel
theorem d_Pt_init_129 : decode b_Pt_init 129 = .ok (.iaload, 1) := by decide +kernel
theorem d_Pt_init_130 : decode b_Pt_init 130 = .ok (.getstatic 18, 3) := by decide +kernel
theorem d_Pt_init_133 : decode b_Pt_init 133 = .ok (.iload 8, 2) := by decide +kernel
theorem d_Pt_init_135 : decode b_Pt_init 135 = .ok (.iaload, 1) := by decide +kernel
theorem d_Pt_init_136 : decode b_Pt_init 136 = .ok (.ishl, 1) := by decide +kernel
theorem d_Pt_init_137 : decode b_Pt_init 137 = .ok (.ior, 1) := by decide +kernel
theorem d_Pt_init_138 : decode b_Pt_init 138 = .ok (.istore 7, 2) := by decide +kernel
theorem d_Pt_init_140 : decode b_Pt_init 140 = .ok (.iinc 8 1, 3) := by decide +kernel
theorem d_Pt_init_143 : decode b_Pt_init 143 = .ok (.goto (-96), 3) := by decide +kernel
theorem d_Pt_init_146 : decode b_Pt_init 146 = .ok (.aload_n 0, 1) := by decide +kernel
theorem d_Pt_init_147 : decode b_Pt_init 147 = .ok (.iload 5, 2) := by decide +kernel
theorem d_Pt_init_149 : decode b_Pt_init 149 = .ok (.putfield 21, 3) := by decide +kernel
theorem d_Pt_init_152 : decode b_Pt_init 152 = .ok (.aload_n 0, 1) := by decide +kernel
theorem d_Pt_init_153 : decode b_Pt_init 153 = .ok (.iload 6, 2) := by decide +kernel
theorem d_Pt_init_155 : decode b_Pt_init 155 = .ok (.putfield 25, 3) := by decide +kernel
theorem d_Pt_init_158 : decode b_Pt_init 158 = .ok (.aload_n 0, 1) := by decide +kernel
theorem d_Pt_init_159 : decode b_Pt_init 159 = .ok (.iload 7, 2) := by decide +kernel
theorem d_Pt_init_161 : decode b_Pt_init 161 = .ok (.putfield 28, 3) := by decide +kernel
theorem d_Pt_init_164 : decode b_Pt_init 164 = .ok (.aload_n 0, 1) := by decide +kernel
theorem d_Pt_init_165 : decode b_Pt_init 165 = .ok (.iload_n 1, 1) := by decide +kernel
theorem d_Pt_init_166 : decode b_Pt_init 166 = .ok (.iload_n 2, 1) := by decide +kernel
theorem d_Pt_init_167 : decode b_Pt_init 167 = .ok (.if_icmp .ne 7, 3) := by decide +kernel
theorem d_Pt_init_170 : decode b_Pt_init 170 = .ok (.iconst 1, 1) := by decide +kernel
theorem d_Pt_init_171 : decode b_Pt_init 171 = .ok (.goto 4, 3) := by decide +kernel
theorem d_Pt_init_174 : decode b_Pt_init 174 = .ok (.iconst 0, 1) := by decide +kernel
theorem d_Pt_init_175 : decode b_Pt_init 175 = .ok (.putfield 31, 3) := by decide +kernel
theorem d_Pt_init_178 : decode b_Pt_init 178 = .ok (.aload_n 0, 1) := by decide +kernel
theorem d_Pt_init_179 : decode b_Pt_init 179 = .ok (.iload_n 1, 1) := by decide +kernel
theorem d_Pt_init_180 : decode b_Pt_init 180 = .ok (.iload_n 3, 1) := by decide +kernel
theorem d_Pt_init_181 : decode b_Pt_init 181 = .ok (.if_icmp .ne 7, 3) := by decide +kernel
theorem d_Pt_init_184 : decode b_Pt_init 184 = .ok (.iconst 1, 1) := by decide +kernel
theorem d_Pt_init_185 : decode b_Pt_init 185 = .ok (.goto 4, 3) := by decide +kernel
theorem d_Pt_init_188 : decode b_Pt_init 188 = .ok (.iconst 0, 1) := by decide +kernel
theorem d_Pt_init_189 : decode b_Pt_init 189 = .ok (.putfield 35, 3) := by decide +kernel
theorem d_Pt_init_192 : decode b_Pt_init 192 = .ok (.aload_n 0, 1) := by decide +kernel
theorem d_Pt_init_193 : decode b_Pt_init 193 = .ok (.iload_n 2, 1) := by decide +kernel
theorem d_Pt_init_194 : decode b_Pt_init 194 = .ok (.iload_n 3, 1) := by decide +kernel
theorem d_Pt_init_195 : decode b_Pt_init 195 = .ok (.if_icmp .ne 7, 3) := by decide +kernel
theorem d_Pt_init_198 : decode b_Pt_init 198 = .ok (.iconst 1, 1) := by decide +kernel
theorem d_Pt_init_199 : decode b_Pt_init 199 = .ok (.goto 4, 3) := by decide +kernel
theorem d_Pt_init_202 : decode b_Pt_init 202 = .ok (.iconst 0, 1) := by decide +kernel
theorem d_Pt_init_203 : decode b_Pt_init 203 = .ok (.putfield 38, 3) := by decide +kernel
theorem d_Pt_init_206 : decode b_Pt_init 206 = .ok (.return_, 1) := by decide +kernel
theorem d_Pt_fits_0 : decode b_Pt_fits 0 = .ok (.iload_n 1, 1) := by decide +kernel
theorem d_Pt_fits_1 : decode b_Pt_fits 1 = .ok (.aload_n 0, 1) := by decide +kernel
theorem d_Pt_fits_2 : decode b_Pt_fits 2 = .ok (.getfield 25, 3) := by decide +kernel
theorem d_Pt_fits_5 : decode b_Pt_fits 5 = .ok (.iand, 1) := by decide +kernel
theorem d_Pt_fits_6 : decode b_Pt_fits 6 = .ok (.aload_n 0, 1) := by decide +kernel
theorem d_Pt_fits_7 : decode b_Pt_fits 7 = .ok (.getfield 28, 3) := by decide +kernel
theorem d_Pt_fits_10 : decode b_Pt_fits 10 = .ok (.if_icmp .ne 15, 3) := by decide +kernel
theorem d_Pt_fits_13 : decode b_Pt_fits 13 = .ok (.aload_n 0, 1) := by decide +kernel
theorem d_Pt_fits_14 : decode b_Pt_fits 14 = .ok (.iload_n 1, 1) := by decide +kernel
theorem d_Pt_fits_15 : decode b_Pt_fits 15 = .ok (.invokevirtual 41, 3) := by decide +kernel
theorem d_Pt_fits_18 : decode b_Pt_fits 18 = .ok (.ifCond .eq 7, 3) := by decide +kernel
theorem d_Pt_fits_21 : decode b_Pt_fits 21 = .ok (.iconst 1, 1) := by decide +kernel
theorem d_Pt_fits_22 : decode b_Pt_fits 22 = .ok (.goto 4, 3) := by decide +kernel
theorem d_Pt_fits_25 : decode b_Pt_fits 25 = .ok (.iconst 0, 1) := by decide +kernel
theorem d_Pt_fits_26 : decode b_Pt_fits 26 = .ok (.ireturn, 1) := by decide +kernel
theorem d_Pt_agrees_0 : decode b_Pt_agrees 0 = .ok (.iload_n 1, 1) := by decide +kernel
theorem d_Pt_agrees_1 : decode b_Pt_agrees 1 = .ok (.bipush 10, 2) := by decide +kernel
theorem d_Pt_agrees_3 : decode b_Pt_agrees 3 = .ok (.ishr, 1) := by decide +kernel
theorem d_Pt_agrees_4 : decode b_Pt_agrees 4 = .ok (.istore_n 2, 1) := by decide +kernel
theorem d_Pt_agrees_5 : decode b_Pt_agrees 5 = .ok (.iload_n 1, 1) := by decide +kernel
theorem d_Pt_agrees_6 : decode b_Pt_agrees 6 = .ok (.iconst 5, 1) := by decide +kernel
theorem d_Pt_agrees_7 : decode b_Pt_agrees 7 = .ok (.ishr, 1) := by decide +kernel
theorem d_Pt_agrees_8 : decode b_Pt_agrees 8 = .ok (.bipush 31, 2) := by decide +kernel
theorem d_Pt_agrees_10 : decode b_Pt_agrees 10 = .ok (.iand, 1) := by decide +kernel
theorem d_Pt_agrees_11 : decode b_Pt_agrees 11 = .ok (.istore_n 3, 1) := by decide +kernel
theorem d_Pt_agrees_12 : decode b_Pt_agrees 12 = .ok (.iload_n 1, 1) := by decide +kernel
theorem d_Pt_agrees_13 : decode b_Pt_agrees 13 = .ok (.bipush 31, 2) := by decide +kernel
theorem d_Pt_agrees_15 : decode b_Pt_agrees 15 = .ok (.iand, 1) := by decide +kernel
theorem d_Pt_agrees_16 : decode b_Pt_agrees 16 = .ok (.istore 4, 2) := by decide +kernel
theorem d_Pt_agrees_18 : decode b_Pt_agrees 18 = .ok (.aload_n 0, 1) := by decide +kernel
theorem d_Pt_agrees_19 : decode b_Pt_agrees 19 = .ok (.getfield 31, 3) := by decide +kernel
theorem d_Pt_agrees_22 : decode b_Pt_agrees 22 = .ok (.ifCond .eq 8, 3) := by decide +kernel
theorem d_Pt_agrees_25 : decode b_Pt_agrees 25 = .ok (.iload_n 2, 1) := by decide +kernel
theorem d_Pt_agrees_26 : decode b_Pt_agrees 26 = .ok (.iload_n 3, 1) := by decide +kernel
theorem d_Pt_agrees_27 : decode b_Pt_agrees 27 = .ok (.if_icmp .ne 33, 3) := by decide +kernel
theorem d_Pt_agrees_30 : decode b_Pt_agrees 30 = .ok (.aload_n 0, 1) := by decide +kernel
theorem d_Pt_agrees_31 : decode b_Pt_agrees 31 = .ok (.getfield 35, 3) := by decide +kernel
theorem d_Pt_agrees_34 : decode b_Pt_agrees 34 = .ok (.ifCond .eq 9, 3) := by decide +kernel
theorem d_Pt_agrees_37 : decode b_Pt_agrees 37 = .ok (.iload_n 2, 1) := by decide +kernel
theorem d_Pt_agrees_38 : decode b_Pt_agrees 38 = .ok (.iload 4, 2) := by decide +kernel
theorem d_Pt_agrees_40 : decode b_Pt_agrees 40 = .ok (.if_icmp .ne 20, 3) := by decide +kernel
theorem d_Pt_agrees_43 : decode b_Pt_agrees 43 = .ok (.aload_n 0, 1) := by decide +kernel
theorem d_Pt_agrees_44 : decode b_Pt_agrees 44 = .ok (.getfield 38, 3) := by decide +kernel
theorem d_Pt_agrees_47 : decode b_Pt_agrees 47 = .ok (.ifCond .eq 9, 3) := by decide +kernel
theorem d_Pt_agrees_50 : decode b_Pt_agrees 50 = .ok (.iload_n 3, 1) := by decide +kernel
theorem d_Pt_agrees_51 : decode b_Pt_agrees 51 = .ok (.iload 4, 2) := by decide +kernel
theorem d_Pt_agrees_53 : decode b_Pt_agrees 53 = .ok (.if_icmp .ne 7, 3) := by decide +kernel
theorem d_Pt_agrees_56 : decode b_Pt_agrees 56 = .ok (.iconst 1, 1) := by decide +kernel
theorem d_Pt_agrees_57 : decode b_Pt_agrees 57 = .ok (.goto 4, 3) := by decide +kernel
theorem d_Pt_agrees_60 : decode b_Pt_agrees 60 = .ok (.iconst 0, 1) := by decide +kernel
theorem d_Pt_agrees_61 : decode b_Pt_agrees 61 = .ok (.ireturn, 1) := by decide +kernel
theorem d_Pt_maskOf_0 : decode b_Pt_maskOf 0 = .ok (.iconst 0, 1) := by decide +kernel
theorem d_Pt_maskOf_1 : decode b_Pt_maskOf 1 = .ok (.istore_n 2, 1) := by decide +kernel
theorem d_Pt_maskOf_2 : decode b_Pt_maskOf 2 = .ok (.iconst 0, 1) := by decide +kernel
theorem d_Pt_maskOf_3 : decode b_Pt_maskOf 3 = .ok (.istore_n 3, 1) := by decide +kernel
theorem d_Pt_maskOf_4 : decode b_Pt_maskOf 4 = .ok (.iload_n 3, 1) := by decide +kernel
theorem d_Pt_maskOf_5 : decode b_Pt_maskOf 5 = .ok (.iconst 3, 1) := by decide +kernel
theorem d_Pt_maskOf_6 : decode b_Pt_maskOf 6 = .ok (.if_icmp .ge 31, 3) := by decide +kernel
theorem d_Pt_maskOf_9 : decode b_Pt_maskOf 9 = .ok (.aload_n 0, 1) := by decide +kernel
theorem d_Pt_maskOf_10 : decode b_Pt_maskOf 10 = .ok (.getfield 9, 3) := by decide +kernel
theorem d_Pt_maskOf_13 : decode b_Pt_maskOf 13 = .ok (.iload_n 3, 1) := by decide +kernel
theorem d_Pt_maskOf_14 : decode b_Pt_maskOf 14 = .ok (.iaload, 1) := by decide +kernel
theorem d_Pt_maskOf_15 : decode b_Pt_maskOf 15 = .ok (.iload_n 1, 1) := by decide +kernel
theorem d_Pt_maskOf_16 : decode b_Pt_maskOf 16 = .ok (.iand, 1) := by decide +kernel
theorem d_Pt_maskOf_17 : decode b_Pt_maskOf 17 = .ok (.ifCond .eq 14, 3) := by decide +kernel
theorem d_Pt_maskOf_20 : decode b_Pt_maskOf 20 = .ok (.iload_n 2, 1) := by decide +kernel
theorem d_Pt_maskOf_21 : decode b_Pt_maskOf 21 = .ok (.bipush 31, 2) := by decide +kernel
theorem d_Pt_maskOf_23 : decode b_Pt_maskOf 23 = .ok (.getstatic 18, 3) := by decide +kernel
theorem d_Pt_maskOf_26 : decode b_Pt_maskOf 26 = .ok (.iload_n 3, 1) := by decide +kernel
theorem d_Pt_maskOf_27 : decode b_Pt_maskOf 27 = .ok (.iaload, 1) := by decide +kernel
theorem d_Pt_maskOf_28 : decode b_Pt_maskOf 28 = .ok (.ishl, 1) := by decide +kernel
theorem d_Pt_maskOf_29 : decode b_Pt_maskOf 29 = .ok (.ior, 1) := by decide +kernel
theorem d_Pt_maskOf_30 : decode b_Pt_maskOf 30 = .ok (.istore_n 2, 1) := by decide +kernel
theorem d_Pt_maskOf_31 : decode b_Pt_maskOf 31 = .ok (.iinc 3 1, 3) := by decide +kernel
theorem d_Pt_maskOf_34 : decode b_Pt_maskOf 34 = .ok (.goto (-30), 3) := by decide +kernel
theorem d_Pt_maskOf_37 : decode b_Pt_maskOf 37 = .ok (.iload_n 2, 1) := by decide +kernel
theorem d_Pt_maskOf_38 : decode b_Pt_maskOf 38 = .ok (.ireturn, 1) := by decide +kernel
theorem d_Pt_filled_0 : decode b_Pt_filled 0 = .ok (.iconst 0, 1) := by decide +kernel
theorem d_Pt_filled_1 : decode b_Pt_filled 1 = .ok (.istore_n 3, 1) := by decide +kernel
theorem d_Pt_filled_2 : decode b_Pt_filled 2 = .ok (.iconst 0, 1) := by decide +kernel
theorem d_Pt_filled_3 : decode b_Pt_filled 3 = .ok (.istore 4, 2) := by decide +kernel
theorem d_Pt_filled_5 : decode b_Pt_filled 5 = .ok (.iload 4, 2) := by decide +kernel
theorem d_Pt_filled_7 : decode b_Pt_filled 7 = .ok (.iconst 3, 1) := by decide +kernel
theorem d_Pt_filled_8 : decode b_Pt_filled 8 = .ok (.if_icmp .ge 40, 3) := by decide +kernel
theorem d_Pt_filled_11 : decode b_Pt_filled 11 = .ok (.aload_n 0, 1) := by decide +kernel
theorem d_Pt_filled_12 : decode b_Pt_filled 12 = .ok (.getfield 9, 3) := by decide +kernel
theorem d_Pt_filled_15 : decode b_Pt_filled 15 = .ok (.iload 4, 2) := by decide +kernel
theorem d_Pt_filled_17 : decode b_Pt_filled 17 = .ok (.iaload, 1) := by decide +kernel
theorem d_Pt_filled_18 : decode b_Pt_filled 18 = .ok (.iload_n 1, 1) := by decide +kernel
theorem d_Pt_filled_19 : decode b_Pt_filled 19 = .ok (.iand, 1) := by decide +kernel
theorem d_Pt_filled_20 : decode b_Pt_filled 20 = .ok (.ifCond .eq 22, 3) := by decide +kernel
theorem d_Pt_filled_23 : decode b_Pt_filled 23 = .ok (.iload_n 3, 1) := by decide +kernel
theorem d_Pt_filled_24 : decode b_Pt_filled 24 = .ok (.aload_n 2, 1) := by decide +kernel
theorem d_Pt_filled_25 : decode b_Pt_filled 25 = .ok (.aload_n 0, 1) := by decide +kernel
theorem d_Pt_filled_26 : decode b_Pt_filled 26 = .ok (.getfield 15, 3) := by decide +kernel
theorem d_Pt_filled_29 : decode b_Pt_filled 29 = .ok (.iload 4, 2) := by decide +kernel
theorem d_Pt_filled_31 : decode b_Pt_filled 31 = .ok (.iaload, 1) := by decide +kernel
theorem d_Pt_filled_32 : decode b_Pt_filled 32 = .ok (.iaload, 1) := by decide +kernel
theorem d_Pt_filled_33 : decode b_Pt_filled 33 = .ok (.getstatic 18, 3) := by decide +kernel
theorem d_Pt_filled_36 : decode b_Pt_filled 36 = .ok (.iload 4, 2) := by decide +kernel
theorem d_Pt_filled_38 : decode b_Pt_filled 38 = .ok (.iaload, 1) := by decide +kernel
theorem d_Pt_filled_39 : decode b_Pt_filled 39 = .ok (.ishl, 1) := by decide +kernel
theorem d_Pt_filled_40 : decode b_Pt_filled 40 = .ok (.ior, 1) := by decide +kernel
theorem d_Pt_filled_41 : decode b_Pt_filled 41 = .ok (.istore_n 3, 1) := by decide +kernel
theorem d_Pt_filled_42 : decode b_Pt_filled 42 = .ok (.iinc 4 1, 3) := by decide +kernel
theorem d_Pt_filled_45 : decode b_Pt_filled 45 = .ok (.goto (-40), 3) := by decide +kernel
theorem d_Pt_filled_48 : decode b_Pt_filled 48 = .ok (.iload_n 3, 1) := by decide +kernel
theorem d_Pt_filled_49 : decode b_Pt_filled 49 = .ok (.ireturn, 1) := by decide +kernel
theorem d_Pt_bind_0 : decode b_Pt_bind 0 = .ok (.iconst 0, 1) := by decide +kernel
theorem d_Pt_bind_1 : decode b_Pt_bind 1 = .ok (.istore 4, 2) := by decide +kernel
theorem d_Pt_bind_3 : decode b_Pt_bind 3 = .ok (.iload 4, 2) := by decide +kernel
theorem d_Pt_bind_5 : decode b_Pt_bind 5 = .ok (.iconst 3, 1) := by decide +kernel
theorem d_Pt_bind_6 : decode b_Pt_bind 6 = .ok (.if_icmp .ge 41, 3) := by decide +kernel
theorem d_Pt_bind_9 : decode b_Pt_bind 9 = .ok (.aload_n 0, 1) := by decide +kernel
theorem d_Pt_bind_10 : decode b_Pt_bind 10 = .ok (.getfield 9, 3) := by decide +kernel
theorem d_Pt_bind_13 : decode b_Pt_bind 13 = .ok (.iload 4, 2) := by decide +kernel
theorem d_Pt_bind_15 : decode b_Pt_bind 15 = .ok (.iaload, 1) := by decide +kernel
theorem d_Pt_bind_16 : decode b_Pt_bind 16 = .ok (.iload_n 2, 1) := by decide +kernel
theorem d_Pt_bind_17 : decode b_Pt_bind 17 = .ok (.iand, 1) := by decide +kernel
theorem d_Pt_bind_18 : decode b_Pt_bind 18 = .ok (.ifCond .eq 23, 3) := by decide +kernel
theorem d_Pt_bind_21 : decode b_Pt_bind 21 = .ok (.aload_n 3, 1) := by decide +kernel
theorem d_Pt_bind_22 : decode b_Pt_bind 22 = .ok (.aload_n 0, 1) := by decide +kernel
theorem d_Pt_bind_23 : decode b_Pt_bind 23 = .ok (.getfield 15, 3) := by decide +kernel
theorem d_Pt_bind_26 : decode b_Pt_bind 26 = .ok (.iload 4, 2) := by decide +kernel
theorem d_Pt_bind_28 : decode b_Pt_bind 28 = .ok (.iaload, 1) := by decide +kernel
theorem d_Pt_bind_29 : decode b_Pt_bind 29 = .ok (.iload_n 1, 1) := by decide +kernel
theorem d_Pt_bind_30 : decode b_Pt_bind 30 = .ok (.getstatic 18, 3) := by decide +kernel
theorem d_Pt_bind_33 : decode b_Pt_bind 33 = .ok (.iload 4, 2) := by decide +kernel
theorem d_Pt_bind_35 : decode b_Pt_bind 35 = .ok (.iaload, 1) := by decide +kernel
theorem d_Pt_bind_36 : decode b_Pt_bind 36 = .ok (.ishr, 1) := by decide +kernel
theorem d_Pt_bind_37 : decode b_Pt_bind 37 = .ok (.bipush 31, 2) := by decide +kernel
theorem d_Pt_bind_39 : decode b_Pt_bind 39 = .ok (.iand, 1) := by decide +kernel
theorem d_Pt_bind_40 : decode b_Pt_bind 40 = .ok (.iastore, 1) := by decide +kernel
theorem d_Pt_bind_41 : decode b_Pt_bind 41 = .ok (.iinc 4 1, 3) := by decide +kernel
theorem d_Pt_bind_44 : decode b_Pt_bind 44 = .ok (.goto (-41), 3) := by decide +kernel
theorem d_Pt_bind_47 : decode b_Pt_bind 47 = .ok (.return_, 1) := by decide +kernel
theorem d_Ru_init_0 : decode b_Ru_init 0 = .ok (.aload_n 0, 1) := by decide +kernel
theorem d_Ru_init_1 : decode b_Ru_init 1 = .ok (.invokespecial 1, 3) := by decide +kernel
theorem d_Ru_init_4 : decode b_Ru_init 4 = .ok (.aload_n 0, 1) := by decide +kernel
theorem d_Ru_init_5 : decode b_Ru_init 5 = .ok (.aload_n 1, 1) := by decide +kernel
theorem d_Ru_init_6 : decode b_Ru_init 6 = .ok (.putfield 7, 3) := by decide +kernel
theorem d_Ru_init_9 : decode b_Ru_init 9 = .ok (.aload_n 0, 1) := by decide +kernel
theorem d_Ru_init_10 : decode b_Ru_init 10 = .ok (.aload_n 2, 1) := by decide +kernel
theorem d_Ru_init_11 : decode b_Ru_init 11 = .ok (.putfield 13, 3) := by decide +kernel
theorem d_Ru_init_14 : decode b_Ru_init 14 = .ok (.aload_n 0, 1) := by decide +kernel
theorem d_Ru_init_15 : decode b_Ru_init 15 = .ok (.aload_n 1, 1) := by decide +kernel
theorem d_Ru_init_16 : decode b_Ru_init 16 = .ok (.arraylength, 1) := by decide +kernel
theorem d_Ru_init_17 : decode b_Ru_init 17 = .ok (.newarray .int, 2) := by decide +kernel
theorem d_Ru_init_19 : decode b_Ru_init 19 = .ok (.putfield 17, 3) := by decide +kernel
theorem d_Ru_init_22 : decode b_Ru_init 22 = .ok (.iconst 0, 1) := by decide +kernel
theorem d_Ru_init_23 : decode b_Ru_init 23 = .ok (.istore_n 3, 1) := by decide +kernel
theorem d_Ru_init_24 : decode b_Ru_init 24 = .ok (.iload_n 3, 1) := by decide +kernel
theorem d_Ru_init_25 : decode b_Ru_init 25 = .ok (.aload_n 1, 1) := by decide +kernel
theorem d_Ru_init_26 : decode b_Ru_init 26 = .ok (.arraylength, 1) := by decide +kernel
theorem d_Ru_init_27 : decode b_Ru_init 27 = .ok (.if_icmp .ge 68, 3) := by decide +kernel
theorem d_Ru_init_30 : decode b_Ru_init 30 = .ok (.aload_n 2, 1) := by decide +kernel
theorem d_Ru_init_31 : decode b_Ru_init 31 = .ok (.getfield 21, 3) := by decide +kernel
theorem d_Ru_init_34 : decode b_Ru_init 34 = .ok (.istore 4, 2) := by decide +kernel
theorem d_Ru_init_36 : decode b_Ru_init 36 = .ok (.iconst 0, 1) := by decide +kernel
theorem d_Ru_init_37 : decode b_Ru_init 37 = .ok (.istore 5, 2) := by decide +kernel
theorem d_Ru_init_39 : decode b_Ru_init 39 = .ok (.iload 5, 2) := by decide +kernel
theorem d_Ru_init_41 : decode b_Ru_init 41 = .ok (.aload_n 1, 1) := by decide +kernel
theorem d_Ru_init_42 : decode b_Ru_init 42 = .ok (.arraylength, 1) := by decide +kernel
theorem d_Ru_init_43 : decode b_Ru_init 43 = .ok (.if_icmp .ge 31, 3) := by decide +kernel
theorem d_Ru_init_46 : decode b_Ru_init 46 = .ok (.iload 4, 2) := by decide +kernel
theorem d_Ru_init_48 : decode b_Ru_init 48 = .ok (.iload 5, 2) := by decide +kernel
theorem d_Ru_init_50 : decode b_Ru_init 50 = .ok (.iload_n 3, 1) := by decide +kernel
theorem d_Ru_init_51 : decode b_Ru_init 51 = .ok (.if_icmp .ne 7, 3) := by decide +kernel
theorem d_Ru_init_54 : decode b_Ru_init 54 = .ok (.iconst 0, 1) := by decide +kernel
theorem d_Ru_init_55 : decode b_Ru_init 55 = .ok (.goto 10, 3) := by decide +kernel
theorem d_Ru_init_58 : decode b_Ru_init 58 = .ok (.aload_n 1, 1) := by decide +kernel
theorem d_Ru_init_59 : decode b_Ru_init 59 = .ok (.iload 5, 2) := by decide +kernel
theorem d_Ru_init_61 : decode b_Ru_init 61 = .ok (.aaload, 1) := by decide +kernel
theorem d_Ru_init_62 : decode b_Ru_init 62 = .ok (.getfield 21, 3) := by decide +kernel
theorem d_Ru_init_65 : decode b_Ru_init 65 = .ok (.ior, 1) := by decide +kernel
theorem d_Ru_init_66 : decode b_Ru_init 66 = .ok (.istore 4, 2) := by decide +kernel
theorem d_Ru_init_68 : decode b_Ru_init 68 = .ok (.iinc 5 1, 3) := by decide +kernel
theorem d_Ru_init_71 : decode b_Ru_init 71 = .ok (.goto (-32), 3) := by decide +kernel
theorem d_Ru_init_74 : decode b_Ru_init 74 = .ok (.aload_n 0, 1) := by decide +kernel
theorem d_Ru_init_75 : decode b_Ru_init 75 = .ok (.getfield 17, 3) := by decide +kernel
theorem d_Ru_init_78 : decode b_Ru_init 78 = .ok (.iload_n 3, 1) := by decide +kernel
theorem d_Ru_init_79 : decode b_Ru_init 79 = .ok (.aload_n 1, 1) := by decide +kernel
theorem d_Ru_init_80 : decode b_Ru_init 80 = .ok (.iload_n 3, 1) := by decide +kernel
theorem d_Ru_init_81 : decode b_Ru_init 81 = .ok (.aaload, 1) := by decide +kernel
theorem d_Ru_init_82 : decode b_Ru_init 82 = .ok (.getfield 21, 3) := by decide +kernel
theorem d_Ru_init_85 : decode b_Ru_init 85 = .ok (.iload 4, 2) := by decide +kernel
theorem d_Ru_init_87 : decode b_Ru_init 87 = .ok (.iand, 1) := by decide +kernel
theorem d_Ru_init_88 : decode b_Ru_init 88 = .ok (.iastore, 1) := by decide +kernel
theorem d_Ru_init_89 : decode b_Ru_init 89 = .ok (.iinc 3 1, 3) := by decide +kernel
theorem d_Ru_init_92 : decode b_Ru_init 92 = .ok (.goto (-68), 3) := by decide +kernel
theorem d_Ru_init_95 : decode b_Ru_init 95 = .ok (.return_, 1) := by decide +kernel
theorem d_Co_init_0 : decode b_Co_init 0 = .ok (.aload_n 0, 1) := by decide +kernel
theorem d_Co_init_1 : decode b_Co_init 1 = .ok (.invokespecial 3, 3) := by decide +kernel
theorem d_Co_init_4 : decode b_Co_init 4 = .ok (.aload_n 0, 1) := by decide +kernel
theorem d_Co_init_5 : decode b_Co_init 5 = .ok (.sipush 300, 3) := by decide +kernel
theorem d_Co_init_8 : decode b_Co_init 8 = .ok (.newarray .int, 2) := by decide +kernel
theorem d_Co_init_10 : decode b_Co_init 10 = .ok (.putfield 9, 3) := by decide +kernel
theorem d_Co_init_13 : decode b_Co_init 13 = .ok (.aload_n 0, 1) := by decide +kernel
theorem d_Co_init_14 : decode b_Co_init 14 = .ok (.sipush 300, 3) := by decide +kernel
theorem d_Co_init_17 : decode b_Co_init 17 = .ok (.newarray .int, 2) := by decide +kernel
theorem d_Co_init_19 : decode b_Co_init 19 = .ok (.putfield 15, 3) := by decide +kernel
theorem d_Co_init_22 : decode b_Co_init 22 = .ok (.aload_n 0, 1) := by decide +kernel
theorem d_Co_init_23 : decode b_Co_init 23 = .ok (.sipush 1024, 3) := by decide +kernel
theorem d_Co_init_26 : decode b_Co_init 26 = .ok (.newarray .int, 2) := by decide +kernel
theorem d_Co_init_28 : decode b_Co_init 28 = .ok (.putfield 18, 3) := by decide +kernel
theorem d_Co_init_31 : decode b_Co_init 31 = .ok (.aload_n 0, 1) := by decide +kernel
theorem d_Co_init_32 : decode b_Co_init 32 = .ok (.new 21, 3) := by decide +kernel
theorem d_Co_init_35 : decode b_Co_init 35 = .ok (.dup, 1) := by decide +kernel
theorem d_Co_init_36 : decode b_Co_init 36 = .ok (.iconst 0, 1) := by decide +kernel
theorem d_Co_init_37 : decode b_Co_init 37 = .ok (.iconst 0, 1) := by decide +kernel
theorem d_Co_init_38 : decode b_Co_init 38 = .ok (.iconst 0, 1) := by decide +kernel
theorem d_Co_init_39 : decode b_Co_init 39 = .ok (.invokespecial 23, 3) := by decide +kernel
theorem d_Co_init_42 : decode b_Co_init 42 = .ok (.putfield 26, 3) := by decide +kernel
theorem d_Co_init_45 : decode b_Co_init 45 = .ok (.aload_n 0, 1) := by decide +kernel
theorem d_Co_init_46 : decode b_Co_init 46 = .ok (.iconst 0, 1) := by decide +kernel
theorem d_Co_init_47 : decode b_Co_init 47 = .ok (.putfield 30, 3) := by decide +kernel
theorem d_Co_init_50 : decode b_Co_init 50 = .ok (.aload_n 0, 1) := by decide +kernel
theorem d_Co_init_51 : decode b_Co_init 51 = .ok (.iconst 0, 1) := by decide +kernel
theorem d_Co_init_52 : decode b_Co_init 52 = .ok (.putfield 34, 3) := by decide +kernel
theorem d_Co_init_55 : decode b_Co_init 55 = .ok (.return_, 1) := by decide +kernel
theorem d_Co_fill_0 : decode b_Co_fill 0 = .ok (.aload_n 0, 1) := by decide +kernel
theorem d_Co_fill_1 : decode b_Co_fill 1 = .ok (.getfield 26, 3) := by decide +kernel
theorem d_Co_fill_4 : decode b_Co_fill 4 = .ok (.getfield 37, 3) := by decide +kernel
theorem d_Co_fill_7 : decode b_Co_fill 7 = .ok (.aload_n 0, 1) := by decide +kernel
theorem d_Co_fill_8 : decode b_Co_fill 8 = .ok (.getfield 26, 3) := by decide +kernel
theorem d_Co_fill_11 : decode b_Co_fill 11 = .ok (.iload_n 3, 1) := by decide +kernel
theorem d_Co_fill_12 : decode b_Co_fill 12 = .ok (.invokevirtual 40, 3) := by decide +kernel
theorem d_Co_fill_15 : decode b_Co_fill 15 = .ok (.ior, 1) := by decide +kernel
theorem d_Co_fill_16 : decode b_Co_fill 16 = .ok (.istore 5, 2) := by decide +kernel
theorem d_Co_fill_18 : decode b_Co_fill 18 = .ok (.aload_n 0, 1) := by decide +kernel
theorem d_Co_fill_19 : decode b_Co_fill 19 = .ok (.getfield 26, 3) := by decide +kernel
theorem d_Co_fill_22 : decode b_Co_fill 22 = .ok (.getfield 44, 3) := by decide +kernel
theorem d_Co_fill_25 : decode b_Co_fill 25 = .ok (.aload_n 0, 1) := by decide +kernel
theorem d_Co_fill_26 : decode b_Co_fill 26 = .ok (.getfield 26, 3) := by decide +kernel
theorem d_Co_fill_29 : decode b_Co_fill 29 = .ok (.iload_n 3, 1) := by decide +kernel
theorem d_Co_fill_30 : decode b_Co_fill 30 = .ok (.aload 4, 2) := by decide +kernel
theorem d_Co_fill_32 : decode b_Co_fill 32 = .ok (.invokevirtual 47, 3) := by decide +kernel
theorem d_Co_fill_35 : decode b_Co_fill 35 = .ok (.ior, 1) := by decide +kernel
theorem d_Co_fill_36 : decode b_Co_fill 36 = .ok (.istore 6, 2) := by decide +kernel
theorem d_Co_fill_38 : decode b_Co_fill 38 = .ok (.aload_n 0, 1) := by decide +kernel
theorem d_Co_fill_39 : decode b_Co_fill 39 = .ok (.getfield 26, 3) := by decide +kernel
theorem d_Co_fill_42 : decode b_Co_fill 42 = .ok (.aload_n 0, 1) := by decide +kernel
theorem d_Co_fill_43 : decode b_Co_fill 43 = .ok (.getfield 30, 3) := by decide +kernel
theorem d_Co_fill_46 : decode b_Co_fill 46 = .ok (.invokevirtual 40, 3) := by decide +kernel
theorem d_Co_fill_49 : decode b_Co_fill 49 = .ok (.istore 7, 2) := by decide +kernel
theorem d_Co_fill_51 : decode b_Co_fill 51 = .ok (.aload_n 0, 1) := by decide +kernel
theorem d_Co_fill_52 : decode b_Co_fill 52 = .ok (.iconst 0, 1) := by decide +kernel
theorem d_Co_fill_53 : decode b_Co_fill 53 = .ok (.putfield 34, 3) := by decide +kernel
theorem d_Co_fill_56 : decode b_Co_fill 56 = .ok (.iconst 0, 1) := by decide +kernel
theorem d_Co_fill_57 : decode b_Co_fill 57 = .ok (.istore 8, 2) := by decide +kernel
theorem d_Co_fill_59 : decode b_Co_fill 59 = .ok (.iload 8, 2) := by decide +kernel
theorem d_Co_fill_61 : decode b_Co_fill 61 = .ok (.iload_n 2, 1) := by decide +kernel
theorem d_Co_fill_62 : decode b_Co_fill 62 = .ok (.if_icmp .ge 70, 3) := by decide +kernel
theorem d_Co_fill_65 : decode b_Co_fill 65 = .ok (.iload 8, 2) := by decide +kernel
theorem d_Co_fill_67 : decode b_Co_fill 67 = .ok (.aload_n 1, 1) := by decide +kernel
theorem d_Co_fill_68 : decode b_Co_fill 68 = .ok (.getfield 51, 3) := by decide +kernel
theorem d_Co_fill_71 : decode b_Co_fill 71 = .ok (.if_icmp .ge 61, 3) := by decide +kernel
theorem d_Co_fill_74 : decode b_Co_fill 74 = .ok (.aload_n 1, 1) := by decide +kernel
theorem d_Co_fill_75 : decode b_Co_fill 75 = .ok (.getfield 54, 3) := by decide +kernel
theorem d_Co_fill_78 : decode b_Co_fill 78 = .ok (.iload 8, 2) := by decide +kernel
theorem d_Co_fill_80 : decode b_Co_fill 80 = .ok (.iaload, 1) := by decide +kernel
theorem d_Co_fill_81 : decode b_Co_fill 81 = .ok (.istore 9, 2) := by decide +kernel
theorem d_Co_fill_83 : decode b_Co_fill 83 = .ok (.iload 9, 2) := by decide +kernel
theorem d_Co_fill_85 : decode b_Co_fill 85 = .ok (.iload 5, 2) := by decide +kernel
theorem d_Co_fill_87 : decode b_Co_fill 87 = .ok (.iand, 1) := by decide +kernel
theorem d_Co_fill_88 : decode b_Co_fill 88 = .ok (.iload 6, 2) := by decide +kernel
theorem d_Co_fill_90 : decode b_Co_fill 90 = .ok (.if_icmp .ne 36, 3) := by decide +kernel
theorem d_Co_fill_93 : decode b_Co_fill 93 = .ok (.aload_n 0, 1) := by decide +kernel
theorem d_Co_fill_94 : decode b_Co_fill 94 = .ok (.getfield 26, 3) := by decide +kernel
theorem d_Co_fill_97 : decode b_Co_fill 97 = .ok (.iload 9, 2) := by decide +kernel
theorem d_Co_fill_99 : decode b_Co_fill 99 = .ok (.invokevirtual 57, 3) := by decide +kernel
theorem d_Co_fill_102 : decode b_Co_fill 102 = .ok (.ifCond .eq 24, 3) := by decide +kernel
theorem d_Co_fill_105 : decode b_Co_fill 105 = .ok (.aload_n 0, 1) := by decide +kernel
theorem d_Co_fill_106 : decode b_Co_fill 106 = .ok (.iload 9, 2) := by decide +kernel
theorem d_Co_fill_108 : decode b_Co_fill 108 = .ok (.iload 7, 2) := by decide +kernel
theorem d_Co_fill_110 : decode b_Co_fill 110 = .ok (.iand, 1) := by decide +kernel
theorem d_Co_fill_111 : decode b_Co_fill 111 = .ok (.iload 9, 2) := by decide +kernel
theorem d_Co_fill_113 : decode b_Co_fill 113 = .ok (.iload 7, 2) := by decide +kernel
theorem d_Co_fill_115 : decode b_Co_fill 115 = .ok (.iand, 1) := by decide +kernel
theorem d_Co_fill_116 : decode b_Co_fill 116 = .ok (.iload 7, 2) := by decide +kernel
theorem d_Co_fill_118 : decode b_Co_fill 118 = .ok (.invokestatic 61, 3) := by decide +kernel
theorem d_Co_fill_121 : decode b_Co_fill 121 = .ok (.iload 7, 2) := by decide +kernel
theorem d_Co_fill_123 : decode b_Co_fill 123 = .ok (.invokevirtual 65, 3) := by decide +kernel
theorem d_Co_fill_126 : decode b_Co_fill 126 = .ok (.iinc 8 1, 3) := by decide +kernel
theorem d_Co_fill_129 : decode b_Co_fill 129 = .ok (.goto (-70), 3) := by decide +kernel
theorem d_Co_fill_132 : decode b_Co_fill 132 = .ok (.iconst 0, 1) := by decide +kernel
theorem d_Co_fill_133 : decode b_Co_fill 133 = .ok (.istore 8, 2) := by decide +kernel
theorem d_Co_fill_135 : decode b_Co_fill 135 = .ok (.iload 8, 2) := by decide +kernel
theorem d_Co_fill_137 : decode b_Co_fill 137 = .ok (.aload_n 0, 1) := by decide +kernel
theorem d_Co_fill_138 : decode b_Co_fill 138 = .ok (.getfield 34, 3) := by decide +kernel
theorem d_Co_fill_141 : decode b_Co_fill 141 = .ok (.if_icmp .ge 27, 3) := by decide +kernel
theorem d_Co_fill_144 : decode b_Co_fill 144 = .ok (.aload_n 0, 1) := by decide +kernel
theorem d_Co_fill_145 : decode b_Co_fill 145 = .ok (.getfield 18, 3) := by decide +kernel
theorem d_Co_fill_148 : decode b_Co_fill 148 = .ok (.aload_n 0, 1) := by decide +kernel
theorem d_Co_fill_149 : decode b_Co_fill 149 = .ok (.getfield 9, 3) := by decide +kernel
theorem d_Co_fill_152 : decode b_Co_fill 152 = .ok (.iload 8, 2) := by decide +kernel
theorem d_Co_fill_154 : decode b_Co_fill 154 = .ok (.iaload, 1) := by decide +kernel
theorem d_Co_fill_155 : decode b_Co_fill 155 = .ok (.iload 7, 2) := by decide +kernel
theorem d_Co_fill_157 : decode b_Co_fill 157 = .ok (.invokestatic 61, 3) := by decide +kernel
theorem d_Co_fill_160 : decode b_Co_fill 160 = .ok (.iconst 0, 1) := by decide +kernel
theorem d_Co_fill_161 : decode b_Co_fill 161 = .ok (.iastore, 1) := by decide +kernel
theorem d_Co_fill_162 : decode b_Co_fill 162 = .ok (.iinc 8 1, 3) := by decide +kernel
theorem d_Co_fill_165 : decode b_Co_fill 165 = .ok (.goto (-30), 3) := by decide +kernel
theorem d_Co_fill_168 : decode b_Co_fill 168 = .ok (.return_, 1) := by decide +kernel
theorem d_Co_take_0 : decode b_Co_take 0 = .ok (.iload_n 3, 1) := by decide +kernel
theorem d_Co_take_1 : decode b_Co_take 1 = .ok (.sipush 32767, 3) := by decide +kernel
theorem d_Co_take_4 : decode b_Co_take 4 = .ok (.if_icmp .ne 7, 3) := by decide +kernel
theorem d_Co_take_7 : decode b_Co_take 7 = .ok (.iconst 0, 1) := by decide +kernel
theorem d_Co_take_8 : decode b_Co_take 8 = .ok (.goto 9, 3) := by decide +kernel
theorem d_Co_take_11 : decode b_Co_take 11 = .ok (.aload_n 0, 1) := by decide +kernel
theorem d_Co_take_12 : decode b_Co_take 12 = .ok (.getfield 18, 3) := by decide +kernel
theorem d_Co_take_15 : decode b_Co_take 15 = .ok (.iload_n 2, 1) := by decide +kernel
theorem d_Co_take_16 : decode b_Co_take 16 = .ok (.iaload, 1) := by decide +kernel
theorem d_Co_take_17 : decode b_Co_take 17 = .ok (.istore 4, 2) := by decide +kernel
theorem d_Co_take_19 : decode b_Co_take 19 = .ok (.iload 4, 2) := by decide +kernel
theorem d_Co_take_21 : decode b_Co_take 21 = .ok (.ifCond .le 28, 3) := by decide +kernel
theorem d_Co_take_24 : decode b_Co_take 24 = .ok (.iload 4, 2) := by decide +kernel
theorem d_Co_take_26 : decode b_Co_take 26 = .ok (.aload_n 0, 1) := by decide +kernel
theorem d_Co_take_27 : decode b_Co_take 27 = .ok (.getfield 34, 3) := by decide +kernel
theorem d_Co_take_30 : decode b_Co_take 30 = .ok (.if_icmp .gt 19, 3) := by decide +kernel
theorem d_Co_take_33 : decode b_Co_take 33 = .ok (.aload_n 0, 1) := by decide +kernel
theorem d_Co_take_34 : decode b_Co_take 34 = .ok (.getfield 15, 3) := by decide +kernel
theorem d_Co_take_37 : decode b_Co_take 37 = .ok (.iload 4, 2) := by decide +kernel
theorem d_Co_take_39 : decode b_Co_take 39 = .ok (.iconst 1, 1) := by decide +kernel
theorem d_Co_take_40 : decode b_Co_take 40 = .ok (.isub, 1) := by decide +kernel
theorem d_Co_take_41 : decode b_Co_take 41 = .ok (.dup2, 1) := by decide +kernel
theorem d_Co_take_42 : decode b_Co_take 42 = .ok (.iaload, 1) := by decide +kernel
theorem d_Co_take_43 : decode b_Co_take 43 = .ok (.iconst 1, 1) := by decide +kernel
theorem d_Co_take_44 : decode b_Co_take 44 = .ok (.iadd, 1) := by decide +kernel
theorem d_Co_take_45 : decode b_Co_take 45 = .ok (.iastore, 1) := by decide +kernel
theorem d_Co_take_46 : decode b_Co_take 46 = .ok (.goto 53, 3) := by decide +kernel
theorem d_Co_take_49 : decode b_Co_take 49 = .ok (.aload_n 0, 1) := by decide +kernel
theorem d_Co_take_50 : decode b_Co_take 50 = .ok (.getfield 34, 3) := by decide +kernel
theorem d_Co_take_53 : decode b_Co_take 53 = .ok (.sipush 300, 3) := by decide +kernel
theorem d_Co_take_56 : decode b_Co_take 56 = .ok (.if_icmp .ge 43, 3) := by decide +kernel
theorem d_Co_take_59 : decode b_Co_take 59 = .ok (.aload_n 0, 1) := by decide +kernel
theorem d_Co_take_60 : decode b_Co_take 60 = .ok (.getfield 9, 3) := by decide +kernel
theorem d_Co_take_63 : decode b_Co_take 63 = .ok (.aload_n 0, 1) := by decide +kernel
theorem d_Co_take_64 : decode b_Co_take 64 = .ok (.getfield 34, 3) := by decide +kernel
theorem d_Co_take_67 : decode b_Co_take 67 = .ok (.iload_n 1, 1) := by decide +kernel
theorem d_Co_take_68 : decode b_Co_take 68 = .ok (.iastore, 1) := by decide +kernel
theorem d_Co_take_69 : decode b_Co_take 69 = .ok (.aload_n 0, 1) := by decide +kernel
theorem d_Co_take_70 : decode b_Co_take 70 = .ok (.getfield 15, 3) := by decide +kernel
theorem d_Co_take_73 : decode b_Co_take 73 = .ok (.aload_n 0, 1) := by decide +kernel
theorem d_Co_take_74 : decode b_Co_take 74 = .ok (.getfield 34, 3) := by decide +kernel
theorem d_Co_take_77 : decode b_Co_take 77 = .ok (.iconst 1, 1) := by decide +kernel
theorem d_Co_take_78 : decode b_Co_take 78 = .ok (.iastore, 1) := by decide +kernel
theorem d_Co_take_79 : decode b_Co_take 79 = .ok (.aload_n 0, 1) := by decide +kernel
theorem d_Co_take_80 : decode b_Co_take 80 = .ok (.dup, 1) := by decide +kernel
theorem d_Co_take_81 : decode b_Co_take 81 = .ok (.getfield 34, 3) := by decide +kernel
theorem d_Co_take_84 : decode b_Co_take 84 = .ok (.iconst 1, 1) := by decide +kernel
theorem d_Co_take_85 : decode b_Co_take 85 = .ok (.iadd, 1) := by decide +kernel
theorem d_Co_take_86 : decode b_Co_take 86 = .ok (.putfield 34, 3) := by decide +kernel
theorem d_Co_take_89 : decode b_Co_take 89 = .ok (.aload_n 0, 1) := by decide +kernel
theorem d_Co_take_90 : decode b_Co_take 90 = .ok (.getfield 18, 3) := by decide +kernel
theorem d_Co_take_93 : decode b_Co_take 93 = .ok (.iload_n 2, 1) := by decide +kernel
theorem d_Co_take_94 : decode b_Co_take 94 = .ok (.aload_n 0, 1) := by decide +kernel
theorem d_Co_take_95 : decode b_Co_take 95 = .ok (.getfield 34, 3) := by decide +kernel
theorem d_Co_take_98 : decode b_Co_take 98 = .ok (.iastore, 1) := by decide +kernel
theorem d_Co_take_99 : decode b_Co_take 99 = .ok (.return_, 1) := by decide +kernel
theorem d_Co_placeOf_0 : decode b_Co_placeOf 0 = .ok (.iload_n 1, 1) := by decide +kernel
theorem d_Co_placeOf_1 : decode b_Co_placeOf 1 = .ok (.bipush 10, 2) := by decide +kernel
theorem d_Co_placeOf_3 : decode b_Co_placeOf 3 = .ok (.ishr, 1) := by decide +kernel
theorem d_Co_placeOf_4 : decode b_Co_placeOf 4 = .ok (.ifCond .eq 7, 3) := by decide +kernel
theorem d_Co_placeOf_7 : decode b_Co_placeOf 7 = .ok (.iconst 1, 1) := by decide +kernel
theorem d_Co_placeOf_8 : decode b_Co_placeOf 8 = .ok (.goto 4, 3) := by decide +kernel
theorem d_Co_placeOf_11 : decode b_Co_placeOf 11 = .ok (.iconst 0, 1) := by decide +kernel
theorem d_Co_placeOf_12 : decode b_Co_placeOf 12 = .ok (.istore_n 2, 1) := by decide +kernel
theorem d_Co_placeOf_13 : decode b_Co_placeOf 13 = .ok (.iload_n 2, 1) := by decide +kernel
theorem d_Co_placeOf_14 : decode b_Co_placeOf 14 = .ok (.ifCond .eq 14, 3) := by decide +kernel
theorem d_Co_placeOf_17 : decode b_Co_placeOf 17 = .ok (.iload_n 0, 1) := by decide +kernel
theorem d_Co_placeOf_18 : decode b_Co_placeOf 18 = .ok (.iconst 5, 1) := by decide +kernel
theorem d_Co_placeOf_19 : decode b_Co_placeOf 19 = .ok (.ishr, 1) := by decide +kernel
theorem d_Co_placeOf_20 : decode b_Co_placeOf 20 = .ok (.iload_n 0, 1) := by decide +kernel
theorem d_Co_placeOf_21 : decode b_Co_placeOf 21 = .ok (.bipush 31, 2) := by decide +kernel
theorem d_Co_placeOf_23 : decode b_Co_placeOf 23 = .ok (.iand, 1) := by decide +kernel
theorem d_Co_placeOf_24 : decode b_Co_placeOf 24 = .ok (.ior, 1) := by decide +kernel
theorem d_Co_placeOf_25 : decode b_Co_placeOf 25 = .ok (.goto 4, 3) := by decide +kernel
theorem d_Co_placeOf_28 : decode b_Co_placeOf 28 = .ok (.iload_n 0, 1) := by decide +kernel
theorem d_Co_placeOf_29 : decode b_Co_placeOf 29 = .ok (.istore_n 3, 1) := by decide +kernel
theorem d_Co_placeOf_30 : decode b_Co_placeOf 30 = .ok (.iload_n 3, 1) := by decide +kernel
theorem d_Co_placeOf_31 : decode b_Co_placeOf 31 = .ok (.sipush 1023, 3) := by decide +kernel
theorem d_Co_placeOf_34 : decode b_Co_placeOf 34 = .ok (.iand, 1) := by decide +kernel
theorem d_Co_placeOf_35 : decode b_Co_placeOf 35 = .ok (.ireturn, 1) := by decide +kernel
end
section
theorem d_Sv_init_0 : decode b_Sv_init 0 = .ok (.aload_n 0, 1) := by decide +kernel
theorem d_Sv_init_1 : decode b_Sv_init 1 = .ok (.invokespecial 3, 3) := by decide +kernel
theorem d_Sv_init_4 : decode b_Sv_init 4 = .ok (.aload_n 0, 1) := by decide +kernel
theorem d_Sv_init_5 : decode b_Sv_init 5 = .ok (.new 9, 3) := by decide +kernel
theorem d_Sv_init_8 : decode b_Sv_init 8 = .ok (.dup, 1) := by decide +kernel
theorem d_Sv_init_9 : decode b_Sv_init 9 = .ok (.invokespecial 11, 3) := by decide +kernel
theorem d_Sv_init_12 : decode b_Sv_init 12 = .ok (.putfield 12, 3) := by decide +kernel
theorem d_Sv_init_15 : decode b_Sv_init 15 = .ok (.aload_n 0, 1) := by decide +kernel
theorem d_Sv_init_16 : decode b_Sv_init 16 = .ok (.bipush 8, 2) := by decide +kernel
theorem d_Sv_init_18 : decode b_Sv_init 18 = .ok (.newarray .int, 2) := by decide +kernel
theorem d_Sv_init_20 : decode b_Sv_init 20 = .ok (.putfield 18, 3) := by decide +kernel
theorem d_Sv_init_23 : decode b_Sv_init 23 = .ok (.aload_n 0, 1) := by decide +kernel
theorem d_Sv_init_24 : decode b_Sv_init 24 = .ok (.iconst 3, 1) := by decide +kernel
theorem d_Sv_init_25 : decode b_Sv_init 25 = .ok (.anewarray 22, 3) := by decide +kernel
theorem d_Sv_init_28 : decode b_Sv_init 28 = .ok (.putfield 24, 3) := by decide +kernel
theorem d_Sv_init_31 : decode b_Sv_init 31 = .ok (.aload_n 0, 1) := by decide +kernel
theorem d_Sv_init_32 : decode b_Sv_init 32 = .ok (.iconst 0, 1) := by decide +kernel
theorem d_Sv_init_33 : decode b_Sv_init 33 = .ok (.putfield 28, 3) := by decide +kernel
theorem d_Sv_init_36 : decode b_Sv_init 36 = .ok (.iconst 0, 1) := by decide +kernel
theorem d_Sv_init_37 : decode b_Sv_init 37 = .ok (.istore_n 1, 1) := by decide +kernel
theorem d_Sv_init_38 : decode b_Sv_init 38 = .ok (.iload_n 1, 1) := by decide +kernel
theorem d_Sv_init_39 : decode b_Sv_init 39 = .ok (.iconst 3, 1) := by decide +kernel
theorem d_Sv_init_40 : decode b_Sv_init 40 = .ok (.if_icmp .ge 22, 3) := by decide +kernel
theorem d_Sv_init_43 : decode b_Sv_init 43 = .ok (.aload_n 0, 1) := by decide +kernel
theorem d_Sv_init_44 : decode b_Sv_init 44 = .ok (.getfield 24, 3) := by decide +kernel
theorem d_Sv_init_47 : decode b_Sv_init 47 = .ok (.iload_n 1, 1) := by decide +kernel
theorem d_Sv_init_48 : decode b_Sv_init 48 = .ok (.new 22, 3) := by decide +kernel
theorem d_Sv_init_51 : decode b_Sv_init 51 = .ok (.dup, 1) := by decide +kernel
theorem d_Sv_init_52 : decode b_Sv_init 52 = .ok (.invokespecial 32, 3) := by decide +kernel
theorem d_Sv_init_55 : decode b_Sv_init 55 = .ok (.aastore, 1) := by decide +kernel
theorem d_Sv_init_56 : decode b_Sv_init 56 = .ok (.iinc 1 1, 3) := by decide +kernel
theorem d_Sv_init_59 : decode b_Sv_init 59 = .ok (.goto (-21), 3) := by decide +kernel
theorem d_Sv_init_62 : decode b_Sv_init 62 = .ok (.return_, 1) := by decide +kernel
theorem d_Sv_derive_0 : decode b_Sv_derive 0 = .ok (.aload_n 1, 1) := by decide +kernel
theorem d_Sv_derive_1 : decode b_Sv_derive 1 = .ok (.getfield 33, 3) := by decide +kernel
theorem d_Sv_derive_4 : decode b_Sv_derive 4 = .ok (.iload_n 2, 1) := by decide +kernel
theorem d_Sv_derive_5 : decode b_Sv_derive 5 = .ok (.aaload, 1) := by decide +kernel
theorem d_Sv_derive_6 : decode b_Sv_derive 6 = .ok (.astore 4, 2) := by decide +kernel
theorem d_Sv_derive_8 : decode b_Sv_derive 8 = .ok (.aload_n 0, 1) := by decide +kernel
theorem d_Sv_derive_9 : decode b_Sv_derive 9 = .ok (.getfield 12, 3) := by decide +kernel
theorem d_Sv_derive_12 : decode b_Sv_derive 12 = .ok (.getfield 39, 3) := by decide +kernel
theorem d_Sv_derive_15 : decode b_Sv_derive 15 = .ok (.iload_n 3, 1) := by decide +kernel
theorem d_Sv_derive_16 : decode b_Sv_derive 16 = .ok (.iaload, 1) := by decide +kernel
theorem d_Sv_derive_17 : decode b_Sv_derive 17 = .ok (.istore 5, 2) := by decide +kernel
theorem d_Sv_derive_19 : decode b_Sv_derive 19 = .ok (.aload 4, 2) := by decide +kernel
theorem d_Sv_derive_21 : decode b_Sv_derive 21 = .ok (.iload 5, 2) := by decide +kernel
theorem d_Sv_derive_23 : decode b_Sv_derive 23 = .ok (.invokevirtual 42, 3) := by decide +kernel
theorem d_Sv_derive_26 : decode b_Sv_derive 26 = .ok (.ifCond .ne 5, 3) := by decide +kernel
theorem d_Sv_derive_29 : decode b_Sv_derive 29 = .ok (.iconst 1, 1) := by decide +kernel
theorem d_Sv_derive_30 : decode b_Sv_derive 30 = .ok (.ireturn, 1) := by decide +kernel
theorem d_Sv_derive_31 : decode b_Sv_derive 31 = .ok (.aload_n 1, 1) := by decide +kernel
theorem d_Sv_derive_32 : decode b_Sv_derive 32 = .ok (.getfield 48, 3) := by decide +kernel
theorem d_Sv_derive_35 : decode b_Sv_derive 35 = .ok (.iload_n 2, 1) := by decide +kernel
theorem d_Sv_derive_36 : decode b_Sv_derive 36 = .ok (.iaload, 1) := by decide +kernel
theorem d_Sv_derive_37 : decode b_Sv_derive 37 = .ok (.istore 6, 2) := by decide +kernel
theorem d_Sv_derive_39 : decode b_Sv_derive 39 = .ok (.aload 4, 2) := by decide +kernel
theorem d_Sv_derive_41 : decode b_Sv_derive 41 = .ok (.iload 5, 2) := by decide +kernel
theorem d_Sv_derive_43 : decode b_Sv_derive 43 = .ok (.iload 6, 2) := by decide +kernel
theorem d_Sv_derive_45 : decode b_Sv_derive 45 = .ok (.aload_n 0, 1) := by decide +kernel
theorem d_Sv_derive_46 : decode b_Sv_derive 46 = .ok (.getfield 18, 3) := by decide +kernel
theorem d_Sv_derive_49 : decode b_Sv_derive 49 = .ok (.invokevirtual 51, 3) := by decide +kernel
theorem d_Sv_derive_52 : decode b_Sv_derive 52 = .ok (.aload_n 0, 1) := by decide +kernel
theorem d_Sv_derive_53 : decode b_Sv_derive 53 = .ok (.aload 4, 2) := by decide +kernel
theorem d_Sv_derive_55 : decode b_Sv_derive 55 = .ok (.iload 6, 2) := by decide +kernel
theorem d_Sv_derive_57 : decode b_Sv_derive 57 = .ok (.iload_n 3, 1) := by decide +kernel
theorem d_Sv_derive_58 : decode b_Sv_derive 58 = .ok (.invokevirtual 55, 3) := by decide +kernel
theorem d_Sv_derive_61 : decode b_Sv_derive 61 = .ok (.ifCond .eq 5, 3) := by decide +kernel
theorem d_Sv_derive_64 : decode b_Sv_derive 64 = .ok (.iconst 1, 1) := by decide +kernel
theorem d_Sv_derive_65 : decode b_Sv_derive 65 = .ok (.ireturn, 1) := by decide +kernel
theorem d_Sv_derive_66 : decode b_Sv_derive 66 = .ok (.aload_n 0, 1) := by decide +kernel
theorem d_Sv_derive_67 : decode b_Sv_derive 67 = .ok (.aload_n 1, 1) := by decide +kernel
theorem d_Sv_derive_68 : decode b_Sv_derive 68 = .ok (.iload_n 2, 1) := by decide +kernel
theorem d_Sv_derive_69 : decode b_Sv_derive 69 = .ok (.iload 6, 2) := by decide +kernel
theorem d_Sv_derive_71 : decode b_Sv_derive 71 = .ok (.iload_n 3, 1) := by decide +kernel
theorem d_Sv_derive_72 : decode b_Sv_derive 72 = .ok (.iconst 1, 1) := by decide +kernel
theorem d_Sv_derive_73 : decode b_Sv_derive 73 = .ok (.iadd, 1) := by decide +kernel
theorem d_Sv_derive_74 : decode b_Sv_derive 74 = .ok (.invokevirtual 59, 3) := by decide +kernel
theorem d_Sv_derive_77 : decode b_Sv_derive 77 = .ok (.ifCond .ne 5, 3) := by decide +kernel
theorem d_Sv_derive_80 : decode b_Sv_derive 80 = .ok (.iconst 1, 1) := by decide +kernel
theorem d_Sv_derive_81 : decode b_Sv_derive 81 = .ok (.ireturn, 1) := by decide +kernel
theorem d_Sv_derive_82 : decode b_Sv_derive 82 = .ok (.aload_n 0, 1) := by decide +kernel
theorem d_Sv_derive_83 : decode b_Sv_derive 83 = .ok (.aload_n 1, 1) := by decide +kernel
theorem d_Sv_derive_84 : decode b_Sv_derive 84 = .ok (.iconst 0, 1) := by decide +kernel
theorem d_Sv_derive_85 : decode b_Sv_derive 85 = .ok (.iload 6, 2) := by decide +kernel
theorem d_Sv_derive_87 : decode b_Sv_derive 87 = .ok (.invokestatic 63, 3) := by decide +kernel
theorem d_Sv_derive_90 : decode b_Sv_derive 90 = .ok (.ireturn, 1) := by decide +kernel
theorem d_Sv_casesGiving_0 : decode b_Sv_casesGiving 0 = .ok (.aload_n 1, 1) := by decide +kernel
theorem d_Sv_casesGiving_1 : decode b_Sv_casesGiving 1 = .ok (.getfield 67, 3) := by decide +kernel
theorem d_Sv_casesGiving_4 : decode b_Sv_casesGiving 4 = .ok (.iload_n 2, 1) := by decide +kernel
theorem d_Sv_casesGiving_5 : decode b_Sv_casesGiving 5 = .ok (.invokevirtual 42, 3) := by decide +kernel
theorem d_Sv_casesGiving_8 : decode b_Sv_casesGiving 8 = .ok (.ifCond .ne 5, 3) := by decide +kernel
theorem d_Sv_casesGiving_11 : decode b_Sv_casesGiving 11 = .ok (.iconst 0, 1) := by decide +kernel
theorem d_Sv_casesGiving_12 : decode b_Sv_casesGiving 12 = .ok (.ireturn, 1) := by decide +kernel
theorem d_Sv_casesGiving_13 : decode b_Sv_casesGiving 13 = .ok (.aload_n 1, 1) := by decide +kernel
theorem d_Sv_casesGiving_14 : decode b_Sv_casesGiving 14 = .ok (.getfield 67, 3) := by decide +kernel
theorem d_Sv_casesGiving_17 : decode b_Sv_casesGiving 17 = .ok (.getfield 71, 3) := by decide +kernel
theorem d_Sv_casesGiving_20 : decode b_Sv_casesGiving 20 = .ok (.istore_n 3, 1) := by decide +kernel
theorem d_Sv_casesGiving_21 : decode b_Sv_casesGiving 21 = .ok (.aload_n 1, 1) := by decide +kernel
theorem d_Sv_casesGiving_22 : decode b_Sv_casesGiving 22 = .ok (.getfield 67, 3) := by decide +kernel
theorem d_Sv_casesGiving_25 : decode b_Sv_casesGiving 25 = .ok (.iload_n 2, 1) := by decide +kernel
theorem d_Sv_casesGiving_26 : decode b_Sv_casesGiving 26 = .ok (.iload_n 3, 1) := by decide +kernel
theorem d_Sv_casesGiving_27 : decode b_Sv_casesGiving 27 = .ok (.aload_n 0, 1) := by decide +kernel
theorem d_Sv_casesGiving_28 : decode b_Sv_casesGiving 28 = .ok (.getfield 18, 3) := by decide +kernel
theorem d_Sv_casesGiving_31 : decode b_Sv_casesGiving 31 = .ok (.invokevirtual 51, 3) := by decide +kernel
theorem d_Sv_casesGiving_34 : decode b_Sv_casesGiving 34 = .ok (.aload_n 0, 1) := by decide +kernel
theorem d_Sv_casesGiving_35 : decode b_Sv_casesGiving 35 = .ok (.aload_n 1, 1) := by decide +kernel
theorem d_Sv_casesGiving_36 : decode b_Sv_casesGiving 36 = .ok (.iconst (-1), 1) := by decide +kernel
theorem d_Sv_casesGiving_37 : decode b_Sv_casesGiving 37 = .ok (.iload_n 3, 1) := by decide +kernel
theorem d_Sv_casesGiving_38 : decode b_Sv_casesGiving 38 = .ok (.aload_n 0, 1) := by decide +kernel
theorem d_Sv_casesGiving_39 : decode b_Sv_casesGiving 39 = .ok (.getfield 12, 3) := by decide +kernel
theorem d_Sv_casesGiving_42 : decode b_Sv_casesGiving 42 = .ok (.getfield 74, 3) := by decide +kernel
theorem d_Sv_casesGiving_45 : decode b_Sv_casesGiving 45 = .ok (.invokevirtual 59, 3) := by decide +kernel
theorem d_Sv_casesGiving_48 : decode b_Sv_casesGiving 48 = .ok (.ifCond .ne 5, 3) := by decide +kernel
theorem d_Sv_casesGiving_51 : decode b_Sv_casesGiving 51 = .ok (.iconst 0, 1) := by decide +kernel
theorem d_Sv_casesGiving_52 : decode b_Sv_casesGiving 52 = .ok (.ireturn, 1) := by decide +kernel
theorem d_Sv_casesGiving_53 : decode b_Sv_casesGiving 53 = .ok (.aload_n 0, 1) := by decide +kernel
theorem d_Sv_casesGiving_54 : decode b_Sv_casesGiving 54 = .ok (.iconst 0, 1) := by decide +kernel
theorem d_Sv_casesGiving_55 : decode b_Sv_casesGiving 55 = .ok (.iload_n 3, 1) := by decide +kernel
theorem d_Sv_casesGiving_56 : decode b_Sv_casesGiving 56 = .ok (.invokestatic 77, 3) := by decide +kernel
theorem d_Sv_casesGiving_59 : decode b_Sv_casesGiving 59 = .ok (.ireturn, 1) := by decide +kernel
theorem d_Sv_isMatchedBefore_0 : decode b_Sv_isMatchedBefore 0 = .ok (.aload_n 1, 1) := by decide +kernel
theorem d_Sv_isMatchedBefore_1 : decode b_Sv_isMatchedBefore 1 = .ok (.getfield 81, 3) := by decide +kernel
theorem d_Sv_isMatchedBefore_4 : decode b_Sv_isMatchedBefore 4 = .ok (.aload_n 1, 1) := by decide +kernel
theorem d_Sv_isMatchedBefore_5 : decode b_Sv_isMatchedBefore 5 = .ok (.iload_n 2, 1) := by decide +kernel
theorem d_Sv_isMatchedBefore_6 : decode b_Sv_isMatchedBefore 6 = .ok (.invokevirtual 84, 3) := by decide +kernel
theorem d_Sv_isMatchedBefore_9 : decode b_Sv_isMatchedBefore 9 = .ok (.ior, 1) := by decide +kernel
theorem d_Sv_isMatchedBefore_10 : decode b_Sv_isMatchedBefore 10 = .ok (.istore 4, 2) := by decide +kernel
theorem d_Sv_isMatchedBefore_12 : decode b_Sv_isMatchedBefore 12 = .ok (.aload_n 1, 1) := by decide +kernel
theorem d_Sv_isMatchedBefore_13 : decode b_Sv_isMatchedBefore 13 = .ok (.getfield 88, 3) := by decide +kernel
theorem d_Sv_isMatchedBefore_16 : decode b_Sv_isMatchedBefore 16 = .ok (.aload_n 1, 1) := by decide +kernel
theorem d_Sv_isMatchedBefore_17 : decode b_Sv_isMatchedBefore 17 = .ok (.iload_n 2, 1) := by decide +kernel
theorem d_Sv_isMatchedBefore_18 : decode b_Sv_isMatchedBefore 18 = .ok (.aload_n 0, 1) := by decide +kernel
theorem d_Sv_isMatchedBefore_19 : decode b_Sv_isMatchedBefore 19 = .ok (.getfield 18, 3) := by decide +kernel
theorem d_Sv_isMatchedBefore_22 : decode b_Sv_isMatchedBefore 22 = .ok (.invokevirtual 91, 3) := by decide +kernel
theorem d_Sv_isMatchedBefore_25 : decode b_Sv_isMatchedBefore 25 = .ok (.ior, 1) := by decide +kernel
theorem d_Sv_isMatchedBefore_26 : decode b_Sv_isMatchedBefore 26 = .ok (.istore 5, 2) := by decide +kernel
theorem d_Sv_isMatchedBefore_28 : decode b_Sv_isMatchedBefore 28 = .ok (.iconst 0, 1) := by decide +kernel
theorem d_Sv_isMatchedBefore_29 : decode b_Sv_isMatchedBefore 29 = .ok (.istore 6, 2) := by decide +kernel
theorem d_Sv_isMatchedBefore_31 : decode b_Sv_isMatchedBefore 31 = .ok (.iload 6, 2) := by decide +kernel
theorem d_Sv_isMatchedBefore_33 : decode b_Sv_isMatchedBefore 33 = .ok (.iload_n 3, 1) := by decide +kernel
theorem d_Sv_isMatchedBefore_34 : decode b_Sv_isMatchedBefore 34 = .ok (.if_icmp .ge 42, 3) := by decide +kernel
theorem d_Sv_isMatchedBefore_37 : decode b_Sv_isMatchedBefore 37 = .ok (.aload_n 0, 1) := by decide +kernel
theorem d_Sv_isMatchedBefore_38 : decode b_Sv_isMatchedBefore 38 = .ok (.getfield 12, 3) := by decide +kernel
theorem d_Sv_isMatchedBefore_41 : decode b_Sv_isMatchedBefore 41 = .ok (.getfield 39, 3) := by decide +kernel
theorem d_Sv_isMatchedBefore_44 : decode b_Sv_isMatchedBefore 44 = .ok (.iload 6, 2) := by decide +kernel
theorem d_Sv_isMatchedBefore_46 : decode b_Sv_isMatchedBefore 46 = .ok (.iaload, 1) := by decide +kernel
theorem d_Sv_isMatchedBefore_47 : decode b_Sv_isMatchedBefore 47 = .ok (.istore 7, 2) := by decide +kernel
theorem d_Sv_isMatchedBefore_49 : decode b_Sv_isMatchedBefore 49 = .ok (.iload 7, 2) := by decide +kernel
theorem d_Sv_isMatchedBefore_51 : decode b_Sv_isMatchedBefore 51 = .ok (.iload 4, 2) := by decide +kernel
theorem d_Sv_isMatchedBefore_53 : decode b_Sv_isMatchedBefore 53 = .ok (.iand, 1) := by decide +kernel
theorem d_Sv_isMatchedBefore_54 : decode b_Sv_isMatchedBefore 54 = .ok (.iload 5, 2) := by decide +kernel
theorem d_Sv_isMatchedBefore_56 : decode b_Sv_isMatchedBefore 56 = .ok (.if_icmp .ne 14, 3) := by decide +kernel
theorem d_Sv_isMatchedBefore_59 : decode b_Sv_isMatchedBefore 59 = .ok (.aload_n 1, 1) := by decide +kernel
theorem d_Sv_isMatchedBefore_60 : decode b_Sv_isMatchedBefore 60 = .ok (.iload 7, 2) := by decide +kernel
theorem d_Sv_isMatchedBefore_62 : decode b_Sv_isMatchedBefore 62 = .ok (.invokevirtual 95, 3) := by decide +kernel
theorem d_Sv_isMatchedBefore_65 : decode b_Sv_isMatchedBefore 65 = .ok (.ifCond .eq 5, 3) := by decide +kernel
theorem d_Sv_isMatchedBefore_68 : decode b_Sv_isMatchedBefore 68 = .ok (.iconst 1, 1) := by decide +kernel
theorem d_Sv_isMatchedBefore_69 : decode b_Sv_isMatchedBefore 69 = .ok (.ireturn, 1) := by decide +kernel
theorem d_Sv_isMatchedBefore_70 : decode b_Sv_isMatchedBefore 70 = .ok (.iinc 6 1, 3) := by decide +kernel
theorem d_Sv_isMatchedBefore_73 : decode b_Sv_isMatchedBefore 73 = .ok (.goto (-42), 3) := by decide +kernel
theorem d_Sv_isMatchedBefore_76 : decode b_Sv_isMatchedBefore 76 = .ok (.iconst 0, 1) := by decide +kernel
theorem d_Sv_isMatchedBefore_77 : decode b_Sv_isMatchedBefore 77 = .ok (.ireturn, 1) := by decide +kernel
theorem d_Sv_fillColumns_0 : decode b_Sv_fillColumns 0 = .ok (.aload_n 0, 1) := by decide +kernel
theorem d_Sv_fillColumns_1 : decode b_Sv_fillColumns 1 = .ok (.iconst 0, 1) := by decide +kernel
theorem d_Sv_fillColumns_2 : decode b_Sv_fillColumns 2 = .ok (.putfield 28, 3) := by decide +kernel
theorem d_Sv_fillColumns_5 : decode b_Sv_fillColumns 5 = .ok (.iconst 0, 1) := by decide +kernel
theorem d_Sv_fillColumns_6 : decode b_Sv_fillColumns 6 = .ok (.istore 5, 2) := by decide +kernel
theorem d_Sv_fillColumns_8 : decode b_Sv_fillColumns 8 = .ok (.iload 5, 2) := by decide +kernel
theorem d_Sv_fillColumns_10 : decode b_Sv_fillColumns 10 = .ok (.aload_n 1, 1) := by decide +kernel
theorem d_Sv_fillColumns_11 : decode b_Sv_fillColumns 11 = .ok (.getfield 33, 3) := by decide +kernel
theorem d_Sv_fillColumns_14 : decode b_Sv_fillColumns 14 = .ok (.arraylength, 1) := by decide +kernel
theorem d_Sv_fillColumns_15 : decode b_Sv_fillColumns 15 = .ok (.if_icmp .ge 101, 3) := by decide +kernel
theorem d_Sv_fillColumns_18 : decode b_Sv_fillColumns 18 = .ok (.aload_n 0, 1) := by decide +kernel
theorem d_Sv_fillColumns_19 : decode b_Sv_fillColumns 19 = .ok (.getfield 28, 3) := by decide +kernel
theorem d_Sv_fillColumns_22 : decode b_Sv_fillColumns 22 = .ok (.iconst 3, 1) := by decide +kernel
theorem d_Sv_fillColumns_23 : decode b_Sv_fillColumns 23 = .ok (.if_icmp .ge 93, 3) := by decide +kernel
theorem d_Sv_fillColumns_26 : decode b_Sv_fillColumns 26 = .ok (.iload 5, 2) := by decide +kernel
theorem d_Sv_fillColumns_28 : decode b_Sv_fillColumns 28 = .ok (.iload_n 2, 1) := by decide +kernel
theorem d_Sv_fillColumns_29 : decode b_Sv_fillColumns 29 = .ok (.if_icmp .ne 6, 3) := by decide +kernel
theorem d_Sv_fillColumns_32 : decode b_Sv_fillColumns 32 = .ok (.goto 78, 3) := by decide +kernel
theorem d_Sv_fillColumns_35 : decode b_Sv_fillColumns 35 = .ok (.aload_n 0, 1) := by decide +kernel
theorem d_Sv_fillColumns_36 : decode b_Sv_fillColumns 36 = .ok (.getfield 24, 3) := by decide +kernel
theorem d_Sv_fillColumns_39 : decode b_Sv_fillColumns 39 = .ok (.aload_n 0, 1) := by decide +kernel
theorem d_Sv_fillColumns_40 : decode b_Sv_fillColumns 40 = .ok (.getfield 28, 3) := by decide +kernel
theorem d_Sv_fillColumns_43 : decode b_Sv_fillColumns 43 = .ok (.aaload, 1) := by decide +kernel
theorem d_Sv_fillColumns_44 : decode b_Sv_fillColumns 44 = .ok (.astore 6, 2) := by decide +kernel
theorem d_Sv_fillColumns_46 : decode b_Sv_fillColumns 46 = .ok (.aload 6, 2) := by decide +kernel
theorem d_Sv_fillColumns_48 : decode b_Sv_fillColumns 48 = .ok (.aload_n 1, 1) := by decide +kernel
theorem d_Sv_fillColumns_49 : decode b_Sv_fillColumns 49 = .ok (.getfield 33, 3) := by decide +kernel
theorem d_Sv_fillColumns_52 : decode b_Sv_fillColumns 52 = .ok (.iload 5, 2) := by decide +kernel
theorem d_Sv_fillColumns_54 : decode b_Sv_fillColumns 54 = .ok (.aaload, 1) := by decide +kernel
theorem d_Sv_fillColumns_55 : decode b_Sv_fillColumns 55 = .ok (.putfield 98, 3) := by decide +kernel
theorem d_Sv_fillColumns_58 : decode b_Sv_fillColumns 58 = .ok (.aload 6, 2) := by decide +kernel
theorem d_Sv_fillColumns_60 : decode b_Sv_fillColumns 60 = .ok (.aload_n 1, 1) := by decide +kernel
theorem d_Sv_fillColumns_61 : decode b_Sv_fillColumns 61 = .ok (.getfield 48, 3) := by decide +kernel
theorem d_Sv_fillColumns_64 : decode b_Sv_fillColumns 64 = .ok (.iload 5, 2) := by decide +kernel
theorem d_Sv_fillColumns_66 : decode b_Sv_fillColumns 66 = .ok (.iaload, 1) := by decide +kernel
theorem d_Sv_fillColumns_67 : decode b_Sv_fillColumns 67 = .ok (.iload_n 3, 1) := by decide +kernel
theorem d_Sv_fillColumns_68 : decode b_Sv_fillColumns 68 = .ok (.iconst (-1), 1) := by decide +kernel
theorem d_Sv_fillColumns_69 : decode b_Sv_fillColumns 69 = .ok (.ixor, 1) := by decide +kernel
theorem d_Sv_fillColumns_70 : decode b_Sv_fillColumns 70 = .ok (.iand, 1) := by decide +kernel
theorem d_Sv_fillColumns_71 : decode b_Sv_fillColumns 71 = .ok (.putfield 101, 3) := by decide +kernel
theorem d_Sv_fillColumns_74 : decode b_Sv_fillColumns 74 = .ok (.aload 6, 2) := by decide +kernel
theorem d_Sv_fillColumns_76 : decode b_Sv_fillColumns 76 = .ok (.aload_n 0, 1) := by decide +kernel
theorem d_Sv_fillColumns_77 : decode b_Sv_fillColumns 77 = .ok (.getfield 12, 3) := by decide +kernel
theorem d_Sv_fillColumns_80 : decode b_Sv_fillColumns 80 = .ok (.iload 4, 2) := by decide +kernel
theorem d_Sv_fillColumns_82 : decode b_Sv_fillColumns 82 = .ok (.iload_n 3, 1) := by decide +kernel
theorem d_Sv_fillColumns_83 : decode b_Sv_fillColumns 83 = .ok (.aload_n 0, 1) := by decide +kernel
theorem d_Sv_fillColumns_84 : decode b_Sv_fillColumns 84 = .ok (.getfield 18, 3) := by decide +kernel
theorem d_Sv_fillColumns_87 : decode b_Sv_fillColumns 87 = .ok (.invokevirtual 104, 3) := by decide +kernel
theorem d_Sv_fillColumns_90 : decode b_Sv_fillColumns 90 = .ok (.aload 6, 2) := by decide +kernel
theorem d_Sv_fillColumns_92 : decode b_Sv_fillColumns 92 = .ok (.getfield 108, 3) := by decide +kernel
theorem d_Sv_fillColumns_95 : decode b_Sv_fillColumns 95 = .ok (.ifCond .ne 5, 3) := by decide +kernel
theorem d_Sv_fillColumns_98 : decode b_Sv_fillColumns 98 = .ok (.iconst 0, 1) := by decide +kernel
theorem d_Sv_fillColumns_99 : decode b_Sv_fillColumns 99 = .ok (.ireturn, 1) := by decide +kernel
theorem d_Sv_fillColumns_100 : decode b_Sv_fillColumns 100 = .ok (.aload_n 0, 1) := by decide +kernel
theorem d_Sv_fillColumns_101 : decode b_Sv_fillColumns 101 = .ok (.dup, 1) := by decide +kernel
theorem d_Sv_fillColumns_102 : decode b_Sv_fillColumns 102 = .ok (.getfield 28, 3) := by decide +kernel
theorem d_Sv_fillColumns_105 : decode b_Sv_fillColumns 105 = .ok (.iconst 1, 1) := by decide +kernel
theorem d_Sv_fillColumns_106 : decode b_Sv_fillColumns 106 = .ok (.iadd, 1) := by decide +kernel
theorem d_Sv_fillColumns_107 : decode b_Sv_fillColumns 107 = .ok (.putfield 28, 3) := by decide +kernel
theorem d_Sv_fillColumns_110 : decode b_Sv_fillColumns 110 = .ok (.iinc 5 1, 3) := by decide +kernel
theorem d_Sv_fillColumns_113 : decode b_Sv_fillColumns 113 = .ok (.goto (-105), 3) := by decide +kernel
theorem d_Sv_fillColumns_116 : decode b_Sv_fillColumns 116 = .ok (.iconst 1, 1) := by decide +kernel
theorem d_Sv_fillColumns_117 : decode b_Sv_fillColumns 117 = .ok (.ireturn, 1) := by decide +kernel
theorem d_Sv_addJoined_0 : decode b_Sv_addJoined 0 = .ok (.aload_n 1, 1) := by decide +kernel
theorem d_Sv_addJoined_1 : decode b_Sv_addJoined 1 = .ok (.getfield 67, 3) := by decide +kernel
theorem d_Sv_addJoined_4 : decode b_Sv_addJoined 4 = .ok (.getfield 71, 3) := by decide +kernel
theorem d_Sv_addJoined_7 : decode b_Sv_addJoined 7 = .ok (.iload_n 3, 1) := by decide +kernel
theorem d_Sv_addJoined_8 : decode b_Sv_addJoined 8 = .ok (.iconst (-1), 1) := by decide +kernel
theorem d_Sv_addJoined_9 : decode b_Sv_addJoined 9 = .ok (.ixor, 1) := by decide +kernel
theorem d_Sv_addJoined_10 : decode b_Sv_addJoined 10 = .ok (.iand, 1) := by decide +kernel
theorem d_Sv_addJoined_11 : decode b_Sv_addJoined 11 = .ok (.ifCond .ne 7, 3) := by decide +kernel
theorem d_Sv_addJoined_14 : decode b_Sv_addJoined 14 = .ok (.iconst 1, 1) := by decide +kernel
theorem d_Sv_addJoined_15 : decode b_Sv_addJoined 15 = .ok (.goto 4, 3) := by decide +kernel
theorem d_Sv_addJoined_18 : decode b_Sv_addJoined 18 = .ok (.iconst 0, 1) := by decide +kernel
theorem d_Sv_addJoined_19 : decode b_Sv_addJoined 19 = .ok (.istore 4, 2) := by decide +kernel
theorem d_Sv_addJoined_21 : decode b_Sv_addJoined 21 = .ok (.aload_n 1, 1) := by decide +kernel
theorem d_Sv_addJoined_22 : decode b_Sv_addJoined 22 = .ok (.getfield 67, 3) := by decide +kernel
theorem d_Sv_addJoined_25 : decode b_Sv_addJoined 25 = .ok (.getfield 88, 3) := by decide +kernel
theorem d_Sv_addJoined_28 : decode b_Sv_addJoined 28 = .ok (.aload_n 1, 1) := by decide +kernel
theorem d_Sv_addJoined_29 : decode b_Sv_addJoined 29 = .ok (.getfield 67, 3) := by decide +kernel
theorem d_Sv_addJoined_32 : decode b_Sv_addJoined 32 = .ok (.iload_n 3, 1) := by decide +kernel
theorem d_Sv_addJoined_33 : decode b_Sv_addJoined 33 = .ok (.aload_n 0, 1) := by decide +kernel
theorem d_Sv_addJoined_34 : decode b_Sv_addJoined 34 = .ok (.getfield 18, 3) := by decide +kernel
theorem d_Sv_addJoined_37 : decode b_Sv_addJoined 37 = .ok (.invokevirtual 91, 3) := by decide +kernel
theorem d_Sv_addJoined_40 : decode b_Sv_addJoined 40 = .ok (.ior, 1) := by decide +kernel
theorem d_Sv_addJoined_41 : decode b_Sv_addJoined 41 = .ok (.istore 5, 2) := by decide +kernel
theorem d_Sv_addJoined_43 : decode b_Sv_addJoined 43 = .ok (.iload 4, 2) := by decide +kernel
theorem d_Sv_addJoined_45 : decode b_Sv_addJoined 45 = .ok (.ifCond .eq 17, 3) := by decide +kernel
theorem d_Sv_addJoined_48 : decode b_Sv_addJoined 48 = .ok (.aload_n 0, 1) := by decide +kernel
theorem d_Sv_addJoined_49 : decode b_Sv_addJoined 49 = .ok (.getfield 12, 3) := by decide +kernel
theorem d_Sv_addJoined_52 : decode b_Sv_addJoined 52 = .ok (.iload 5, 2) := by decide +kernel
theorem d_Sv_addJoined_54 : decode b_Sv_addJoined 54 = .ok (.invokevirtual 109, 3) := by decide +kernel
theorem d_Sv_addJoined_57 : decode b_Sv_addJoined 57 = .ok (.ifCond .eq 5, 3) := by decide +kernel
theorem d_Sv_addJoined_60 : decode b_Sv_addJoined 60 = .ok (.iconst 1, 1) := by decide +kernel
theorem d_Sv_addJoined_61 : decode b_Sv_addJoined 61 = .ok (.ireturn, 1) := by decide +kernel
theorem d_Sv_addJoined_62 : decode b_Sv_addJoined 62 = .ok (.iload_n 2, 1) := by decide +kernel
theorem d_Sv_addJoined_63 : decode b_Sv_addJoined 63 = .ok (.aload_n 0, 1) := by decide +kernel
theorem d_Sv_addJoined_64 : decode b_Sv_addJoined 64 = .ok (.getfield 28, 3) := by decide +kernel
theorem d_Sv_addJoined_67 : decode b_Sv_addJoined 67 = .ok (.if_icmp .lt 13, 3) := by decide +kernel
theorem d_Sv_addJoined_70 : decode b_Sv_addJoined 70 = .ok (.aload_n 0, 1) := by decide +kernel
theorem d_Sv_addJoined_71 : decode b_Sv_addJoined 71 = .ok (.getfield 12, 3) := by decide +kernel
theorem d_Sv_addJoined_74 : decode b_Sv_addJoined 74 = .ok (.iload 5, 2) := by decide +kernel
theorem d_Sv_addJoined_76 : decode b_Sv_addJoined 76 = .ok (.invokevirtual 112, 3) := by decide +kernel
theorem d_Sv_addJoined_79 : decode b_Sv_addJoined 79 = .ok (.ireturn, 1) := by decide +kernel
theorem d_Sv_addJoined_80 : decode b_Sv_addJoined 80 = .ok (.aload_n 0, 1) := by decide +kernel
theorem d_Sv_addJoined_81 : decode b_Sv_addJoined 81 = .ok (.getfield 24, 3) := by decide +kernel
theorem d_Sv_addJoined_84 : decode b_Sv_addJoined 84 = .ok (.iload_n 2, 1) := by decide +kernel
theorem d_Sv_addJoined_85 : decode b_Sv_addJoined 85 = .ok (.aaload, 1) := by decide +kernel
theorem d_Sv_addJoined_86 : decode b_Sv_addJoined 86 = .ok (.astore 6, 2) := by decide +kernel
theorem d_Sv_addJoined_88 : decode b_Sv_addJoined 88 = .ok (.aload 6, 2) := by decide +kernel
theorem d_Sv_addJoined_90 : decode b_Sv_addJoined 90 = .ok (.getfield 98, 3) := by decide +kernel
theorem d_Sv_addJoined_93 : decode b_Sv_addJoined 93 = .ok (.aload 6, 2) := by decide +kernel
theorem d_Sv_addJoined_95 : decode b_Sv_addJoined 95 = .ok (.getfield 101, 3) := by decide +kernel
theorem d_Sv_addJoined_98 : decode b_Sv_addJoined 98 = .ok (.iload_n 3, 1) := by decide +kernel
theorem d_Sv_addJoined_99 : decode b_Sv_addJoined 99 = .ok (.iand, 1) := by decide +kernel
theorem d_Sv_addJoined_100 : decode b_Sv_addJoined 100 = .ok (.invokevirtual 84, 3) := by decide +kernel
theorem d_Sv_addJoined_103 : decode b_Sv_addJoined 103 = .ok (.istore 7, 2) := by decide +kernel
theorem d_Sv_addJoined_105 : decode b_Sv_addJoined 105 = .ok (.aload 6, 2) := by decide +kernel
theorem d_Sv_addJoined_107 : decode b_Sv_addJoined 107 = .ok (.getfield 98, 3) := by decide +kernel
theorem d_Sv_addJoined_110 : decode b_Sv_addJoined 110 = .ok (.aload 6, 2) := by decide +kernel
theorem d_Sv_addJoined_112 : decode b_Sv_addJoined 112 = .ok (.getfield 101, 3) := by decide +kernel
theorem d_Sv_addJoined_115 : decode b_Sv_addJoined 115 = .ok (.iload_n 3, 1) := by decide +kernel
theorem d_Sv_addJoined_116 : decode b_Sv_addJoined 116 = .ok (.iand, 1) := by decide +kernel
theorem d_Sv_addJoined_117 : decode b_Sv_addJoined 117 = .ok (.aload_n 0, 1) := by decide +kernel
theorem d_Sv_addJoined_118 : decode b_Sv_addJoined 118 = .ok (.getfield 18, 3) := by decide +kernel
theorem d_Sv_addJoined_121 : decode b_Sv_addJoined 121 = .ok (.invokevirtual 91, 3) := by decide +kernel
theorem d_Sv_addJoined_124 : decode b_Sv_addJoined 124 = .ok (.istore 8, 2) := by decide +kernel
theorem d_Sv_addJoined_126 : decode b_Sv_addJoined 126 = .ok (.iconst 0, 1) := by decide +kernel
theorem d_Sv_addJoined_127 : decode b_Sv_addJoined 127 = .ok (.istore 9, 2) := by decide +kernel
theorem d_Sv_addJoined_129 : decode b_Sv_addJoined 129 = .ok (.iload 9, 2) := by decide +kernel
theorem d_Sv_addJoined_131 : decode b_Sv_addJoined 131 = .ok (.aload 6, 2) := by decide +kernel
theorem d_Sv_addJoined_133 : decode b_Sv_addJoined 133 = .ok (.getfield 108, 3) := by decide +kernel
theorem d_Sv_addJoined_136 : decode b_Sv_addJoined 136 = .ok (.if_icmp .ge 96, 3) := by decide +kernel
theorem d_Sv_addJoined_139 : decode b_Sv_addJoined 139 = .ok (.aload 6, 2) := by decide +kernel
theorem d_Sv_addJoined_141 : decode b_Sv_addJoined 141 = .ok (.getfield 115, 3) := by decide +kernel
theorem d_Sv_addJoined_144 : decode b_Sv_addJoined 144 = .ok (.iload 9, 2) := by decide +kernel
theorem d_Sv_addJoined_146 : decode b_Sv_addJoined 146 = .ok (.iaload, 1) := by decide +kernel
theorem d_Sv_addJoined_147 : decode b_Sv_addJoined 147 = .ok (.iload 7, 2) := by decide +kernel
theorem d_Sv_addJoined_149 : decode b_Sv_addJoined 149 = .ok (.iand, 1) := by decide +kernel
theorem d_Sv_addJoined_150 : decode b_Sv_addJoined 150 = .ok (.iload 8, 2) := by decide +kernel
theorem d_Sv_addJoined_152 : decode b_Sv_addJoined 152 = .ok (.if_icmp .eq 6, 3) := by decide +kernel
theorem d_Sv_addJoined_155 : decode b_Sv_addJoined 155 = .ok (.goto 71, 3) := by decide +kernel
theorem d_Sv_addJoined_158 : decode b_Sv_addJoined 158 = .ok (.aload 6, 2) := by decide +kernel
theorem d_Sv_addJoined_160 : decode b_Sv_addJoined 160 = .ok (.getfield 98, 3) := by decide +kernel
theorem d_Sv_addJoined_163 : decode b_Sv_addJoined 163 = .ok (.aload 6, 2) := by decide +kernel
theorem d_Sv_addJoined_165 : decode b_Sv_addJoined 165 = .ok (.getfield 115, 3) := by decide +kernel
theorem d_Sv_addJoined_168 : decode b_Sv_addJoined 168 = .ok (.iload 9, 2) := by decide +kernel
theorem d_Sv_addJoined_170 : decode b_Sv_addJoined 170 = .ok (.iaload, 1) := by decide +kernel
theorem d_Sv_addJoined_171 : decode b_Sv_addJoined 171 = .ok (.aload 6, 2) := by decide +kernel
theorem d_Sv_addJoined_173 : decode b_Sv_addJoined 173 = .ok (.getfield 101, 3) := by decide +kernel
theorem d_Sv_addJoined_176 : decode b_Sv_addJoined 176 = .ok (.iload_n 3, 1) := by decide +kernel
theorem d_Sv_addJoined_177 : decode b_Sv_addJoined 177 = .ok (.iconst (-1), 1) := by decide +kernel
theorem d_Sv_addJoined_178 : decode b_Sv_addJoined 178 = .ok (.ixor, 1) := by decide +kernel
theorem d_Sv_addJoined_179 : decode b_Sv_addJoined 179 = .ok (.iand, 1) := by decide +kernel
theorem d_Sv_addJoined_180 : decode b_Sv_addJoined 180 = .ok (.aload_n 0, 1) := by decide +kernel
theorem d_Sv_addJoined_181 : decode b_Sv_addJoined 181 = .ok (.getfield 18, 3) := by decide +kernel
theorem d_Sv_addJoined_184 : decode b_Sv_addJoined 184 = .ok (.invokevirtual 51, 3) := by decide +kernel
theorem d_Sv_addJoined_187 : decode b_Sv_addJoined 187 = .ok (.aload_n 0, 1) := by decide +kernel
theorem d_Sv_addJoined_188 : decode b_Sv_addJoined 188 = .ok (.aload_n 1, 1) := by decide +kernel
theorem d_Sv_addJoined_189 : decode b_Sv_addJoined 189 = .ok (.iload_n 2, 1) := by decide +kernel
theorem d_Sv_addJoined_190 : decode b_Sv_addJoined 190 = .ok (.iconst 1, 1) := by decide +kernel
theorem d_Sv_addJoined_191 : decode b_Sv_addJoined 191 = .ok (.iadd, 1) := by decide +kernel
theorem d_Sv_addJoined_192 : decode b_Sv_addJoined 192 = .ok (.iload_n 3, 1) := by decide +kernel
theorem d_Sv_addJoined_193 : decode b_Sv_addJoined 193 = .ok (.aload 6, 2) := by decide +kernel
theorem d_Sv_addJoined_195 : decode b_Sv_addJoined 195 = .ok (.getfield 101, 3) := by decide +kernel
theorem d_Sv_addJoined_198 : decode b_Sv_addJoined 198 = .ok (.ior, 1) := by decide +kernel
theorem d_Sv_addJoined_199 : decode b_Sv_addJoined 199 = .ok (.invokestatic 63, 3) := by decide +kernel
theorem d_Sv_addJoined_202 : decode b_Sv_addJoined 202 = .ok (.ifCond .ne 5, 3) := by decide +kernel
theorem d_Sv_addJoined_205 : decode b_Sv_addJoined 205 = .ok (.iconst 0, 1) := by decide +kernel
theorem d_Sv_addJoined_206 : decode b_Sv_addJoined 206 = .ok (.ireturn, 1) := by decide +kernel
theorem d_Sv_addJoined_207 : decode b_Sv_addJoined 207 = .ok (.iload 4, 2) := by decide +kernel
theorem d_Sv_addJoined_209 : decode b_Sv_addJoined 209 = .ok (.ifCond .eq 17, 3) := by decide +kernel
theorem d_Sv_addJoined_212 : decode b_Sv_addJoined 212 = .ok (.aload_n 0, 1) := by decide +kernel
theorem d_Sv_addJoined_213 : decode b_Sv_addJoined 213 = .ok (.getfield 12, 3) := by decide +kernel
theorem d_Sv_addJoined_216 : decode b_Sv_addJoined 216 = .ok (.iload 5, 2) := by decide +kernel
theorem d_Sv_addJoined_218 : decode b_Sv_addJoined 218 = .ok (.invokevirtual 109, 3) := by decide +kernel
theorem d_Sv_addJoined_221 : decode b_Sv_addJoined 221 = .ok (.ifCond .eq 5, 3) := by decide +kernel
theorem d_Sv_addJoined_224 : decode b_Sv_addJoined 224 = .ok (.iconst 1, 1) := by decide +kernel
theorem d_Sv_addJoined_225 : decode b_Sv_addJoined 225 = .ok (.ireturn, 1) := by decide +kernel
theorem d_Sv_addJoined_226 : decode b_Sv_addJoined 226 = .ok (.iinc 9 1, 3) := by decide +kernel
theorem d_Sv_addJoined_229 : decode b_Sv_addJoined 229 = .ok (.goto (-100), 3) := by decide +kernel
theorem d_Sv_addJoined_232 : decode b_Sv_addJoined 232 = .ok (.iconst 1, 1) := by decide +kernel
theorem d_Sv_addJoined_233 : decode b_Sv_addJoined 233 = .ok (.ireturn, 1) := by decide +kernel
theorem d_Sv_countJoined_0 : decode b_Sv_countJoined 0 = .ok (.iload_n 1, 1) := by decide +kernel
theorem d_Sv_countJoined_1 : decode b_Sv_countJoined 1 = .ok (.aload_n 0, 1) := by decide +kernel
theorem d_Sv_countJoined_2 : decode b_Sv_countJoined 2 = .ok (.getfield 28, 3) := by decide +kernel
theorem d_Sv_countJoined_5 : decode b_Sv_countJoined 5 = .ok (.if_icmp .lt 5, 3) := by decide +kernel
theorem d_Sv_countJoined_8 : decode b_Sv_countJoined 8 = .ok (.iconst 1, 1) := by decide +kernel
theorem d_Sv_countJoined_9 : decode b_Sv_countJoined 9 = .ok (.ireturn, 1) := by decide +kernel
theorem d_Sv_countJoined_10 : decode b_Sv_countJoined 10 = .ok (.aload_n 0, 1) := by decide +kernel
theorem d_Sv_countJoined_11 : decode b_Sv_countJoined 11 = .ok (.getfield 24, 3) := by decide +kernel
theorem d_Sv_countJoined_14 : decode b_Sv_countJoined 14 = .ok (.iload_n 1, 1) := by decide +kernel
theorem d_Sv_countJoined_15 : decode b_Sv_countJoined 15 = .ok (.aaload, 1) := by decide +kernel
theorem d_Sv_countJoined_16 : decode b_Sv_countJoined 16 = .ok (.astore_n 3, 1) := by decide +kernel
theorem d_Sv_countJoined_17 : decode b_Sv_countJoined 17 = .ok (.aload_n 3, 1) := by decide +kernel
theorem d_Sv_countJoined_18 : decode b_Sv_countJoined 18 = .ok (.getfield 98, 3) := by decide +kernel
theorem d_Sv_countJoined_21 : decode b_Sv_countJoined 21 = .ok (.aload_n 3, 1) := by decide +kernel
theorem d_Sv_countJoined_22 : decode b_Sv_countJoined 22 = .ok (.getfield 101, 3) := by decide +kernel
theorem d_Sv_countJoined_25 : decode b_Sv_countJoined 25 = .ok (.iload_n 2, 1) := by decide +kernel
theorem d_Sv_countJoined_26 : decode b_Sv_countJoined 26 = .ok (.iand, 1) := by decide +kernel
theorem d_Sv_countJoined_27 : decode b_Sv_countJoined 27 = .ok (.invokevirtual 84, 3) := by decide +kernel
theorem d_Sv_countJoined_30 : decode b_Sv_countJoined 30 = .ok (.istore 4, 2) := by decide +kernel
theorem d_Sv_countJoined_32 : decode b_Sv_countJoined 32 = .ok (.aload_n 3, 1) := by decide +kernel
theorem d_Sv_countJoined_33 : decode b_Sv_countJoined 33 = .ok (.getfield 98, 3) := by decide +kernel
theorem d_Sv_countJoined_36 : decode b_Sv_countJoined 36 = .ok (.aload_n 3, 1) := by decide +kernel
theorem d_Sv_countJoined_37 : decode b_Sv_countJoined 37 = .ok (.getfield 101, 3) := by decide +kernel
theorem d_Sv_countJoined_40 : decode b_Sv_countJoined 40 = .ok (.iload_n 2, 1) := by decide +kernel
theorem d_Sv_countJoined_41 : decode b_Sv_countJoined 41 = .ok (.iand, 1) := by decide +kernel
theorem d_Sv_countJoined_42 : decode b_Sv_countJoined 42 = .ok (.aload_n 0, 1) := by decide +kernel
theorem d_Sv_countJoined_43 : decode b_Sv_countJoined 43 = .ok (.getfield 18, 3) := by decide +kernel
theorem d_Sv_countJoined_46 : decode b_Sv_countJoined 46 = .ok (.invokevirtual 91, 3) := by decide +kernel
theorem d_Sv_countJoined_49 : decode b_Sv_countJoined 49 = .ok (.istore 5, 2) := by decide +kernel
theorem d_Sv_countJoined_51 : decode b_Sv_countJoined 51 = .ok (.iconst 0, 1) := by decide +kernel
theorem d_Sv_countJoined_52 : decode b_Sv_countJoined 52 = .ok (.istore 6, 2) := by decide +kernel
theorem d_Sv_countJoined_54 : decode b_Sv_countJoined 54 = .ok (.iconst 0, 1) := by decide +kernel
theorem d_Sv_countJoined_55 : decode b_Sv_countJoined 55 = .ok (.istore 7, 2) := by decide +kernel
theorem d_Sv_countJoined_57 : decode b_Sv_countJoined 57 = .ok (.iload 7, 2) := by decide +kernel
theorem d_Sv_countJoined_59 : decode b_Sv_countJoined 59 = .ok (.aload_n 3, 1) := by decide +kernel
theorem d_Sv_countJoined_60 : decode b_Sv_countJoined 60 = .ok (.getfield 108, 3) := by decide +kernel
theorem d_Sv_countJoined_63 : decode b_Sv_countJoined 63 = .ok (.if_icmp .ge 76, 3) := by decide +kernel
theorem d_Sv_countJoined_66 : decode b_Sv_countJoined 66 = .ok (.aload_n 3, 1) := by decide +kernel
theorem d_Sv_countJoined_67 : decode b_Sv_countJoined 67 = .ok (.getfield 115, 3) := by decide +kernel
theorem d_Sv_countJoined_70 : decode b_Sv_countJoined 70 = .ok (.iload 7, 2) := by decide +kernel
theorem d_Sv_countJoined_72 : decode b_Sv_countJoined 72 = .ok (.iaload, 1) := by decide +kernel
theorem d_Sv_countJoined_73 : decode b_Sv_countJoined 73 = .ok (.iload 4, 2) := by decide +kernel
theorem d_Sv_countJoined_75 : decode b_Sv_countJoined 75 = .ok (.iand, 1) := by decide +kernel
theorem d_Sv_countJoined_76 : decode b_Sv_countJoined 76 = .ok (.iload 5, 2) := by decide +kernel
theorem d_Sv_countJoined_78 : decode b_Sv_countJoined 78 = .ok (.if_icmp .ne 55, 3) := by decide +kernel
theorem d_Sv_countJoined_81 : decode b_Sv_countJoined 81 = .ok (.aload_n 3, 1) := by decide +kernel
theorem d_Sv_countJoined_82 : decode b_Sv_countJoined 82 = .ok (.getfield 98, 3) := by decide +kernel
theorem d_Sv_countJoined_85 : decode b_Sv_countJoined 85 = .ok (.aload_n 3, 1) := by decide +kernel
theorem d_Sv_countJoined_86 : decode b_Sv_countJoined 86 = .ok (.getfield 115, 3) := by decide +kernel
theorem d_Sv_countJoined_89 : decode b_Sv_countJoined 89 = .ok (.iload 7, 2) := by decide +kernel
theorem d_Sv_countJoined_91 : decode b_Sv_countJoined 91 = .ok (.iaload, 1) := by decide +kernel
theorem d_Sv_countJoined_92 : decode b_Sv_countJoined 92 = .ok (.aload_n 3, 1) := by decide +kernel
theorem d_Sv_countJoined_93 : decode b_Sv_countJoined 93 = .ok (.getfield 101, 3) := by decide +kernel
theorem d_Sv_countJoined_96 : decode b_Sv_countJoined 96 = .ok (.iload_n 2, 1) := by decide +kernel
theorem d_Sv_countJoined_97 : decode b_Sv_countJoined 97 = .ok (.iconst (-1), 1) := by decide +kernel
theorem d_Sv_countJoined_98 : decode b_Sv_countJoined 98 = .ok (.ixor, 1) := by decide +kernel
theorem d_Sv_countJoined_99 : decode b_Sv_countJoined 99 = .ok (.iand, 1) := by decide +kernel
theorem d_Sv_countJoined_100 : decode b_Sv_countJoined 100 = .ok (.aload_n 0, 1) := by decide +kernel
theorem d_Sv_countJoined_101 : decode b_Sv_countJoined 101 = .ok (.getfield 18, 3) := by decide +kernel
theorem d_Sv_countJoined_104 : decode b_Sv_countJoined 104 = .ok (.invokevirtual 51, 3) := by decide +kernel
theorem d_Sv_countJoined_107 : decode b_Sv_countJoined 107 = .ok (.iload 6, 2) := by decide +kernel
theorem d_Sv_countJoined_109 : decode b_Sv_countJoined 109 = .ok (.aload_n 3, 1) := by decide +kernel
theorem d_Sv_countJoined_110 : decode b_Sv_countJoined 110 = .ok (.getfield 118, 3) := by decide +kernel
theorem d_Sv_countJoined_113 : decode b_Sv_countJoined 113 = .ok (.iload 7, 2) := by decide +kernel
theorem d_Sv_countJoined_115 : decode b_Sv_countJoined 115 = .ok (.iaload, 1) := by decide +kernel
theorem d_Sv_countJoined_116 : decode b_Sv_countJoined 116 = .ok (.aload_n 0, 1) := by decide +kernel
theorem d_Sv_countJoined_117 : decode b_Sv_countJoined 117 = .ok (.iload_n 1, 1) := by decide +kernel
theorem d_Sv_countJoined_118 : decode b_Sv_countJoined 118 = .ok (.iconst 1, 1) := by decide +kernel
theorem d_Sv_countJoined_119 : decode b_Sv_countJoined 119 = .ok (.iadd, 1) := by decide +kernel
theorem d_Sv_countJoined_120 : decode b_Sv_countJoined 120 = .ok (.iload_n 2, 1) := by decide +kernel
theorem d_Sv_countJoined_121 : decode b_Sv_countJoined 121 = .ok (.aload_n 3, 1) := by decide +kernel
theorem d_Sv_countJoined_122 : decode b_Sv_countJoined 122 = .ok (.getfield 101, 3) := by decide +kernel
theorem d_Sv_countJoined_125 : decode b_Sv_countJoined 125 = .ok (.ior, 1) := by decide +kernel
theorem d_Sv_countJoined_126 : decode b_Sv_countJoined 126 = .ok (.invokestatic 77, 3) := by decide +kernel
theorem d_Sv_countJoined_129 : decode b_Sv_countJoined 129 = .ok (.imul, 1) := by decide +kernel
theorem d_Sv_countJoined_130 : decode b_Sv_countJoined 130 = .ok (.iadd, 1) := by decide +kernel
theorem d_Sv_countJoined_131 : decode b_Sv_countJoined 131 = .ok (.istore 6, 2) := by decide +kernel
theorem d_Sv_countJoined_133 : decode b_Sv_countJoined 133 = .ok (.iinc 7 1, 3) := by decide +kernel
theorem d_Sv_countJoined_136 : decode b_Sv_countJoined 136 = .ok (.goto (-79), 3) := by decide +kernel
theorem d_Sv_countJoined_139 : decode b_Sv_countJoined 139 = .ok (.iload 6, 2) := by decide +kernel
theorem d_Sv_countJoined_141 : decode b_Sv_countJoined 141 = .ok (.ireturn, 1) := by decide +kernel
theorem d_Kp_init_0 : decode b_Kp_init 0 = .ok (.aload_n 0, 1) := by decide +kernel
theorem d_Kp_init_1 : decode b_Kp_init 1 = .ok (.invokespecial 3, 3) := by decide +kernel
theorem d_Kp_init_4 : decode b_Kp_init 4 = .ok (.aload_n 0, 1) := by decide +kernel
theorem d_Kp_init_5 : decode b_Kp_init 5 = .ok (.new 9, 3) := by decide +kernel
theorem d_Kp_init_8 : decode b_Kp_init 8 = .ok (.dup, 1) := by decide +kernel
theorem d_Kp_init_9 : decode b_Kp_init 9 = .ok (.invokespecial 11, 3) := by decide +kernel
theorem d_Kp_init_12 : decode b_Kp_init 12 = .ok (.putfield 12, 3) := by decide +kernel
theorem d_Kp_init_15 : decode b_Kp_init 15 = .ok (.aload_n 0, 1) := by decide +kernel
theorem d_Kp_init_16 : decode b_Kp_init 16 = .ok (.aload_n 0, 1) := by decide +kernel
theorem d_Kp_init_17 : decode b_Kp_init 17 = .ok (.getfield 12, 3) := by decide +kernel
theorem d_Kp_init_20 : decode b_Kp_init 20 = .ok (.getfield 16, 3) := by decide +kernel
theorem d_Kp_init_23 : decode b_Kp_init 23 = .ok (.putfield 20, 3) := by decide +kernel
theorem d_Kp_init_26 : decode b_Kp_init 26 = .ok (.aload_n 0, 1) := by decide +kernel
theorem d_Kp_init_27 : decode b_Kp_init 27 = .ok (.new 21, 3) := by decide +kernel
theorem d_Kp_init_30 : decode b_Kp_init 30 = .ok (.dup, 1) := by decide +kernel
theorem d_Kp_init_31 : decode b_Kp_init 31 = .ok (.invokespecial 23, 3) := by decide +kernel
theorem d_Kp_init_34 : decode b_Kp_init 34 = .ok (.putfield 24, 3) := by decide +kernel
theorem d_Kp_init_37 : decode b_Kp_init 37 = .ok (.aload_n 0, 1) := by decide +kernel
theorem d_Kp_init_38 : decode b_Kp_init 38 = .ok (.iconst 4, 1) := by decide +kernel
theorem d_Kp_init_39 : decode b_Kp_init 39 = .ok (.anewarray 28, 3) := by decide +kernel
theorem d_Kp_init_42 : decode b_Kp_init 42 = .ok (.putfield 30, 3) := by decide +kernel
theorem d_Kp_init_45 : decode b_Kp_init 45 = .ok (.aload_n 0, 1) := by decide +kernel
theorem d_Kp_init_46 : decode b_Kp_init 46 = .ok (.bipush 12, 2) := by decide +kernel
theorem d_Kp_init_48 : decode b_Kp_init 48 = .ok (.anewarray 34, 3) := by decide +kernel
theorem d_Kp_init_51 : decode b_Kp_init 51 = .ok (.putfield 36, 3) := by decide +kernel
theorem d_Kp_init_54 : decode b_Kp_init 54 = .ok (.aload_n 0, 1) := by decide +kernel
theorem d_Kp_init_55 : decode b_Kp_init 55 = .ok (.iconst 0, 1) := by decide +kernel
theorem d_Kp_init_56 : decode b_Kp_init 56 = .ok (.putfield 40, 3) := by decide +kernel
theorem d_Kp_init_59 : decode b_Kp_init 59 = .ok (.aload_n 0, 1) := by decide +kernel
theorem d_Kp_init_60 : decode b_Kp_init 60 = .ok (.iconst 0, 1) := by decide +kernel
theorem d_Kp_init_61 : decode b_Kp_init 61 = .ok (.putfield 44, 3) := by decide +kernel
theorem d_Kp_init_64 : decode b_Kp_init 64 = .ok (.new 28, 3) := by decide +kernel
theorem d_Kp_init_67 : decode b_Kp_init 67 = .ok (.dup, 1) := by decide +kernel
theorem d_Kp_init_68 : decode b_Kp_init 68 = .ok (.iconst 0, 1) := by decide +kernel
theorem d_Kp_init_69 : decode b_Kp_init 69 = .ok (.iconst 0, 1) := by decide +kernel
theorem d_Kp_init_70 : decode b_Kp_init 70 = .ok (.iconst 0, 1) := by decide +kernel
theorem d_Kp_init_71 : decode b_Kp_init 71 = .ok (.invokespecial 47, 3) := by decide +kernel
theorem d_Kp_init_74 : decode b_Kp_init 74 = .ok (.astore_n 1, 1) := by decide +kernel
theorem d_Kp_init_75 : decode b_Kp_init 75 = .ok (.iconst 0, 1) := by decide +kernel
theorem d_Kp_init_76 : decode b_Kp_init 76 = .ok (.istore_n 2, 1) := by decide +kernel
theorem d_Kp_init_77 : decode b_Kp_init 77 = .ok (.iload_n 2, 1) := by decide +kernel
theorem d_Kp_init_78 : decode b_Kp_init 78 = .ok (.iconst 4, 1) := by decide +kernel
theorem d_Kp_init_79 : decode b_Kp_init 79 = .ok (.if_icmp .ge 16, 3) := by decide +kernel
theorem d_Kp_init_82 : decode b_Kp_init 82 = .ok (.aload_n 0, 1) := by decide +kernel
theorem d_Kp_init_83 : decode b_Kp_init 83 = .ok (.getfield 30, 3) := by decide +kernel
theorem d_Kp_init_86 : decode b_Kp_init 86 = .ok (.iload_n 2, 1) := by decide +kernel
theorem d_Kp_init_87 : decode b_Kp_init 87 = .ok (.aload_n 1, 1) := by decide +kernel
theorem d_Kp_init_88 : decode b_Kp_init 88 = .ok (.aastore, 1) := by decide +kernel
theorem d_Kp_init_89 : decode b_Kp_init 89 = .ok (.iinc 2 1, 3) := by decide +kernel
theorem d_Kp_init_92 : decode b_Kp_init 92 = .ok (.goto (-15), 3) := by decide +kernel
theorem d_Kp_init_95 : decode b_Kp_init 95 = .ok (.new 34, 3) := by decide +kernel
theorem d_Kp_init_98 : decode b_Kp_init 98 = .ok (.dup, 1) := by decide +kernel
theorem d_Kp_init_99 : decode b_Kp_init 99 = .ok (.iconst 1, 1) := by decide +kernel
theorem d_Kp_init_100 : decode b_Kp_init 100 = .ok (.anewarray 28, 3) := by decide +kernel
theorem d_Kp_init_103 : decode b_Kp_init 103 = .ok (.dup, 1) := by decide +kernel
theorem d_Kp_init_104 : decode b_Kp_init 104 = .ok (.iconst 0, 1) := by decide +kernel
theorem d_Kp_init_105 : decode b_Kp_init 105 = .ok (.aload_n 1, 1) := by decide +kernel
theorem d_Kp_init_106 : decode b_Kp_init 106 = .ok (.aastore, 1) := by decide +kernel
theorem d_Kp_init_107 : decode b_Kp_init 107 = .ok (.aload_n 1, 1) := by decide +kernel
theorem d_Kp_init_108 : decode b_Kp_init 108 = .ok (.invokespecial 50, 3) := by decide +kernel
theorem d_Kp_init_111 : decode b_Kp_init 111 = .ok (.astore_n 2, 1) := by decide +kernel
theorem d_Kp_init_112 : decode b_Kp_init 112 = .ok (.iconst 0, 1) := by decide +kernel
theorem d_Kp_init_113 : decode b_Kp_init 113 = .ok (.istore_n 3, 1) := by decide +kernel
theorem d_Kp_init_114 : decode b_Kp_init 114 = .ok (.iload_n 3, 1) := by decide +kernel
theorem d_Kp_init_115 : decode b_Kp_init 115 = .ok (.bipush 12, 2) := by decide +kernel
theorem d_Kp_init_117 : decode b_Kp_init 117 = .ok (.if_icmp .ge 16, 3) := by decide +kernel
theorem d_Kp_init_120 : decode b_Kp_init 120 = .ok (.aload_n 0, 1) := by decide +kernel
theorem d_Kp_init_121 : decode b_Kp_init 121 = .ok (.getfield 36, 3) := by decide +kernel
theorem d_Kp_init_124 : decode b_Kp_init 124 = .ok (.iload_n 3, 1) := by decide +kernel
theorem d_Kp_init_125 : decode b_Kp_init 125 = .ok (.aload_n 2, 1) := by decide +kernel
theorem d_Kp_init_126 : decode b_Kp_init 126 = .ok (.aastore, 1) := by decide +kernel
theorem d_Kp_init_127 : decode b_Kp_init 127 = .ok (.iinc 3 1, 3) := by decide +kernel
theorem d_Kp_init_130 : decode b_Kp_init 130 = .ok (.goto (-16), 3) := by decide +kernel
theorem d_Kp_init_133 : decode b_Kp_init 133 = .ok (.return_, 1) := by decide +kernel
theorem d_Kp_say_0 : decode b_Kp_say 0 = .ok (.iload_n 1, 1) := by decide +kernel
theorem d_Kp_say_1 : decode b_Kp_say 1 = .ok (.iload_n 2, 1) := by decide +kernel
theorem d_Kp_say_2 : decode b_Kp_say 2 = .ok (.iload_n 3, 1) := by decide +kernel
theorem d_Kp_say_3 : decode b_Kp_say 3 = .ok (.invokestatic 53, 3) := by decide +kernel
theorem d_Kp_say_6 : decode b_Kp_say 6 = .ok (.ifCond .ne 5, 3) := by decide +kernel
theorem d_Kp_say_9 : decode b_Kp_say 9 = .ok (.iconst (-1), 1) := by decide +kernel
theorem d_Kp_say_10 : decode b_Kp_say 10 = .ok (.ireturn, 1) := by decide +kernel
theorem d_Kp_say_11 : decode b_Kp_say 11 = .ok (.iload_n 1, 1) := by decide +kernel
theorem d_Kp_say_12 : decode b_Kp_say 12 = .ok (.iload_n 2, 1) := by decide +kernel
theorem d_Kp_say_13 : decode b_Kp_say 13 = .ok (.iload_n 3, 1) := by decide +kernel
theorem d_Kp_say_14 : decode b_Kp_say 14 = .ok (.invokestatic 57, 3) := by decide +kernel
theorem d_Kp_say_17 : decode b_Kp_say 17 = .ok (.istore 4, 2) := by decide +kernel
theorem d_Kp_say_19 : decode b_Kp_say 19 = .ok (.aload_n 0, 1) := by decide +kernel
theorem d_Kp_say_20 : decode b_Kp_say 20 = .ok (.getfield 24, 3) := by decide +kernel
theorem d_Kp_say_23 : decode b_Kp_say 23 = .ok (.iload 4, 2) := by decide +kernel
theorem d_Kp_say_25 : decode b_Kp_say 25 = .ok (.invokevirtual 61, 3) := by decide +kernel
theorem d_Kp_say_28 : decode b_Kp_say 28 = .ok (.ifCond .eq 5, 3) := by decide +kernel
theorem d_Kp_say_31 : decode b_Kp_say 31 = .ok (.iconst 0, 1) := by decide +kernel
theorem d_Kp_say_32 : decode b_Kp_say 32 = .ok (.ireturn, 1) := by decide +kernel
theorem d_Kp_say_33 : decode b_Kp_say 33 = .ok (.aload_n 0, 1) := by decide +kernel
theorem d_Kp_say_34 : decode b_Kp_say 34 = .ok (.getfield 20, 3) := by decide +kernel
theorem d_Kp_say_37 : decode b_Kp_say 37 = .ok (.iload 4, 2) := by decide +kernel
theorem d_Kp_say_39 : decode b_Kp_say 39 = .ok (.invokevirtual 65, 3) := by decide +kernel
theorem d_Kp_say_42 : decode b_Kp_say 42 = .ok (.ifCond .ne 15, 3) := by decide +kernel
theorem d_Kp_say_45 : decode b_Kp_say 45 = .ok (.aload_n 0, 1) := by decide +kernel
theorem d_Kp_say_46 : decode b_Kp_say 46 = .ok (.iload 4, 2) := by decide +kernel
theorem d_Kp_say_48 : decode b_Kp_say 48 = .ok (.invokevirtual 68, 3) := by decide +kernel
theorem d_Kp_say_51 : decode b_Kp_say 51 = .ok (.ifCond .ne 6, 3) := by decide +kernel
theorem d_Kp_say_54 : decode b_Kp_say 54 = .ok (.bipush (-3), 2) := by decide +kernel
theorem d_Kp_say_56 : decode b_Kp_say 56 = .ok (.ireturn, 1) := by decide +kernel
theorem d_Kp_say_57 : decode b_Kp_say 57 = .ok (.aload_n 0, 1) := by decide +kernel
theorem d_Kp_say_58 : decode b_Kp_say 58 = .ok (.getfield 24, 3) := by decide +kernel
theorem d_Kp_say_61 : decode b_Kp_say 61 = .ok (.iload 4, 2) := by decide +kernel
theorem d_Kp_say_63 : decode b_Kp_say 63 = .ok (.invokevirtual 71, 3) := by decide +kernel
theorem d_Kp_say_66 : decode b_Kp_say 66 = .ok (.iconst 1, 1) := by decide +kernel
theorem d_Kp_say_67 : decode b_Kp_say 67 = .ok (.ireturn, 1) := by decide +kernel
theorem d_Kp_unsay_0 : decode b_Kp_unsay 0 = .ok (.iload_n 1, 1) := by decide +kernel
theorem d_Kp_unsay_1 : decode b_Kp_unsay 1 = .ok (.iload_n 2, 1) := by decide +kernel
theorem d_Kp_unsay_2 : decode b_Kp_unsay 2 = .ok (.iload_n 3, 1) := by decide +kernel
theorem d_Kp_unsay_3 : decode b_Kp_unsay 3 = .ok (.invokestatic 53, 3) := by decide +kernel
theorem d_Kp_unsay_6 : decode b_Kp_unsay 6 = .ok (.ifCond .ne 5, 3) := by decide +kernel
theorem d_Kp_unsay_9 : decode b_Kp_unsay 9 = .ok (.iconst (-1), 1) := by decide +kernel
theorem d_Kp_unsay_10 : decode b_Kp_unsay 10 = .ok (.ireturn, 1) := by decide +kernel
theorem d_Kp_unsay_11 : decode b_Kp_unsay 11 = .ok (.iload_n 1, 1) := by decide +kernel
theorem d_Kp_unsay_12 : decode b_Kp_unsay 12 = .ok (.iload_n 2, 1) := by decide +kernel
theorem d_Kp_unsay_13 : decode b_Kp_unsay 13 = .ok (.iload_n 3, 1) := by decide +kernel
theorem d_Kp_unsay_14 : decode b_Kp_unsay 14 = .ok (.invokestatic 57, 3) := by decide +kernel
theorem d_Kp_unsay_17 : decode b_Kp_unsay 17 = .ok (.istore 4, 2) := by decide +kernel
theorem d_Kp_unsay_19 : decode b_Kp_unsay 19 = .ok (.aload_n 0, 1) := by decide +kernel
theorem d_Kp_unsay_20 : decode b_Kp_unsay 20 = .ok (.getfield 24, 3) := by decide +kernel
theorem d_Kp_unsay_23 : decode b_Kp_unsay 23 = .ok (.iload 4, 2) := by decide +kernel
theorem d_Kp_unsay_25 : decode b_Kp_unsay 25 = .ok (.invokevirtual 61, 3) := by decide +kernel
theorem d_Kp_unsay_28 : decode b_Kp_unsay 28 = .ok (.ifCond .ne 5, 3) := by decide +kernel
theorem d_Kp_unsay_31 : decode b_Kp_unsay 31 = .ok (.iconst 0, 1) := by decide +kernel
theorem d_Kp_unsay_32 : decode b_Kp_unsay 32 = .ok (.ireturn, 1) := by decide +kernel
theorem d_Kp_unsay_33 : decode b_Kp_unsay 33 = .ok (.aload_n 0, 1) := by decide +kernel
theorem d_Kp_unsay_34 : decode b_Kp_unsay 34 = .ok (.getfield 24, 3) := by decide +kernel
theorem d_Kp_unsay_37 : decode b_Kp_unsay 37 = .ok (.iload 4, 2) := by decide +kernel
theorem d_Kp_unsay_39 : decode b_Kp_unsay 39 = .ok (.invokevirtual 75, 3) := by decide +kernel
theorem d_Kp_unsay_42 : decode b_Kp_unsay 42 = .ok (.aload_n 0, 1) := by decide +kernel
theorem d_Kp_unsay_43 : decode b_Kp_unsay 43 = .ok (.invokevirtual 78, 3) := by decide +kernel
theorem d_Kp_unsay_46 : decode b_Kp_unsay 46 = .ok (.iconst 1, 1) := by decide +kernel
theorem d_Kp_unsay_47 : decode b_Kp_unsay 47 = .ok (.ireturn, 1) := by decide +kernel
theorem d_Kp_pattern_0 : decode b_Kp_pattern 0 = .ok (.iload_n 1, 1) := by decide +kernel
theorem d_Kp_pattern_1 : decode b_Kp_pattern 1 = .ok (.iload_n 2, 1) := by decide +kernel
theorem d_Kp_pattern_2 : decode b_Kp_pattern 2 = .ok (.iload_n 3, 1) := by decide +kernel
theorem d_Kp_pattern_3 : decode b_Kp_pattern 3 = .ok (.invokestatic 81, 3) := by decide +kernel
theorem d_Kp_pattern_6 : decode b_Kp_pattern 6 = .ok (.ifCond .ne 5, 3) := by decide +kernel
theorem d_Kp_pattern_9 : decode b_Kp_pattern 9 = .ok (.iconst (-1), 1) := by decide +kernel
theorem d_Kp_pattern_10 : decode b_Kp_pattern 10 = .ok (.ireturn, 1) := by decide +kernel
theorem d_Kp_pattern_11 : decode b_Kp_pattern 11 = .ok (.aload_n 0, 1) := by decide +kernel
theorem d_Kp_pattern_12 : decode b_Kp_pattern 12 = .ok (.getfield 44, 3) := by decide +kernel
theorem d_Kp_pattern_15 : decode b_Kp_pattern 15 = .ok (.iconst 4, 1) := by decide +kernel
theorem d_Kp_pattern_16 : decode b_Kp_pattern 16 = .ok (.if_icmp .lt 6, 3) := by decide +kernel
theorem d_Kp_pattern_19 : decode b_Kp_pattern 19 = .ok (.bipush (-3), 2) := by decide +kernel
theorem d_Kp_pattern_21 : decode b_Kp_pattern 21 = .ok (.ireturn, 1) := by decide +kernel
theorem d_Kp_pattern_22 : decode b_Kp_pattern 22 = .ok (.aload_n 0, 1) := by decide +kernel
theorem d_Kp_pattern_23 : decode b_Kp_pattern 23 = .ok (.getfield 30, 3) := by decide +kernel
theorem d_Kp_pattern_26 : decode b_Kp_pattern 26 = .ok (.aload_n 0, 1) := by decide +kernel
theorem d_Kp_pattern_27 : decode b_Kp_pattern 27 = .ok (.getfield 44, 3) := by decide +kernel
theorem d_Kp_pattern_30 : decode b_Kp_pattern 30 = .ok (.new 28, 3) := by decide +kernel
theorem d_Kp_pattern_33 : decode b_Kp_pattern 33 = .ok (.dup, 1) := by decide +kernel
theorem d_Kp_pattern_34 : decode b_Kp_pattern 34 = .ok (.iload_n 1, 1) := by decide +kernel
theorem d_Kp_pattern_35 : decode b_Kp_pattern 35 = .ok (.iload_n 2, 1) := by decide +kernel
theorem d_Kp_pattern_36 : decode b_Kp_pattern 36 = .ok (.iload_n 3, 1) := by decide +kernel
theorem d_Kp_pattern_37 : decode b_Kp_pattern 37 = .ok (.invokespecial 47, 3) := by decide +kernel
theorem d_Kp_pattern_40 : decode b_Kp_pattern 40 = .ok (.aastore, 1) := by decide +kernel
theorem d_Kp_pattern_41 : decode b_Kp_pattern 41 = .ok (.aload_n 0, 1) := by decide +kernel
theorem d_Kp_pattern_42 : decode b_Kp_pattern 42 = .ok (.dup, 1) := by decide +kernel
theorem d_Kp_pattern_43 : decode b_Kp_pattern 43 = .ok (.getfield 44, 3) := by decide +kernel
theorem d_Kp_pattern_46 : decode b_Kp_pattern 46 = .ok (.iconst 1, 1) := by decide +kernel
theorem d_Kp_pattern_47 : decode b_Kp_pattern 47 = .ok (.iadd, 1) := by decide +kernel
theorem d_Kp_pattern_48 : decode b_Kp_pattern 48 = .ok (.putfield 44, 3) := by decide +kernel
theorem d_Kp_pattern_51 : decode b_Kp_pattern 51 = .ok (.aload_n 0, 1) := by decide +kernel
theorem d_Kp_pattern_52 : decode b_Kp_pattern 52 = .ok (.getfield 44, 3) := by decide +kernel
theorem d_Kp_pattern_55 : decode b_Kp_pattern 55 = .ok (.ireturn, 1) := by decide +kernel
theorem d_Kp_rule_0 : decode b_Kp_rule 0 = .ok (.aload_n 0, 1) := by decide +kernel
theorem d_Kp_rule_1 : decode b_Kp_rule 1 = .ok (.invokevirtual 84, 3) := by decide +kernel
theorem d_Kp_rule_4 : decode b_Kp_rule 4 = .ok (.ifCond .ne 10, 3) := by decide +kernel
theorem d_Kp_rule_7 : decode b_Kp_rule 7 = .ok (.aload_n 0, 1) := by decide +kernel
theorem d_Kp_rule_8 : decode b_Kp_rule 8 = .ok (.iconst 0, 1) := by decide +kernel
theorem d_Kp_rule_9 : decode b_Kp_rule 9 = .ok (.putfield 44, 3) := by decide +kernel
theorem d_Kp_rule_12 : decode b_Kp_rule 12 = .ok (.iconst (-1), 1) := by decide +kernel
theorem d_Kp_rule_13 : decode b_Kp_rule 13 = .ok (.ireturn, 1) := by decide +kernel
theorem d_Kp_rule_14 : decode b_Kp_rule 14 = .ok (.aload_n 0, 1) := by decide +kernel
theorem d_Kp_rule_15 : decode b_Kp_rule 15 = .ok (.getfield 40, 3) := by decide +kernel
theorem d_Kp_rule_18 : decode b_Kp_rule 18 = .ok (.bipush 12, 2) := by decide +kernel
theorem d_Kp_rule_20 : decode b_Kp_rule 20 = .ok (.if_icmp .lt 6, 3) := by decide +kernel
theorem d_Kp_rule_23 : decode b_Kp_rule 23 = .ok (.bipush (-3), 2) := by decide +kernel
theorem d_Kp_rule_25 : decode b_Kp_rule 25 = .ok (.ireturn, 1) := by decide +kernel
theorem d_Kp_rule_26 : decode b_Kp_rule 26 = .ok (.aload_n 0, 1) := by decide +kernel
theorem d_Kp_rule_27 : decode b_Kp_rule 27 = .ok (.getfield 20, 3) := by decide +kernel
theorem d_Kp_rule_30 : decode b_Kp_rule 30 = .ok (.getfield 88, 3) := by decide +kernel
theorem d_Kp_rule_33 : decode b_Kp_rule 33 = .ok (.istore_n 1, 1) := by decide +kernel
theorem d_Kp_rule_34 : decode b_Kp_rule 34 = .ok (.aload_n 0, 1) := by decide +kernel
theorem d_Kp_rule_35 : decode b_Kp_rule 35 = .ok (.getfield 36, 3) := by decide +kernel
theorem d_Kp_rule_38 : decode b_Kp_rule 38 = .ok (.aload_n 0, 1) := by decide +kernel
theorem d_Kp_rule_39 : decode b_Kp_rule 39 = .ok (.getfield 40, 3) := by decide +kernel
theorem d_Kp_rule_42 : decode b_Kp_rule 42 = .ok (.aload_n 0, 1) := by decide +kernel
theorem d_Kp_rule_43 : decode b_Kp_rule 43 = .ok (.invokevirtual 91, 3) := by decide +kernel
theorem d_Kp_rule_46 : decode b_Kp_rule 46 = .ok (.aastore, 1) := by decide +kernel
theorem d_Kp_rule_47 : decode b_Kp_rule 47 = .ok (.aload_n 0, 1) := by decide +kernel
theorem d_Kp_rule_48 : decode b_Kp_rule 48 = .ok (.dup, 1) := by decide +kernel
theorem d_Kp_rule_49 : decode b_Kp_rule 49 = .ok (.getfield 40, 3) := by decide +kernel
theorem d_Kp_rule_52 : decode b_Kp_rule 52 = .ok (.iconst 1, 1) := by decide +kernel
theorem d_Kp_rule_53 : decode b_Kp_rule 53 = .ok (.iadd, 1) := by decide +kernel
theorem d_Kp_rule_54 : decode b_Kp_rule 54 = .ok (.putfield 40, 3) := by decide +kernel
theorem d_Kp_rule_57 : decode b_Kp_rule 57 = .ok (.aload_n 0, 1) := by decide +kernel
theorem d_Kp_rule_58 : decode b_Kp_rule 58 = .ok (.iconst 0, 1) := by decide +kernel
theorem d_Kp_rule_59 : decode b_Kp_rule 59 = .ok (.iload_n 1, 1) := by decide +kernel
theorem d_Kp_rule_60 : decode b_Kp_rule 60 = .ok (.invokevirtual 95, 3) := by decide +kernel
theorem d_Kp_rule_63 : decode b_Kp_rule 63 = .ok (.ifCond .ne 24, 3) := by decide +kernel
theorem d_Kp_rule_66 : decode b_Kp_rule 66 = .ok (.aload_n 0, 1) := by decide +kernel
theorem d_Kp_rule_67 : decode b_Kp_rule 67 = .ok (.getfield 20, 3) := by decide +kernel
theorem d_Kp_rule_70 : decode b_Kp_rule 70 = .ok (.iload_n 1, 1) := by decide +kernel
theorem d_Kp_rule_71 : decode b_Kp_rule 71 = .ok (.invokevirtual 99, 3) := by decide +kernel
theorem d_Kp_rule_74 : decode b_Kp_rule 74 = .ok (.aload_n 0, 1) := by decide +kernel
theorem d_Kp_rule_75 : decode b_Kp_rule 75 = .ok (.dup, 1) := by decide +kernel
theorem d_Kp_rule_76 : decode b_Kp_rule 76 = .ok (.getfield 40, 3) := by decide +kernel
theorem d_Kp_rule_79 : decode b_Kp_rule 79 = .ok (.iconst 1, 1) := by decide +kernel
theorem d_Kp_rule_80 : decode b_Kp_rule 80 = .ok (.isub, 1) := by decide +kernel
theorem d_Kp_rule_81 : decode b_Kp_rule 81 = .ok (.putfield 40, 3) := by decide +kernel
theorem d_Kp_rule_84 : decode b_Kp_rule 84 = .ok (.bipush (-3), 2) := by decide +kernel
theorem d_Kp_rule_86 : decode b_Kp_rule 86 = .ok (.ireturn, 1) := by decide +kernel
theorem d_Kp_rule_87 : decode b_Kp_rule 87 = .ok (.aload_n 0, 1) := by decide +kernel
theorem d_Kp_rule_88 : decode b_Kp_rule 88 = .ok (.iconst 0, 1) := by decide +kernel
theorem d_Kp_rule_89 : decode b_Kp_rule 89 = .ok (.putfield 44, 3) := by decide +kernel
theorem d_Kp_rule_92 : decode b_Kp_rule 92 = .ok (.aload_n 0, 1) := by decide +kernel
theorem d_Kp_rule_93 : decode b_Kp_rule 93 = .ok (.getfield 40, 3) := by decide +kernel
theorem d_Kp_rule_96 : decode b_Kp_rule 96 = .ok (.iconst 1, 1) := by decide +kernel
theorem d_Kp_rule_97 : decode b_Kp_rule 97 = .ok (.isub, 1) := by decide +kernel
theorem d_Kp_rule_98 : decode b_Kp_rule 98 = .ok (.ireturn, 1) := by decide +kernel
theorem d_Kp_unrule_0 : decode b_Kp_unrule 0 = .ok (.iload_n 1, 1) := by decide +kernel
theorem d_Kp_unrule_1 : decode b_Kp_unrule 1 = .ok (.ifCond .lt 11, 3) := by decide +kernel
theorem d_Kp_unrule_4 : decode b_Kp_unrule 4 = .ok (.iload_n 1, 1) := by decide +kernel
theorem d_Kp_unrule_5 : decode b_Kp_unrule 5 = .ok (.aload_n 0, 1) := by decide +kernel
theorem d_Kp_unrule_6 : decode b_Kp_unrule 6 = .ok (.getfield 40, 3) := by decide +kernel
theorem d_Kp_unrule_9 : decode b_Kp_unrule 9 = .ok (.if_icmp .lt 5, 3) := by decide +kernel
theorem d_Kp_unrule_12 : decode b_Kp_unrule 12 = .ok (.iconst (-1), 1) := by decide +kernel
theorem d_Kp_unrule_13 : decode b_Kp_unrule 13 = .ok (.ireturn, 1) := by decide +kernel
theorem d_Kp_unrule_14 : decode b_Kp_unrule 14 = .ok (.iload_n 1, 1) := by decide +kernel
theorem d_Kp_unrule_15 : decode b_Kp_unrule 15 = .ok (.iconst 1, 1) := by decide +kernel
theorem d_Kp_unrule_16 : decode b_Kp_unrule 16 = .ok (.iadd, 1) := by decide +kernel
theorem d_Kp_unrule_17 : decode b_Kp_unrule 17 = .ok (.istore_n 2, 1) := by decide +kernel
theorem d_Kp_unrule_18 : decode b_Kp_unrule 18 = .ok (.iload_n 2, 1) := by decide +kernel
theorem d_Kp_unrule_19 : decode b_Kp_unrule 19 = .ok (.aload_n 0, 1) := by decide +kernel
theorem d_Kp_unrule_20 : decode b_Kp_unrule 20 = .ok (.getfield 40, 3) := by decide +kernel
theorem d_Kp_unrule_23 : decode b_Kp_unrule 23 = .ok (.if_icmp .ge 23, 3) := by decide +kernel
theorem d_Kp_unrule_26 : decode b_Kp_unrule 26 = .ok (.aload_n 0, 1) := by decide +kernel
theorem d_Kp_unrule_27 : decode b_Kp_unrule 27 = .ok (.getfield 36, 3) := by decide +kernel
theorem d_Kp_unrule_30 : decode b_Kp_unrule 30 = .ok (.iload_n 2, 1) := by decide +kernel
theorem d_Kp_unrule_31 : decode b_Kp_unrule 31 = .ok (.iconst 1, 1) := by decide +kernel
theorem d_Kp_unrule_32 : decode b_Kp_unrule 32 = .ok (.isub, 1) := by decide +kernel
theorem d_Kp_unrule_33 : decode b_Kp_unrule 33 = .ok (.aload_n 0, 1) := by decide +kernel
theorem d_Kp_unrule_34 : decode b_Kp_unrule 34 = .ok (.getfield 36, 3) := by decide +kernel
theorem d_Kp_unrule_37 : decode b_Kp_unrule 37 = .ok (.iload_n 2, 1) := by decide +kernel
theorem d_Kp_unrule_38 : decode b_Kp_unrule 38 = .ok (.aaload, 1) := by decide +kernel
theorem d_Kp_unrule_39 : decode b_Kp_unrule 39 = .ok (.aastore, 1) := by decide +kernel
theorem d_Kp_unrule_40 : decode b_Kp_unrule 40 = .ok (.iinc 2 1, 3) := by decide +kernel
theorem d_Kp_unrule_43 : decode b_Kp_unrule 43 = .ok (.goto (-25), 3) := by decide +kernel
theorem d_Kp_unrule_46 : decode b_Kp_unrule 46 = .ok (.aload_n 0, 1) := by decide +kernel
theorem d_Kp_unrule_47 : decode b_Kp_unrule 47 = .ok (.dup, 1) := by decide +kernel
theorem d_Kp_unrule_48 : decode b_Kp_unrule 48 = .ok (.getfield 40, 3) := by decide +kernel
theorem d_Kp_unrule_51 : decode b_Kp_unrule 51 = .ok (.iconst 1, 1) := by decide +kernel
theorem d_Kp_unrule_52 : decode b_Kp_unrule 52 = .ok (.isub, 1) := by decide +kernel
theorem d_Kp_unrule_53 : decode b_Kp_unrule 53 = .ok (.putfield 40, 3) := by decide +kernel
theorem d_Kp_unrule_56 : decode b_Kp_unrule 56 = .ok (.aload_n 0, 1) := by decide +kernel
theorem d_Kp_unrule_57 : decode b_Kp_unrule 57 = .ok (.invokevirtual 78, 3) := by decide +kernel
theorem d_Kp_unrule_60 : decode b_Kp_unrule 60 = .ok (.aload_n 0, 1) := by decide +kernel
theorem d_Kp_unrule_61 : decode b_Kp_unrule 61 = .ok (.getfield 40, 3) := by decide +kernel
theorem d_Kp_unrule_64 : decode b_Kp_unrule 64 = .ok (.ireturn, 1) := by decide +kernel
theorem d_Kp_rules_0 : decode b_Kp_rules 0 = .ok (.aload_n 0, 1) := by decide +kernel
theorem d_Kp_rules_1 : decode b_Kp_rules 1 = .ok (.getfield 40, 3) := by decide +kernel
theorem d_Kp_rules_4 : decode b_Kp_rules 4 = .ok (.ireturn, 1) := by decide +kernel
theorem d_Kp_holds_0 : decode b_Kp_holds 0 = .ok (.iload_n 1, 1) := by decide +kernel
theorem d_Kp_holds_1 : decode b_Kp_holds 1 = .ok (.iload_n 2, 1) := by decide +kernel
theorem d_Kp_holds_2 : decode b_Kp_holds 2 = .ok (.iload_n 3, 1) := by decide +kernel
theorem d_Kp_holds_3 : decode b_Kp_holds 3 = .ok (.invokestatic 53, 3) := by decide +kernel
theorem d_Kp_holds_6 : decode b_Kp_holds 6 = .ok (.ifCond .ne 5, 3) := by decide +kernel
theorem d_Kp_holds_9 : decode b_Kp_holds 9 = .ok (.iconst (-1), 1) := by decide +kernel
theorem d_Kp_holds_10 : decode b_Kp_holds 10 = .ok (.ireturn, 1) := by decide +kernel
theorem d_Kp_holds_11 : decode b_Kp_holds 11 = .ok (.iload_n 1, 1) := by decide +kernel
theorem d_Kp_holds_12 : decode b_Kp_holds 12 = .ok (.iload_n 2, 1) := by decide +kernel
theorem d_Kp_holds_13 : decode b_Kp_holds 13 = .ok (.iload_n 3, 1) := by decide +kernel
theorem d_Kp_holds_14 : decode b_Kp_holds 14 = .ok (.invokestatic 57, 3) := by decide +kernel
theorem d_Kp_holds_17 : decode b_Kp_holds 17 = .ok (.istore 4, 2) := by decide +kernel
theorem d_Kp_holds_19 : decode b_Kp_holds 19 = .ok (.aload_n 0, 1) := by decide +kernel
theorem d_Kp_holds_20 : decode b_Kp_holds 20 = .ok (.getfield 24, 3) := by decide +kernel
theorem d_Kp_holds_23 : decode b_Kp_holds 23 = .ok (.iload 4, 2) := by decide +kernel
theorem d_Kp_holds_25 : decode b_Kp_holds 25 = .ok (.invokevirtual 61, 3) := by decide +kernel
theorem d_Kp_holds_28 : decode b_Kp_holds 28 = .ok (.ifCond .eq 5, 3) := by decide +kernel
theorem d_Kp_holds_31 : decode b_Kp_holds 31 = .ok (.iconst 1, 1) := by decide +kernel
theorem d_Kp_holds_32 : decode b_Kp_holds 32 = .ok (.ireturn, 1) := by decide +kernel
theorem d_Kp_holds_33 : decode b_Kp_holds 33 = .ok (.aload_n 0, 1) := by decide +kernel
theorem d_Kp_holds_34 : decode b_Kp_holds 34 = .ok (.getfield 20, 3) := by decide +kernel
theorem d_Kp_holds_37 : decode b_Kp_holds 37 = .ok (.iload 4, 2) := by decide +kernel
theorem d_Kp_holds_39 : decode b_Kp_holds 39 = .ok (.invokevirtual 65, 3) := by decide +kernel
theorem d_Kp_holds_42 : decode b_Kp_holds 42 = .ok (.ifCond .eq 7, 3) := by decide +kernel
theorem d_Kp_holds_45 : decode b_Kp_holds 45 = .ok (.iconst 2, 1) := by decide +kernel
theorem d_Kp_holds_46 : decode b_Kp_holds 46 = .ok (.goto 4, 3) := by decide +kernel
theorem d_Kp_holds_49 : decode b_Kp_holds 49 = .ok (.iconst 0, 1) := by decide +kernel
theorem d_Kp_holds_50 : decode b_Kp_holds 50 = .ok (.ireturn, 1) := by decide +kernel
theorem d_Kp_support_0 : decode b_Kp_support 0 = .ok (.iload_n 1, 1) := by decide +kernel
theorem d_Kp_support_1 : decode b_Kp_support 1 = .ok (.iload_n 2, 1) := by decide +kernel
theorem d_Kp_support_2 : decode b_Kp_support 2 = .ok (.iload_n 3, 1) := by decide +kernel
theorem d_Kp_support_3 : decode b_Kp_support 3 = .ok (.invokestatic 53, 3) := by decide +kernel
theorem d_Kp_support_6 : decode b_Kp_support 6 = .ok (.ifCond .ne 5, 3) := by decide +kernel
theorem d_Kp_support_9 : decode b_Kp_support 9 = .ok (.iconst (-1), 1) := by decide +kernel
theorem d_Kp_support_10 : decode b_Kp_support 10 = .ok (.ireturn, 1) := by decide +kernel
theorem d_Kp_support_11 : decode b_Kp_support 11 = .ok (.iload_n 1, 1) := by decide +kernel
theorem d_Kp_support_12 : decode b_Kp_support 12 = .ok (.iload_n 2, 1) := by decide +kernel
theorem d_Kp_support_13 : decode b_Kp_support 13 = .ok (.iload_n 3, 1) := by decide +kernel
theorem d_Kp_support_14 : decode b_Kp_support 14 = .ok (.invokestatic 57, 3) := by decide +kernel
theorem d_Kp_support_17 : decode b_Kp_support 17 = .ok (.istore 4, 2) := by decide +kernel
theorem d_Kp_support_19 : decode b_Kp_support 19 = .ok (.iconst 0, 1) := by decide +kernel
theorem d_Kp_support_20 : decode b_Kp_support 20 = .ok (.istore 5, 2) := by decide +kernel
theorem d_Kp_support_22 : decode b_Kp_support 22 = .ok (.iconst 0, 1) := by decide +kernel
theorem d_Kp_support_23 : decode b_Kp_support 23 = .ok (.istore 6, 2) := by decide +kernel
theorem d_Kp_support_25 : decode b_Kp_support 25 = .ok (.iload 6, 2) := by decide +kernel
theorem d_Kp_support_27 : decode b_Kp_support 27 = .ok (.aload_n 0, 1) := by decide +kernel
theorem d_Kp_support_28 : decode b_Kp_support 28 = .ok (.getfield 40, 3) := by decide +kernel
theorem d_Kp_support_31 : decode b_Kp_support 31 = .ok (.if_icmp .ge 30, 3) := by decide +kernel
theorem d_Kp_support_34 : decode b_Kp_support 34 = .ok (.iload 5, 2) := by decide +kernel
theorem d_Kp_support_36 : decode b_Kp_support 36 = .ok (.aload_n 0, 1) := by decide +kernel
theorem d_Kp_support_37 : decode b_Kp_support 37 = .ok (.getfield 12, 3) := by decide +kernel
theorem d_Kp_support_40 : decode b_Kp_support 40 = .ok (.aload_n 0, 1) := by decide +kernel
theorem d_Kp_support_41 : decode b_Kp_support 41 = .ok (.getfield 36, 3) := by decide +kernel
theorem d_Kp_support_44 : decode b_Kp_support 44 = .ok (.iload 6, 2) := by decide +kernel
theorem d_Kp_support_46 : decode b_Kp_support 46 = .ok (.aaload, 1) := by decide +kernel
theorem d_Kp_support_47 : decode b_Kp_support 47 = .ok (.iload 4, 2) := by decide +kernel
theorem d_Kp_support_49 : decode b_Kp_support 49 = .ok (.invokevirtual 102, 3) := by decide +kernel
theorem d_Kp_support_52 : decode b_Kp_support 52 = .ok (.iadd, 1) := by decide +kernel
theorem d_Kp_support_53 : decode b_Kp_support 53 = .ok (.istore 5, 2) := by decide +kernel
theorem d_Kp_support_55 : decode b_Kp_support 55 = .ok (.iinc 6 1, 3) := by decide +kernel
theorem d_Kp_support_58 : decode b_Kp_support 58 = .ok (.goto (-33), 3) := by decide +kernel
theorem d_Kp_support_61 : decode b_Kp_support 61 = .ok (.iload 5, 2) := by decide +kernel
theorem d_Kp_support_63 : decode b_Kp_support 63 = .ok (.ireturn, 1) := by decide +kernel
theorem d_Kp_size_0 : decode b_Kp_size 0 = .ok (.aload_n 0, 1) := by decide +kernel
theorem d_Kp_size_1 : decode b_Kp_size 1 = .ok (.getfield 20, 3) := by decide +kernel
theorem d_Kp_size_4 : decode b_Kp_size 4 = .ok (.getfield 88, 3) := by decide +kernel
theorem d_Kp_size_7 : decode b_Kp_size 7 = .ok (.ireturn, 1) := by decide +kernel
theorem d_Kp_next_0 : decode b_Kp_next 0 = .ok (.bipush (-2), 2) := by decide +kernel
theorem d_Kp_next_2 : decode b_Kp_next 2 = .ok (.istore_n 2, 1) := by decide +kernel
theorem d_Kp_next_3 : decode b_Kp_next 3 = .ok (.iconst 0, 1) := by decide +kernel
theorem d_Kp_next_4 : decode b_Kp_next 4 = .ok (.istore_n 3, 1) := by decide +kernel
theorem d_Kp_next_5 : decode b_Kp_next 5 = .ok (.iload_n 3, 1) := by decide +kernel
theorem d_Kp_next_6 : decode b_Kp_next 6 = .ok (.aload_n 0, 1) := by decide +kernel
theorem d_Kp_next_7 : decode b_Kp_next 7 = .ok (.getfield 20, 3) := by decide +kernel
theorem d_Kp_next_10 : decode b_Kp_next 10 = .ok (.getfield 88, 3) := by decide +kernel
theorem d_Kp_next_13 : decode b_Kp_next 13 = .ok (.if_icmp .ge 41, 3) := by decide +kernel
theorem d_Kp_next_16 : decode b_Kp_next 16 = .ok (.aload_n 0, 1) := by decide +kernel
theorem d_Kp_next_17 : decode b_Kp_next 17 = .ok (.getfield 20, 3) := by decide +kernel
theorem d_Kp_next_20 : decode b_Kp_next 20 = .ok (.getfield 106, 3) := by decide +kernel
theorem d_Kp_next_23 : decode b_Kp_next 23 = .ok (.iload_n 3, 1) := by decide +kernel
theorem d_Kp_next_24 : decode b_Kp_next 24 = .ok (.iaload, 1) := by decide +kernel
theorem d_Kp_next_25 : decode b_Kp_next 25 = .ok (.istore 4, 2) := by decide +kernel
theorem d_Kp_next_27 : decode b_Kp_next 27 = .ok (.iload 4, 2) := by decide +kernel
theorem d_Kp_next_29 : decode b_Kp_next 29 = .ok (.iload_n 1, 1) := by decide +kernel
theorem d_Kp_next_30 : decode b_Kp_next 30 = .ok (.if_icmp .le 18, 3) := by decide +kernel
theorem d_Kp_next_33 : decode b_Kp_next 33 = .ok (.iload_n 2, 1) := by decide +kernel
theorem d_Kp_next_34 : decode b_Kp_next 34 = .ok (.bipush (-2), 2) := by decide +kernel
theorem d_Kp_next_36 : decode b_Kp_next 36 = .ok (.if_icmp .eq 9, 3) := by decide +kernel
theorem d_Kp_next_39 : decode b_Kp_next 39 = .ok (.iload 4, 2) := by decide +kernel
theorem d_Kp_next_41 : decode b_Kp_next 41 = .ok (.iload_n 2, 1) := by decide +kernel
theorem d_Kp_next_42 : decode b_Kp_next 42 = .ok (.if_icmp .ge 6, 3) := by decide +kernel
theorem d_Kp_next_45 : decode b_Kp_next 45 = .ok (.iload 4, 2) := by decide +kernel
theorem d_Kp_next_47 : decode b_Kp_next 47 = .ok (.istore_n 2, 1) := by decide +kernel
theorem d_Kp_next_48 : decode b_Kp_next 48 = .ok (.iinc 3 1, 3) := by decide +kernel
theorem d_Kp_next_51 : decode b_Kp_next 51 = .ok (.goto (-46), 3) := by decide +kernel
theorem d_Kp_next_54 : decode b_Kp_next 54 = .ok (.iload_n 2, 1) := by decide +kernel
theorem d_Kp_next_55 : decode b_Kp_next 55 = .ok (.ireturn, 1) := by decide +kernel
theorem d_Kp_fitting_0 : decode b_Kp_fitting 0 = .ok (.iload_n 1, 1) := by decide +kernel
theorem d_Kp_fitting_1 : decode b_Kp_fitting 1 = .ok (.iload_n 2, 1) := by decide +kernel
theorem d_Kp_fitting_2 : decode b_Kp_fitting 2 = .ok (.iload_n 3, 1) := by decide +kernel
theorem d_Kp_fitting_3 : decode b_Kp_fitting 3 = .ok (.invokestatic 81, 3) := by decide +kernel
theorem d_Kp_fitting_6 : decode b_Kp_fitting 6 = .ok (.ifCond .ne 5, 3) := by decide +kernel
theorem d_Kp_fitting_9 : decode b_Kp_fitting 9 = .ok (.iconst (-1), 1) := by decide +kernel
theorem d_Kp_fitting_10 : decode b_Kp_fitting 10 = .ok (.ireturn, 1) := by decide +kernel
theorem d_Kp_fitting_11 : decode b_Kp_fitting 11 = .ok (.new 28, 3) := by decide +kernel
theorem d_Kp_fitting_14 : decode b_Kp_fitting 14 = .ok (.dup, 1) := by decide +kernel
theorem d_Kp_fitting_15 : decode b_Kp_fitting 15 = .ok (.iload_n 1, 1) := by decide +kernel
theorem d_Kp_fitting_16 : decode b_Kp_fitting 16 = .ok (.iload_n 2, 1) := by decide +kernel
theorem d_Kp_fitting_17 : decode b_Kp_fitting 17 = .ok (.iload_n 3, 1) := by decide +kernel
theorem d_Kp_fitting_18 : decode b_Kp_fitting 18 = .ok (.invokespecial 47, 3) := by decide +kernel
theorem d_Kp_fitting_21 : decode b_Kp_fitting 21 = .ok (.astore 4, 2) := by decide +kernel
theorem d_Kp_fitting_23 : decode b_Kp_fitting 23 = .ok (.iconst 0, 1) := by decide +kernel
theorem d_Kp_fitting_24 : decode b_Kp_fitting 24 = .ok (.istore 5, 2) := by decide +kernel
theorem d_Kp_fitting_26 : decode b_Kp_fitting 26 = .ok (.iconst 0, 1) := by decide +kernel
theorem d_Kp_fitting_27 : decode b_Kp_fitting 27 = .ok (.istore 6, 2) := by decide +kernel
theorem d_Kp_fitting_29 : decode b_Kp_fitting 29 = .ok (.iload 6, 2) := by decide +kernel
theorem d_Kp_fitting_31 : decode b_Kp_fitting 31 = .ok (.aload_n 0, 1) := by decide +kernel
theorem d_Kp_fitting_32 : decode b_Kp_fitting 32 = .ok (.getfield 20, 3) := by decide +kernel
theorem d_Kp_fitting_35 : decode b_Kp_fitting 35 = .ok (.getfield 88, 3) := by decide +kernel
theorem d_Kp_fitting_38 : decode b_Kp_fitting 38 = .ok (.if_icmp .ge 30, 3) := by decide +kernel
theorem d_Kp_fitting_41 : decode b_Kp_fitting 41 = .ok (.aload 4, 2) := by decide +kernel
theorem d_Kp_fitting_43 : decode b_Kp_fitting 43 = .ok (.aload_n 0, 1) := by decide +kernel
theorem d_Kp_fitting_44 : decode b_Kp_fitting 44 = .ok (.getfield 20, 3) := by decide +kernel
theorem d_Kp_fitting_47 : decode b_Kp_fitting 47 = .ok (.getfield 106, 3) := by decide +kernel
theorem d_Kp_fitting_50 : decode b_Kp_fitting 50 = .ok (.iload 6, 2) := by decide +kernel
theorem d_Kp_fitting_52 : decode b_Kp_fitting 52 = .ok (.iaload, 1) := by decide +kernel
theorem d_Kp_fitting_53 : decode b_Kp_fitting 53 = .ok (.invokevirtual 110, 3) := by decide +kernel
theorem d_Kp_fitting_56 : decode b_Kp_fitting 56 = .ok (.ifCond .eq 6, 3) := by decide +kernel
theorem d_Kp_fitting_59 : decode b_Kp_fitting 59 = .ok (.iinc 5 1, 3) := by decide +kernel
theorem d_Kp_fitting_62 : decode b_Kp_fitting 62 = .ok (.iinc 6 1, 3) := by decide +kernel
theorem d_Kp_fitting_65 : decode b_Kp_fitting 65 = .ok (.goto (-36), 3) := by decide +kernel
theorem d_Kp_fitting_68 : decode b_Kp_fitting 68 = .ok (.iload 5, 2) := by decide +kernel
theorem d_Kp_fitting_70 : decode b_Kp_fitting 70 = .ok (.ireturn, 1) := by decide +kernel
theorem d_Kp_clear_0 : decode b_Kp_clear 0 = .ok (.iconst 0, 1) := by decide +kernel
theorem d_Kp_clear_1 : decode b_Kp_clear 1 = .ok (.istore_n 1, 1) := by decide +kernel
theorem d_Kp_clear_2 : decode b_Kp_clear 2 = .ok (.iconst 0, 1) := by decide +kernel
theorem d_Kp_clear_3 : decode b_Kp_clear 3 = .ok (.istore_n 2, 1) := by decide +kernel
theorem d_Kp_clear_4 : decode b_Kp_clear 4 = .ok (.iload_n 2, 1) := by decide +kernel
theorem d_Kp_clear_5 : decode b_Kp_clear 5 = .ok (.aload_n 0, 1) := by decide +kernel
theorem d_Kp_clear_6 : decode b_Kp_clear 6 = .ok (.getfield 20, 3) := by decide +kernel
theorem d_Kp_clear_9 : decode b_Kp_clear 9 = .ok (.getfield 88, 3) := by decide +kernel
theorem d_Kp_clear_12 : decode b_Kp_clear 12 = .ok (.if_icmp .ge 47, 3) := by decide +kernel
theorem d_Kp_clear_15 : decode b_Kp_clear 15 = .ok (.aload_n 0, 1) := by decide +kernel
theorem d_Kp_clear_16 : decode b_Kp_clear 16 = .ok (.getfield 24, 3) := by decide +kernel
theorem d_Kp_clear_19 : decode b_Kp_clear 19 = .ok (.aload_n 0, 1) := by decide +kernel
theorem d_Kp_clear_20 : decode b_Kp_clear 20 = .ok (.getfield 20, 3) := by decide +kernel
theorem d_Kp_clear_23 : decode b_Kp_clear 23 = .ok (.getfield 106, 3) := by decide +kernel
theorem d_Kp_clear_26 : decode b_Kp_clear 26 = .ok (.iload_n 2, 1) := by decide +kernel
theorem d_Kp_clear_27 : decode b_Kp_clear 27 = .ok (.iaload, 1) := by decide +kernel
theorem d_Kp_clear_28 : decode b_Kp_clear 28 = .ok (.invokevirtual 61, 3) := by decide +kernel
theorem d_Kp_clear_31 : decode b_Kp_clear 31 = .ok (.ifCond .eq 22, 3) := by decide +kernel
theorem d_Kp_clear_34 : decode b_Kp_clear 34 = .ok (.aload_n 0, 1) := by decide +kernel
theorem d_Kp_clear_35 : decode b_Kp_clear 35 = .ok (.getfield 24, 3) := by decide +kernel
theorem d_Kp_clear_38 : decode b_Kp_clear 38 = .ok (.aload_n 0, 1) := by decide +kernel
theorem d_Kp_clear_39 : decode b_Kp_clear 39 = .ok (.getfield 20, 3) := by decide +kernel
theorem d_Kp_clear_42 : decode b_Kp_clear 42 = .ok (.getfield 106, 3) := by decide +kernel
theorem d_Kp_clear_45 : decode b_Kp_clear 45 = .ok (.iload_n 2, 1) := by decide +kernel
theorem d_Kp_clear_46 : decode b_Kp_clear 46 = .ok (.iaload, 1) := by decide +kernel
theorem d_Kp_clear_47 : decode b_Kp_clear 47 = .ok (.invokevirtual 75, 3) := by decide +kernel
theorem d_Kp_clear_50 : decode b_Kp_clear 50 = .ok (.iinc 1 1, 3) := by decide +kernel
theorem d_Kp_clear_53 : decode b_Kp_clear 53 = .ok (.iinc 2 1, 3) := by decide +kernel
theorem d_Kp_clear_56 : decode b_Kp_clear 56 = .ok (.goto (-52), 3) := by decide +kernel
theorem d_Kp_clear_59 : decode b_Kp_clear 59 = .ok (.aload_n 0, 1) := by decide +kernel
theorem d_Kp_clear_60 : decode b_Kp_clear 60 = .ok (.getfield 20, 3) := by decide +kernel
theorem d_Kp_clear_63 : decode b_Kp_clear 63 = .ok (.iconst 0, 1) := by decide +kernel
theorem d_Kp_clear_64 : decode b_Kp_clear 64 = .ok (.invokevirtual 99, 3) := by decide +kernel
theorem d_Kp_clear_67 : decode b_Kp_clear 67 = .ok (.iload_n 1, 1) := by decide +kernel
theorem d_Kp_clear_68 : decode b_Kp_clear 68 = .ok (.ireturn, 1) := by decide +kernel
theorem d_Kp_isNumber_0 : decode b_Kp_isNumber 0 = .ok (.iload_n 0, 1) := by decide +kernel
theorem d_Kp_isNumber_1 : decode b_Kp_isNumber 1 = .ok (.ifCond .lt 13, 3) := by decide +kernel
theorem d_Kp_isNumber_4 : decode b_Kp_isNumber 4 = .ok (.iload_n 0, 1) := by decide +kernel
theorem d_Kp_isNumber_5 : decode b_Kp_isNumber 5 = .ok (.bipush 32, 2) := by decide +kernel
theorem d_Kp_isNumber_7 : decode b_Kp_isNumber 7 = .ok (.if_icmp .ge 7, 3) := by decide +kernel
theorem d_Kp_isNumber_10 : decode b_Kp_isNumber 10 = .ok (.iconst 1, 1) := by decide +kernel
theorem d_Kp_isNumber_11 : decode b_Kp_isNumber 11 = .ok (.goto 4, 3) := by decide +kernel
theorem d_Kp_isNumber_14 : decode b_Kp_isNumber 14 = .ok (.iconst 0, 1) := by decide +kernel
theorem d_Kp_isNumber_15 : decode b_Kp_isNumber 15 = .ok (.ireturn, 1) := by decide +kernel
theorem d_Kp_isTriple_0 : decode b_Kp_isTriple 0 = .ok (.iload_n 0, 1) := by decide +kernel
theorem d_Kp_isTriple_1 : decode b_Kp_isTriple 1 = .ok (.invokestatic 113, 3) := by decide +kernel
theorem d_Kp_isTriple_4 : decode b_Kp_isTriple 4 = .ok (.ifCond .eq 21, 3) := by decide +kernel
theorem d_Kp_isTriple_7 : decode b_Kp_isTriple 7 = .ok (.iload_n 1, 1) := by decide +kernel
theorem d_Kp_isTriple_8 : decode b_Kp_isTriple 8 = .ok (.invokestatic 113, 3) := by decide +kernel
theorem d_Kp_isTriple_11 : decode b_Kp_isTriple 11 = .ok (.ifCond .eq 14, 3) := by decide +kernel
theorem d_Kp_isTriple_14 : decode b_Kp_isTriple 14 = .ok (.iload_n 2, 1) := by decide +kernel
theorem d_Kp_isTriple_15 : decode b_Kp_isTriple 15 = .ok (.invokestatic 113, 3) := by decide +kernel
theorem d_Kp_isTriple_18 : decode b_Kp_isTriple 18 = .ok (.ifCond .eq 7, 3) := by decide +kernel
theorem d_Kp_isTriple_21 : decode b_Kp_isTriple 21 = .ok (.iconst 1, 1) := by decide +kernel
theorem d_Kp_isTriple_22 : decode b_Kp_isTriple 22 = .ok (.goto 4, 3) := by decide +kernel
theorem d_Kp_isTriple_25 : decode b_Kp_isTriple 25 = .ok (.iconst 0, 1) := by decide +kernel
theorem d_Kp_isTriple_26 : decode b_Kp_isTriple 26 = .ok (.ireturn, 1) := by decide +kernel
theorem d_Kp_isItem_0 : decode b_Kp_isItem 0 = .ok (.iload_n 0, 1) := by decide +kernel
theorem d_Kp_isItem_1 : decode b_Kp_isItem 1 = .ok (.bipush (-8), 2) := by decide +kernel
theorem d_Kp_isItem_3 : decode b_Kp_isItem 3 = .ok (.if_icmp .lt 13, 3) := by decide +kernel
theorem d_Kp_isItem_6 : decode b_Kp_isItem 6 = .ok (.iload_n 0, 1) := by decide +kernel
theorem d_Kp_isItem_7 : decode b_Kp_isItem 7 = .ok (.bipush 32, 2) := by decide +kernel
theorem d_Kp_isItem_9 : decode b_Kp_isItem 9 = .ok (.if_icmp .ge 7, 3) := by decide +kernel
theorem d_Kp_isItem_12 : decode b_Kp_isItem 12 = .ok (.iconst 1, 1) := by decide +kernel
theorem d_Kp_isItem_13 : decode b_Kp_isItem 13 = .ok (.goto 4, 3) := by decide +kernel
theorem d_Kp_isItem_16 : decode b_Kp_isItem 16 = .ok (.iconst 0, 1) := by decide +kernel
theorem d_Kp_isItem_17 : decode b_Kp_isItem 17 = .ok (.ireturn, 1) := by decide +kernel
theorem d_Kp_isPattern_0 : decode b_Kp_isPattern 0 = .ok (.iload_n 0, 1) := by decide +kernel
theorem d_Kp_isPattern_1 : decode b_Kp_isPattern 1 = .ok (.invokestatic 116, 3) := by decide +kernel
theorem d_Kp_isPattern_4 : decode b_Kp_isPattern 4 = .ok (.ifCond .eq 21, 3) := by decide +kernel
theorem d_Kp_isPattern_7 : decode b_Kp_isPattern 7 = .ok (.iload_n 1, 1) := by decide +kernel
theorem d_Kp_isPattern_8 : decode b_Kp_isPattern 8 = .ok (.invokestatic 116, 3) := by decide +kernel
theorem d_Kp_isPattern_11 : decode b_Kp_isPattern 11 = .ok (.ifCond .eq 14, 3) := by decide +kernel
theorem d_Kp_isPattern_14 : decode b_Kp_isPattern 14 = .ok (.iload_n 2, 1) := by decide +kernel
theorem d_Kp_isPattern_15 : decode b_Kp_isPattern 15 = .ok (.invokestatic 116, 3) := by decide +kernel
theorem d_Kp_isPattern_18 : decode b_Kp_isPattern 18 = .ok (.ifCond .eq 7, 3) := by decide +kernel
theorem d_Kp_isPattern_21 : decode b_Kp_isPattern 21 = .ok (.iconst 1, 1) := by decide +kernel
theorem d_Kp_isPattern_22 : decode b_Kp_isPattern 22 = .ok (.goto 4, 3) := by decide +kernel
theorem d_Kp_isPattern_25 : decode b_Kp_isPattern 25 = .ok (.iconst 0, 1) := by decide +kernel
theorem d_Kp_isPattern_26 : decode b_Kp_isPattern 26 = .ok (.ireturn, 1) := by decide +kernel
theorem d_Kp_codeOf_0 : decode b_Kp_codeOf 0 = .ok (.iload_n 0, 1) := by decide +kernel
theorem d_Kp_codeOf_1 : decode b_Kp_codeOf 1 = .ok (.bipush 32, 2) := by decide +kernel
theorem d_Kp_codeOf_3 : decode b_Kp_codeOf 3 = .ok (.imul, 1) := by decide +kernel
theorem d_Kp_codeOf_4 : decode b_Kp_codeOf 4 = .ok (.iload_n 1, 1) := by decide +kernel
theorem d_Kp_codeOf_5 : decode b_Kp_codeOf 5 = .ok (.iadd, 1) := by decide +kernel
theorem d_Kp_codeOf_6 : decode b_Kp_codeOf 6 = .ok (.bipush 32, 2) := by decide +kernel
theorem d_Kp_codeOf_8 : decode b_Kp_codeOf 8 = .ok (.imul, 1) := by decide +kernel
theorem d_Kp_codeOf_9 : decode b_Kp_codeOf 9 = .ok (.iload_n 2, 1) := by decide +kernel
theorem d_Kp_codeOf_10 : decode b_Kp_codeOf 10 = .ok (.iadd, 1) := by decide +kernel
theorem d_Kp_codeOf_11 : decode b_Kp_codeOf 11 = .ok (.ireturn, 1) := by decide +kernel
theorem d_Kp_draftIsRule_0 : decode b_Kp_draftIsRule 0 = .ok (.aload_n 0, 1) := by decide +kernel
theorem d_Kp_draftIsRule_1 : decode b_Kp_draftIsRule 1 = .ok (.getfield 44, 3) := by decide +kernel
theorem d_Kp_draftIsRule_4 : decode b_Kp_draftIsRule 4 = .ok (.iconst 2, 1) := by decide +kernel
theorem d_Kp_draftIsRule_5 : decode b_Kp_draftIsRule 5 = .ok (.if_icmp .ge 5, 3) := by decide +kernel
theorem d_Kp_draftIsRule_8 : decode b_Kp_draftIsRule 8 = .ok (.iconst 0, 1) := by decide +kernel
theorem d_Kp_draftIsRule_9 : decode b_Kp_draftIsRule 9 = .ok (.ireturn, 1) := by decide +kernel
theorem d_Kp_draftIsRule_10 : decode b_Kp_draftIsRule 10 = .ok (.aload_n 0, 1) := by decide +kernel
theorem d_Kp_draftIsRule_11 : decode b_Kp_draftIsRule 11 = .ok (.getfield 44, 3) := by decide +kernel
theorem d_Kp_draftIsRule_14 : decode b_Kp_draftIsRule 14 = .ok (.iconst 1, 1) := by decide +kernel
theorem d_Kp_draftIsRule_15 : decode b_Kp_draftIsRule 15 = .ok (.isub, 1) := by decide +kernel
theorem d_Kp_draftIsRule_16 : decode b_Kp_draftIsRule 16 = .ok (.istore_n 1, 1) := by decide +kernel
theorem d_Kp_draftIsRule_17 : decode b_Kp_draftIsRule 17 = .ok (.iconst 0, 1) := by decide +kernel
theorem d_Kp_draftIsRule_18 : decode b_Kp_draftIsRule 18 = .ok (.istore_n 2, 1) := by decide +kernel
theorem d_Kp_draftIsRule_19 : decode b_Kp_draftIsRule 19 = .ok (.iconst 0, 1) := by decide +kernel
theorem d_Kp_draftIsRule_20 : decode b_Kp_draftIsRule 20 = .ok (.istore_n 3, 1) := by decide +kernel
theorem d_Kp_draftIsRule_21 : decode b_Kp_draftIsRule 21 = .ok (.iload_n 3, 1) := by decide +kernel
theorem d_Kp_draftIsRule_22 : decode b_Kp_draftIsRule 22 = .ok (.iload_n 1, 1) := by decide +kernel
theorem d_Kp_draftIsRule_23 : decode b_Kp_draftIsRule 23 = .ok (.if_icmp .ge 21, 3) := by decide +kernel
theorem d_Kp_draftIsRule_26 : decode b_Kp_draftIsRule 26 = .ok (.iload_n 2, 1) := by decide +kernel
theorem d_Kp_draftIsRule_27 : decode b_Kp_draftIsRule 27 = .ok (.aload_n 0, 1) := by decide +kernel
theorem d_Kp_draftIsRule_28 : decode b_Kp_draftIsRule 28 = .ok (.getfield 30, 3) := by decide +kernel
theorem d_Kp_draftIsRule_31 : decode b_Kp_draftIsRule 31 = .ok (.iload_n 3, 1) := by decide +kernel
theorem d_Kp_draftIsRule_32 : decode b_Kp_draftIsRule 32 = .ok (.aaload, 1) := by decide +kernel
theorem d_Kp_draftIsRule_33 : decode b_Kp_draftIsRule 33 = .ok (.getfield 119, 3) := by decide +kernel
theorem d_Kp_draftIsRule_36 : decode b_Kp_draftIsRule 36 = .ok (.ior, 1) := by decide +kernel
theorem d_Kp_draftIsRule_37 : decode b_Kp_draftIsRule 37 = .ok (.istore_n 2, 1) := by decide +kernel
theorem d_Kp_draftIsRule_38 : decode b_Kp_draftIsRule 38 = .ok (.iinc 3 1, 3) := by decide +kernel
theorem d_Kp_draftIsRule_41 : decode b_Kp_draftIsRule 41 = .ok (.goto (-20), 3) := by decide +kernel
theorem d_Kp_draftIsRule_44 : decode b_Kp_draftIsRule 44 = .ok (.aload_n 0, 1) := by decide +kernel
theorem d_Kp_draftIsRule_45 : decode b_Kp_draftIsRule 45 = .ok (.getfield 30, 3) := by decide +kernel
theorem d_Kp_draftIsRule_48 : decode b_Kp_draftIsRule 48 = .ok (.iload_n 1, 1) := by decide +kernel
theorem d_Kp_draftIsRule_49 : decode b_Kp_draftIsRule 49 = .ok (.aaload, 1) := by decide +kernel
theorem d_Kp_draftIsRule_50 : decode b_Kp_draftIsRule 50 = .ok (.getfield 119, 3) := by decide +kernel
theorem d_Kp_draftIsRule_53 : decode b_Kp_draftIsRule 53 = .ok (.iload_n 2, 1) := by decide +kernel
theorem d_Kp_draftIsRule_54 : decode b_Kp_draftIsRule 54 = .ok (.iconst (-1), 1) := by decide +kernel
theorem d_Kp_draftIsRule_55 : decode b_Kp_draftIsRule 55 = .ok (.ixor, 1) := by decide +kernel
theorem d_Kp_draftIsRule_56 : decode b_Kp_draftIsRule 56 = .ok (.iand, 1) := by decide +kernel
theorem d_Kp_draftIsRule_57 : decode b_Kp_draftIsRule 57 = .ok (.ifCond .ne 7, 3) := by decide +kernel
theorem d_Kp_draftIsRule_60 : decode b_Kp_draftIsRule 60 = .ok (.iconst 1, 1) := by decide +kernel
theorem d_Kp_draftIsRule_61 : decode b_Kp_draftIsRule 61 = .ok (.goto 4, 3) := by decide +kernel
theorem d_Kp_draftIsRule_64 : decode b_Kp_draftIsRule 64 = .ok (.iconst 0, 1) := by decide +kernel
theorem d_Kp_draftIsRule_65 : decode b_Kp_draftIsRule 65 = .ok (.ireturn, 1) := by decide +kernel
theorem d_Kp_ruleOfDraft_0 : decode b_Kp_ruleOfDraft 0 = .ok (.aload_n 0, 1) := by decide +kernel
theorem d_Kp_ruleOfDraft_1 : decode b_Kp_ruleOfDraft 1 = .ok (.getfield 44, 3) := by decide +kernel
theorem d_Kp_ruleOfDraft_4 : decode b_Kp_ruleOfDraft 4 = .ok (.iconst 1, 1) := by decide +kernel
theorem d_Kp_ruleOfDraft_5 : decode b_Kp_ruleOfDraft 5 = .ok (.isub, 1) := by decide +kernel
theorem d_Kp_ruleOfDraft_6 : decode b_Kp_ruleOfDraft 6 = .ok (.iconst 0, 1) := by decide +kernel
theorem d_Kp_ruleOfDraft_7 : decode b_Kp_ruleOfDraft 7 = .ok (.invokestatic 122, 3) := by decide +kernel
theorem d_Kp_ruleOfDraft_10 : decode b_Kp_ruleOfDraft 10 = .ok (.istore_n 1, 1) := by decide +kernel
theorem d_Kp_ruleOfDraft_11 : decode b_Kp_ruleOfDraft 11 = .ok (.iload_n 1, 1) := by decide +kernel
theorem d_Kp_ruleOfDraft_12 : decode b_Kp_ruleOfDraft 12 = .ok (.anewarray 28, 3) := by decide +kernel
theorem d_Kp_ruleOfDraft_15 : decode b_Kp_ruleOfDraft 15 = .ok (.astore_n 2, 1) := by decide +kernel
theorem d_Kp_ruleOfDraft_16 : decode b_Kp_ruleOfDraft 16 = .ok (.iconst 0, 1) := by decide +kernel
theorem d_Kp_ruleOfDraft_17 : decode b_Kp_ruleOfDraft 17 = .ok (.istore_n 3, 1) := by decide +kernel
theorem d_Kp_ruleOfDraft_18 : decode b_Kp_ruleOfDraft 18 = .ok (.iload_n 3, 1) := by decide +kernel
theorem d_Kp_ruleOfDraft_19 : decode b_Kp_ruleOfDraft 19 = .ok (.iload_n 1, 1) := by decide +kernel
theorem d_Kp_ruleOfDraft_20 : decode b_Kp_ruleOfDraft 20 = .ok (.if_icmp .ge 18, 3) := by decide +kernel
theorem d_Kp_ruleOfDraft_23 : decode b_Kp_ruleOfDraft 23 = .ok (.aload_n 2, 1) := by decide +kernel
theorem d_Kp_ruleOfDraft_24 : decode b_Kp_ruleOfDraft 24 = .ok (.iload_n 3, 1) := by decide +kernel
theorem d_Kp_ruleOfDraft_25 : decode b_Kp_ruleOfDraft 25 = .ok (.aload_n 0, 1) := by decide +kernel
theorem d_Kp_ruleOfDraft_26 : decode b_Kp_ruleOfDraft 26 = .ok (.getfield 30, 3) := by decide +kernel
theorem d_Kp_ruleOfDraft_29 : decode b_Kp_ruleOfDraft 29 = .ok (.iload_n 3, 1) := by decide +kernel
theorem d_Kp_ruleOfDraft_30 : decode b_Kp_ruleOfDraft 30 = .ok (.aaload, 1) := by decide +kernel
theorem d_Kp_ruleOfDraft_31 : decode b_Kp_ruleOfDraft 31 = .ok (.aastore, 1) := by decide +kernel
theorem d_Kp_ruleOfDraft_32 : decode b_Kp_ruleOfDraft 32 = .ok (.iinc 3 1, 3) := by decide +kernel
theorem d_Kp_ruleOfDraft_35 : decode b_Kp_ruleOfDraft 35 = .ok (.goto (-17), 3) := by decide +kernel
theorem d_Kp_ruleOfDraft_38 : decode b_Kp_ruleOfDraft 38 = .ok (.new 34, 3) := by decide +kernel
theorem d_Kp_ruleOfDraft_41 : decode b_Kp_ruleOfDraft 41 = .ok (.dup, 1) := by decide +kernel
theorem d_Kp_ruleOfDraft_42 : decode b_Kp_ruleOfDraft 42 = .ok (.aload_n 2, 1) := by decide +kernel
theorem d_Kp_ruleOfDraft_43 : decode b_Kp_ruleOfDraft 43 = .ok (.aload_n 0, 1) := by decide +kernel
theorem d_Kp_ruleOfDraft_44 : decode b_Kp_ruleOfDraft 44 = .ok (.getfield 30, 3) := by decide +kernel
theorem d_Kp_ruleOfDraft_47 : decode b_Kp_ruleOfDraft 47 = .ok (.iload_n 1, 1) := by decide +kernel
theorem d_Kp_ruleOfDraft_48 : decode b_Kp_ruleOfDraft 48 = .ok (.aaload, 1) := by decide +kernel
theorem d_Kp_ruleOfDraft_49 : decode b_Kp_ruleOfDraft 49 = .ok (.invokespecial 50, 3) := by decide +kernel
theorem d_Kp_ruleOfDraft_52 : decode b_Kp_ruleOfDraft 52 = .ok (.areturn, 1) := by decide +kernel
theorem d_Kp_hold_0 : decode b_Kp_hold 0 = .ok (.aload_n 0, 1) := by decide +kernel
theorem d_Kp_hold_1 : decode b_Kp_hold 1 = .ok (.getfield 20, 3) := by decide +kernel
theorem d_Kp_hold_4 : decode b_Kp_hold 4 = .ok (.getfield 88, 3) := by decide +kernel
theorem d_Kp_hold_7 : decode b_Kp_hold 7 = .ok (.istore_n 2, 1) := by decide +kernel
theorem d_Kp_hold_8 : decode b_Kp_hold 8 = .ok (.aload_n 0, 1) := by decide +kernel
theorem d_Kp_hold_9 : decode b_Kp_hold 9 = .ok (.getfield 20, 3) := by decide +kernel
theorem d_Kp_hold_12 : decode b_Kp_hold 12 = .ok (.iload_n 1, 1) := by decide +kernel
theorem d_Kp_hold_13 : decode b_Kp_hold 13 = .ok (.invokevirtual 128, 3) := by decide +kernel
theorem d_Kp_hold_16 : decode b_Kp_hold 16 = .ok (.ifCond .eq 14, 3) := by decide +kernel
theorem d_Kp_hold_19 : decode b_Kp_hold 19 = .ok (.aload_n 0, 1) := by decide +kernel
theorem d_Kp_hold_20 : decode b_Kp_hold 20 = .ok (.iload_n 2, 1) := by decide +kernel
theorem d_Kp_hold_21 : decode b_Kp_hold 21 = .ok (.iload_n 2, 1) := by decide +kernel
theorem d_Kp_hold_22 : decode b_Kp_hold 22 = .ok (.invokevirtual 95, 3) := by decide +kernel
theorem d_Kp_hold_25 : decode b_Kp_hold 25 = .ok (.ifCond .eq 5, 3) := by decide +kernel
theorem d_Kp_hold_28 : decode b_Kp_hold 28 = .ok (.iconst 1, 1) := by decide +kernel
theorem d_Kp_hold_29 : decode b_Kp_hold 29 = .ok (.ireturn, 1) := by decide +kernel
theorem d_Kp_hold_30 : decode b_Kp_hold 30 = .ok (.aload_n 0, 1) := by decide +kernel
theorem d_Kp_hold_31 : decode b_Kp_hold 31 = .ok (.getfield 20, 3) := by decide +kernel
theorem d_Kp_hold_34 : decode b_Kp_hold 34 = .ok (.iload_n 2, 1) := by decide +kernel
theorem d_Kp_hold_35 : decode b_Kp_hold 35 = .ok (.invokevirtual 99, 3) := by decide +kernel
theorem d_Kp_hold_38 : decode b_Kp_hold 38 = .ok (.iconst 0, 1) := by decide +kernel
theorem d_Kp_hold_39 : decode b_Kp_hold 39 = .ok (.ireturn, 1) := by decide +kernel
theorem d_Kp_holdAnew_0 : decode b_Kp_holdAnew 0 = .ok (.aload_n 0, 1) := by decide +kernel
theorem d_Kp_holdAnew_1 : decode b_Kp_holdAnew 1 = .ok (.getfield 20, 3) := by decide +kernel
theorem d_Kp_holdAnew_4 : decode b_Kp_holdAnew 4 = .ok (.aload_n 0, 1) := by decide +kernel
theorem d_Kp_holdAnew_5 : decode b_Kp_holdAnew 5 = .ok (.getfield 24, 3) := by decide +kernel
theorem d_Kp_holdAnew_8 : decode b_Kp_holdAnew 8 = .ok (.invokevirtual 131, 3) := by decide +kernel
theorem d_Kp_holdAnew_11 : decode b_Kp_holdAnew 11 = .ok (.aload_n 0, 1) := by decide +kernel
theorem d_Kp_holdAnew_12 : decode b_Kp_holdAnew 12 = .ok (.iconst 0, 1) := by decide +kernel
theorem d_Kp_holdAnew_13 : decode b_Kp_holdAnew 13 = .ok (.iconst 0, 1) := by decide +kernel
theorem d_Kp_holdAnew_14 : decode b_Kp_holdAnew 14 = .ok (.invokevirtual 95, 3) := by decide +kernel
theorem d_Kp_holdAnew_17 : decode b_Kp_holdAnew 17 = .ok (.pop, 1) := by decide +kernel
theorem d_Kp_holdAnew_18 : decode b_Kp_holdAnew 18 = .ok (.return_, 1) := by decide +kernel
theorem d_Kp_follow_0 : decode b_Kp_follow 0 = .ok (.iload_n 1, 1) := by decide +kernel
theorem d_Kp_follow_1 : decode b_Kp_follow 1 = .ok (.istore_n 3, 1) := by decide +kernel
theorem d_Kp_follow_2 : decode b_Kp_follow 2 = .ok (.iload_n 3, 1) := by decide +kernel
theorem d_Kp_follow_3 : decode b_Kp_follow 3 = .ok (.aload_n 0, 1) := by decide +kernel
theorem d_Kp_follow_4 : decode b_Kp_follow 4 = .ok (.getfield 20, 3) := by decide +kernel
theorem d_Kp_follow_7 : decode b_Kp_follow 7 = .ok (.getfield 88, 3) := by decide +kernel
theorem d_Kp_follow_10 : decode b_Kp_follow 10 = .ok (.if_icmp .ge 102, 3) := by decide +kernel
theorem d_Kp_follow_13 : decode b_Kp_follow 13 = .ok (.iload_n 3, 1) := by decide +kernel
theorem d_Kp_follow_14 : decode b_Kp_follow 14 = .ok (.sipush 300, 3) := by decide +kernel
theorem d_Kp_follow_17 : decode b_Kp_follow 17 = .ok (.if_icmp .ge 95, 3) := by decide +kernel
theorem d_Kp_follow_20 : decode b_Kp_follow 20 = .ok (.iload_n 3, 1) := by decide +kernel
theorem d_Kp_follow_21 : decode b_Kp_follow 21 = .ok (.iload_n 2, 1) := by decide +kernel
theorem d_Kp_follow_22 : decode b_Kp_follow 22 = .ok (.if_icmp .ge 16, 3) := by decide +kernel
theorem d_Kp_follow_25 : decode b_Kp_follow 25 = .ok (.aload_n 0, 1) := by decide +kernel
theorem d_Kp_follow_26 : decode b_Kp_follow 26 = .ok (.getfield 40, 3) := by decide +kernel
theorem d_Kp_follow_29 : decode b_Kp_follow 29 = .ok (.iconst 1, 1) := by decide +kernel
theorem d_Kp_follow_30 : decode b_Kp_follow 30 = .ok (.isub, 1) := by decide +kernel
theorem d_Kp_follow_31 : decode b_Kp_follow 31 = .ok (.iconst 0, 1) := by decide +kernel
theorem d_Kp_follow_32 : decode b_Kp_follow 32 = .ok (.invokestatic 122, 3) := by decide +kernel
theorem d_Kp_follow_35 : decode b_Kp_follow 35 = .ok (.goto 4, 3) := by decide +kernel
theorem d_Kp_follow_38 : decode b_Kp_follow 38 = .ok (.iconst 0, 1) := by decide +kernel
theorem d_Kp_follow_39 : decode b_Kp_follow 39 = .ok (.istore 4, 2) := by decide +kernel
theorem d_Kp_follow_41 : decode b_Kp_follow 41 = .ok (.iload 4, 2) := by decide +kernel
theorem d_Kp_follow_43 : decode b_Kp_follow 43 = .ok (.istore 5, 2) := by decide +kernel
theorem d_Kp_follow_45 : decode b_Kp_follow 45 = .ok (.iload 5, 2) := by decide +kernel
theorem d_Kp_follow_47 : decode b_Kp_follow 47 = .ok (.aload_n 0, 1) := by decide +kernel
theorem d_Kp_follow_48 : decode b_Kp_follow 48 = .ok (.getfield 40, 3) := by decide +kernel
theorem d_Kp_follow_51 : decode b_Kp_follow 51 = .ok (.if_icmp .ge 55, 3) := by decide +kernel
theorem d_Kp_follow_54 : decode b_Kp_follow 54 = .ok (.aload_n 0, 1) := by decide +kernel
theorem d_Kp_follow_55 : decode b_Kp_follow 55 = .ok (.getfield 36, 3) := by decide +kernel
theorem d_Kp_follow_58 : decode b_Kp_follow 58 = .ok (.iload 5, 2) := by decide +kernel
theorem d_Kp_follow_60 : decode b_Kp_follow 60 = .ok (.aaload, 1) := by decide +kernel
theorem d_Kp_follow_61 : decode b_Kp_follow 61 = .ok (.astore 6, 2) := by decide +kernel
theorem d_Kp_follow_63 : decode b_Kp_follow 63 = .ok (.iconst 0, 1) := by decide +kernel
theorem d_Kp_follow_64 : decode b_Kp_follow 64 = .ok (.istore 7, 2) := by decide +kernel
theorem d_Kp_follow_66 : decode b_Kp_follow 66 = .ok (.iload 7, 2) := by decide +kernel
theorem d_Kp_follow_68 : decode b_Kp_follow 68 = .ok (.aload 6, 2) := by decide +kernel
theorem d_Kp_follow_70 : decode b_Kp_follow 70 = .ok (.getfield 135, 3) := by decide +kernel
theorem d_Kp_follow_73 : decode b_Kp_follow 73 = .ok (.arraylength, 1) := by decide +kernel
theorem d_Kp_follow_74 : decode b_Kp_follow 74 = .ok (.if_icmp .ge 26, 3) := by decide +kernel
theorem d_Kp_follow_77 : decode b_Kp_follow 77 = .ok (.aload_n 0, 1) := by decide +kernel
theorem d_Kp_follow_78 : decode b_Kp_follow 78 = .ok (.getfield 12, 3) := by decide +kernel
theorem d_Kp_follow_81 : decode b_Kp_follow 81 = .ok (.aload 6, 2) := by decide +kernel
theorem d_Kp_follow_83 : decode b_Kp_follow 83 = .ok (.iload 7, 2) := by decide +kernel
theorem d_Kp_follow_85 : decode b_Kp_follow 85 = .ok (.iload_n 3, 1) := by decide +kernel
theorem d_Kp_follow_86 : decode b_Kp_follow 86 = .ok (.invokevirtual 138, 3) := by decide +kernel
theorem d_Kp_follow_89 : decode b_Kp_follow 89 = .ok (.ifCond .ne 5, 3) := by decide +kernel
theorem d_Kp_follow_92 : decode b_Kp_follow 92 = .ok (.iconst 0, 1) := by decide +kernel
theorem d_Kp_follow_93 : decode b_Kp_follow 93 = .ok (.ireturn, 1) := by decide +kernel
theorem d_Kp_follow_94 : decode b_Kp_follow 94 = .ok (.iinc 7 1, 3) := by decide +kernel
theorem d_Kp_follow_97 : decode b_Kp_follow 97 = .ok (.goto (-31), 3) := by decide +kernel
theorem d_Kp_follow_100 : decode b_Kp_follow 100 = .ok (.iinc 5 1, 3) := by decide +kernel
theorem d_Kp_follow_103 : decode b_Kp_follow 103 = .ok (.goto (-58), 3) := by decide +kernel
theorem d_Kp_follow_106 : decode b_Kp_follow 106 = .ok (.iinc 3 1, 3) := by decide +kernel
theorem d_Kp_follow_109 : decode b_Kp_follow 109 = .ok (.goto (-107), 3) := by decide +kernel
theorem d_Kp_follow_112 : decode b_Kp_follow 112 = .ok (.iconst 1, 1) := by decide +kernel
theorem d_Kp_follow_113 : decode b_Kp_follow 113 = .ok (.ireturn, 1) := by decide +kernel
end
section
theorem d_Md_init_0 : decode b_Md_init 0 = .ok (.aload_n 0, 1) := by decide +kernel
theorem d_Md_init_1 : decode b_Md_init 1 = .ok (.invokespecial 1, 3) := by decide +kernel
theorem d_Md_init_4 : decode b_Md_init 4 = .ok (.aload_n 0, 1) := by decide +kernel
theorem d_Md_init_5 : decode b_Md_init 5 = .ok (.ldc 7, 2) := by decide +kernel
theorem d_Md_init_7 : decode b_Md_init 7 = .ok (.newarray .boolean, 2) := by decide +kernel
theorem d_Md_init_9 : decode b_Md_init 9 = .ok (.putfield 8, 3) := by decide +kernel
theorem d_Md_init_12 : decode b_Md_init 12 = .ok (.aload_n 0, 1) := by decide +kernel
theorem d_Md_init_13 : decode b_Md_init 13 = .ok (.ldc 7, 2) := by decide +kernel
theorem d_Md_init_15 : decode b_Md_init 15 = .ok (.newarray .boolean, 2) := by decide +kernel
theorem d_Md_init_17 : decode b_Md_init 17 = .ok (.putfield 14, 3) := by decide +kernel
theorem d_Md_init_20 : decode b_Md_init 20 = .ok (.aload_n 0, 1) := by decide +kernel
theorem d_Md_init_21 : decode b_Md_init 21 = .ok (.ldc 7, 2) := by decide +kernel
theorem d_Md_init_23 : decode b_Md_init 23 = .ok (.newarray .int, 2) := by decide +kernel
theorem d_Md_init_25 : decode b_Md_init 25 = .ok (.putfield 17, 3) := by decide +kernel
theorem d_Md_init_28 : decode b_Md_init 28 = .ok (.aload_n 0, 1) := by decide +kernel
theorem d_Md_init_29 : decode b_Md_init 29 = .ok (.sipush 301, 3) := by decide +kernel
theorem d_Md_init_32 : decode b_Md_init 32 = .ok (.newarray .int, 2) := by decide +kernel
theorem d_Md_init_34 : decode b_Md_init 34 = .ok (.putfield 21, 3) := by decide +kernel
theorem d_Md_init_37 : decode b_Md_init 37 = .ok (.aload_n 0, 1) := by decide +kernel
theorem d_Md_init_38 : decode b_Md_init 38 = .ok (.sipush 156, 3) := by decide +kernel
theorem d_Md_init_41 : decode b_Md_init 41 = .ok (.newarray .int, 2) := by decide +kernel
theorem d_Md_init_43 : decode b_Md_init 43 = .ok (.putfield 24, 3) := by decide +kernel
theorem d_Md_init_46 : decode b_Md_init 46 = .ok (.aload_n 0, 1) := by decide +kernel
theorem d_Md_init_47 : decode b_Md_init 47 = .ok (.bipush 13, 2) := by decide +kernel
theorem d_Md_init_49 : decode b_Md_init 49 = .ok (.newarray .int, 2) := by decide +kernel
theorem d_Md_init_51 : decode b_Md_init 51 = .ok (.putfield 27, 3) := by decide +kernel
theorem d_Md_init_54 : decode b_Md_init 54 = .ok (.aload_n 0, 1) := by decide +kernel
theorem d_Md_init_55 : decode b_Md_init 55 = .ok (.bipush 12, 2) := by decide +kernel
theorem d_Md_init_57 : decode b_Md_init 57 = .ok (.newarray .int, 2) := by decide +kernel
theorem d_Md_init_59 : decode b_Md_init 59 = .ok (.putfield 30, 3) := by decide +kernel
theorem d_Md_init_62 : decode b_Md_init 62 = .ok (.aload_n 0, 1) := by decide +kernel
theorem d_Md_init_63 : decode b_Md_init 63 = .ok (.bipush 9, 2) := by decide +kernel
theorem d_Md_init_65 : decode b_Md_init 65 = .ok (.newarray .int, 2) := by decide +kernel
theorem d_Md_init_67 : decode b_Md_init 67 = .ok (.putfield 33, 3) := by decide +kernel
theorem d_Md_init_70 : decode b_Md_init 70 = .ok (.aload_n 0, 1) := by decide +kernel
theorem d_Md_init_71 : decode b_Md_init 71 = .ok (.bipush 9, 2) := by decide +kernel
theorem d_Md_init_73 : decode b_Md_init 73 = .ok (.newarray .int, 2) := by decide +kernel
theorem d_Md_init_75 : decode b_Md_init 75 = .ok (.putfield 36, 3) := by decide +kernel
theorem d_Md_init_78 : decode b_Md_init 78 = .ok (.aload_n 0, 1) := by decide +kernel
theorem d_Md_init_79 : decode b_Md_init 79 = .ok (.iconst 3, 1) := by decide +kernel
theorem d_Md_init_80 : decode b_Md_init 80 = .ok (.newarray .int, 2) := by decide +kernel
theorem d_Md_init_82 : decode b_Md_init 82 = .ok (.putfield 39, 3) := by decide +kernel
theorem d_Md_init_85 : decode b_Md_init 85 = .ok (.aload_n 0, 1) := by decide +kernel
theorem d_Md_init_86 : decode b_Md_init 86 = .ok (.iconst 3, 1) := by decide +kernel
theorem d_Md_init_87 : decode b_Md_init 87 = .ok (.newarray .int, 2) := by decide +kernel
theorem d_Md_init_89 : decode b_Md_init 89 = .ok (.putfield 42, 3) := by decide +kernel
theorem d_Md_init_92 : decode b_Md_init 92 = .ok (.return_, 1) := by decide +kernel
theorem d_Md_isNumber_0 : decode b_Md_isNumber 0 = .ok (.iload_n 0, 1) := by decide +kernel
theorem d_Md_isNumber_1 : decode b_Md_isNumber 1 = .ok (.ifCond .lt 13, 3) := by decide +kernel
theorem d_Md_isNumber_4 : decode b_Md_isNumber 4 = .ok (.iload_n 0, 1) := by decide +kernel
theorem d_Md_isNumber_5 : decode b_Md_isNumber 5 = .ok (.bipush 32, 2) := by decide +kernel
theorem d_Md_isNumber_7 : decode b_Md_isNumber 7 = .ok (.if_icmp .ge 7, 3) := by decide +kernel
theorem d_Md_isNumber_10 : decode b_Md_isNumber 10 = .ok (.iconst 1, 1) := by decide +kernel
theorem d_Md_isNumber_11 : decode b_Md_isNumber 11 = .ok (.goto 4, 3) := by decide +kernel
theorem d_Md_isNumber_14 : decode b_Md_isNumber 14 = .ok (.iconst 0, 1) := by decide +kernel
theorem d_Md_isNumber_15 : decode b_Md_isNumber 15 = .ok (.ireturn, 1) := by decide +kernel
theorem d_Md_isItem_0 : decode b_Md_isItem 0 = .ok (.iload_n 0, 1) := by decide +kernel
theorem d_Md_isItem_1 : decode b_Md_isItem 1 = .ok (.bipush (-8), 2) := by decide +kernel
theorem d_Md_isItem_3 : decode b_Md_isItem 3 = .ok (.if_icmp .lt 13, 3) := by decide +kernel
theorem d_Md_isItem_6 : decode b_Md_isItem 6 = .ok (.iload_n 0, 1) := by decide +kernel
theorem d_Md_isItem_7 : decode b_Md_isItem 7 = .ok (.bipush 32, 2) := by decide +kernel
theorem d_Md_isItem_9 : decode b_Md_isItem 9 = .ok (.if_icmp .ge 7, 3) := by decide +kernel
theorem d_Md_isItem_12 : decode b_Md_isItem 12 = .ok (.iconst 1, 1) := by decide +kernel
theorem d_Md_isItem_13 : decode b_Md_isItem 13 = .ok (.goto 4, 3) := by decide +kernel
theorem d_Md_isItem_16 : decode b_Md_isItem 16 = .ok (.iconst 0, 1) := by decide +kernel
theorem d_Md_isItem_17 : decode b_Md_isItem 17 = .ok (.ireturn, 1) := by decide +kernel
theorem d_Md_code_0 : decode b_Md_code 0 = .ok (.sipush 1024, 3) := by decide +kernel
theorem d_Md_code_3 : decode b_Md_code 3 = .ok (.iload_n 0, 1) := by decide +kernel
theorem d_Md_code_4 : decode b_Md_code 4 = .ok (.imul, 1) := by decide +kernel
theorem d_Md_code_5 : decode b_Md_code 5 = .ok (.bipush 32, 2) := by decide +kernel
theorem d_Md_code_7 : decode b_Md_code 7 = .ok (.iload_n 1, 1) := by decide +kernel
theorem d_Md_code_8 : decode b_Md_code 8 = .ok (.imul, 1) := by decide +kernel
theorem d_Md_code_9 : decode b_Md_code 9 = .ok (.iadd, 1) := by decide +kernel
theorem d_Md_code_10 : decode b_Md_code 10 = .ok (.iload_n 2, 1) := by decide +kernel
theorem d_Md_code_11 : decode b_Md_code 11 = .ok (.iadd, 1) := by decide +kernel
theorem d_Md_code_12 : decode b_Md_code 12 = .ok (.ireturn, 1) := by decide +kernel
theorem d_Md_part_0 : decode b_Md_part 0 = .ok (.iload_n 1, 1) := by decide +kernel
theorem d_Md_part_1 : decode b_Md_part 1 = .ok (.ifCond .ne 11, 3) := by decide +kernel
theorem d_Md_part_4 : decode b_Md_part 4 = .ok (.iload_n 0, 1) := by decide +kernel
theorem d_Md_part_5 : decode b_Md_part 5 = .ok (.sipush 1024, 3) := by decide +kernel
theorem d_Md_part_8 : decode b_Md_part 8 = .ok (.idiv, 1) := by decide +kernel
theorem d_Md_part_9 : decode b_Md_part 9 = .ok (.goto 22, 3) := by decide +kernel
theorem d_Md_part_12 : decode b_Md_part 12 = .ok (.iload_n 1, 1) := by decide +kernel
theorem d_Md_part_13 : decode b_Md_part 13 = .ok (.iconst 1, 1) := by decide +kernel
theorem d_Md_part_14 : decode b_Md_part 14 = .ok (.if_icmp .ne 13, 3) := by decide +kernel
theorem d_Md_part_17 : decode b_Md_part 17 = .ok (.iload_n 0, 1) := by decide +kernel
theorem d_Md_part_18 : decode b_Md_part 18 = .ok (.bipush 32, 2) := by decide +kernel
theorem d_Md_part_20 : decode b_Md_part 20 = .ok (.idiv, 1) := by decide +kernel
theorem d_Md_part_21 : decode b_Md_part 21 = .ok (.bipush 32, 2) := by decide +kernel
theorem d_Md_part_23 : decode b_Md_part 23 = .ok (.irem, 1) := by decide +kernel
theorem d_Md_part_24 : decode b_Md_part 24 = .ok (.goto 7, 3) := by decide +kernel
theorem d_Md_part_27 : decode b_Md_part 27 = .ok (.iload_n 0, 1) := by decide +kernel
theorem d_Md_part_28 : decode b_Md_part 28 = .ok (.bipush 32, 2) := by decide +kernel
theorem d_Md_part_30 : decode b_Md_part 30 = .ok (.irem, 1) := by decide +kernel
theorem d_Md_part_31 : decode b_Md_part 31 = .ok (.ireturn, 1) := by decide +kernel
theorem d_Md_bind_0 : decode b_Md_bind 0 = .ok (.iconst 0, 1) := by decide +kernel
theorem d_Md_bind_1 : decode b_Md_bind 1 = .ok (.istore 4, 2) := by decide +kernel
theorem d_Md_bind_3 : decode b_Md_bind 3 = .ok (.iload 4, 2) := by decide +kernel
theorem d_Md_bind_5 : decode b_Md_bind 5 = .ok (.iconst 3, 1) := by decide +kernel
theorem d_Md_bind_6 : decode b_Md_bind 6 = .ok (.if_icmp .ge 118, 3) := by decide +kernel
theorem d_Md_bind_9 : decode b_Md_bind 9 = .ok (.aload_n 1, 1) := by decide +kernel
theorem d_Md_bind_10 : decode b_Md_bind 10 = .ok (.iload_n 2, 1) := by decide +kernel
theorem d_Md_bind_11 : decode b_Md_bind 11 = .ok (.iload 4, 2) := by decide +kernel
theorem d_Md_bind_13 : decode b_Md_bind 13 = .ok (.iadd, 1) := by decide +kernel
theorem d_Md_bind_14 : decode b_Md_bind 14 = .ok (.iaload, 1) := by decide +kernel
theorem d_Md_bind_15 : decode b_Md_bind 15 = .ok (.istore 5, 2) := by decide +kernel
theorem d_Md_bind_17 : decode b_Md_bind 17 = .ok (.iload_n 3, 1) := by decide +kernel
theorem d_Md_bind_18 : decode b_Md_bind 18 = .ok (.iload 4, 2) := by decide +kernel
theorem d_Md_bind_20 : decode b_Md_bind 20 = .ok (.invokestatic 45, 3) := by decide +kernel
theorem d_Md_bind_23 : decode b_Md_bind 23 = .ok (.istore 6, 2) := by decide +kernel
theorem d_Md_bind_25 : decode b_Md_bind 25 = .ok (.iload 5, 2) := by decide +kernel
theorem d_Md_bind_27 : decode b_Md_bind 27 = .ok (.ifCond .lt 18, 3) := by decide +kernel
theorem d_Md_bind_30 : decode b_Md_bind 30 = .ok (.iload 5, 2) := by decide +kernel
theorem d_Md_bind_32 : decode b_Md_bind 32 = .ok (.iload 6, 2) := by decide +kernel
theorem d_Md_bind_34 : decode b_Md_bind 34 = .ok (.if_icmp .ne 7, 3) := by decide +kernel
theorem d_Md_bind_37 : decode b_Md_bind 37 = .ok (.iconst 1, 1) := by decide +kernel
theorem d_Md_bind_38 : decode b_Md_bind 38 = .ok (.goto 36, 3) := by decide +kernel
theorem d_Md_bind_41 : decode b_Md_bind 41 = .ok (.iconst 0, 1) := by decide +kernel
theorem d_Md_bind_42 : decode b_Md_bind 42 = .ok (.goto 32, 3) := by decide +kernel
theorem d_Md_bind_45 : decode b_Md_bind 45 = .ok (.aload_n 0, 1) := by decide +kernel
theorem d_Md_bind_46 : decode b_Md_bind 46 = .ok (.getfield 36, 3) := by decide +kernel
theorem d_Md_bind_49 : decode b_Md_bind 49 = .ok (.iload 5, 2) := by decide +kernel
theorem d_Md_bind_51 : decode b_Md_bind 51 = .ok (.ineg, 1) := by decide +kernel
theorem d_Md_bind_52 : decode b_Md_bind 52 = .ok (.iaload, 1) := by decide +kernel
theorem d_Md_bind_53 : decode b_Md_bind 53 = .ok (.ifCond .eq 16, 3) := by decide +kernel
theorem d_Md_bind_56 : decode b_Md_bind 56 = .ok (.aload_n 0, 1) := by decide +kernel
theorem d_Md_bind_57 : decode b_Md_bind 57 = .ok (.getfield 33, 3) := by decide +kernel
theorem d_Md_bind_60 : decode b_Md_bind 60 = .ok (.iload 5, 2) := by decide +kernel
theorem d_Md_bind_62 : decode b_Md_bind 62 = .ok (.ineg, 1) := by decide +kernel
theorem d_Md_bind_63 : decode b_Md_bind 63 = .ok (.iaload, 1) := by decide +kernel
theorem d_Md_bind_64 : decode b_Md_bind 64 = .ok (.iload 6, 2) := by decide +kernel
theorem d_Md_bind_66 : decode b_Md_bind 66 = .ok (.if_icmp .ne 7, 3) := by decide +kernel
theorem d_Md_bind_69 : decode b_Md_bind 69 = .ok (.iconst 1, 1) := by decide +kernel
theorem d_Md_bind_70 : decode b_Md_bind 70 = .ok (.goto 4, 3) := by decide +kernel
theorem d_Md_bind_73 : decode b_Md_bind 73 = .ok (.iconst 0, 1) := by decide +kernel
theorem d_Md_bind_74 : decode b_Md_bind 74 = .ok (.istore 7, 2) := by decide +kernel
theorem d_Md_bind_76 : decode b_Md_bind 76 = .ok (.iload 7, 2) := by decide +kernel
theorem d_Md_bind_78 : decode b_Md_bind 78 = .ok (.ifCond .ne 13, 3) := by decide +kernel
theorem d_Md_bind_81 : decode b_Md_bind 81 = .ok (.aload_n 0, 1) := by decide +kernel
theorem d_Md_bind_82 : decode b_Md_bind 82 = .ok (.aload_n 1, 1) := by decide +kernel
theorem d_Md_bind_83 : decode b_Md_bind 83 = .ok (.iload_n 2, 1) := by decide +kernel
theorem d_Md_bind_84 : decode b_Md_bind 84 = .ok (.iload 4, 2) := by decide +kernel
theorem d_Md_bind_86 : decode b_Md_bind 86 = .ok (.invokevirtual 49, 3) := by decide +kernel
theorem d_Md_bind_89 : decode b_Md_bind 89 = .ok (.iconst 0, 1) := by decide +kernel
theorem d_Md_bind_90 : decode b_Md_bind 90 = .ok (.ireturn, 1) := by decide +kernel
theorem d_Md_bind_91 : decode b_Md_bind 91 = .ok (.iload 5, 2) := by decide +kernel
theorem d_Md_bind_93 : decode b_Md_bind 93 = .ok (.ifCond .ge 25, 3) := by decide +kernel
theorem d_Md_bind_96 : decode b_Md_bind 96 = .ok (.aload_n 0, 1) := by decide +kernel
theorem d_Md_bind_97 : decode b_Md_bind 97 = .ok (.getfield 33, 3) := by decide +kernel
theorem d_Md_bind_100 : decode b_Md_bind 100 = .ok (.iload 5, 2) := by decide +kernel
theorem d_Md_bind_102 : decode b_Md_bind 102 = .ok (.ineg, 1) := by decide +kernel
theorem d_Md_bind_103 : decode b_Md_bind 103 = .ok (.iload 6, 2) := by decide +kernel
theorem d_Md_bind_105 : decode b_Md_bind 105 = .ok (.iastore, 1) := by decide +kernel
theorem d_Md_bind_106 : decode b_Md_bind 106 = .ok (.aload_n 0, 1) := by decide +kernel
theorem d_Md_bind_107 : decode b_Md_bind 107 = .ok (.getfield 36, 3) := by decide +kernel
theorem d_Md_bind_110 : decode b_Md_bind 110 = .ok (.iload 5, 2) := by decide +kernel
theorem d_Md_bind_112 : decode b_Md_bind 112 = .ok (.ineg, 1) := by decide +kernel
theorem d_Md_bind_113 : decode b_Md_bind 113 = .ok (.dup2, 1) := by decide +kernel
theorem d_Md_bind_114 : decode b_Md_bind 114 = .ok (.iaload, 1) := by decide +kernel
theorem d_Md_bind_115 : decode b_Md_bind 115 = .ok (.iconst 1, 1) := by decide +kernel
theorem d_Md_bind_116 : decode b_Md_bind 116 = .ok (.iadd, 1) := by decide +kernel
theorem d_Md_bind_117 : decode b_Md_bind 117 = .ok (.iastore, 1) := by decide +kernel
theorem d_Md_bind_118 : decode b_Md_bind 118 = .ok (.iinc 4 1, 3) := by decide +kernel
theorem d_Md_bind_121 : decode b_Md_bind 121 = .ok (.goto (-118), 3) := by decide +kernel
theorem d_Md_bind_124 : decode b_Md_bind 124 = .ok (.iconst 1, 1) := by decide +kernel
theorem d_Md_bind_125 : decode b_Md_bind 125 = .ok (.ireturn, 1) := by decide +kernel
theorem d_Md_loosen_0 : decode b_Md_loosen 0 = .ok (.iconst 0, 1) := by decide +kernel
theorem d_Md_loosen_1 : decode b_Md_loosen 1 = .ok (.istore 4, 2) := by decide +kernel
theorem d_Md_loosen_3 : decode b_Md_loosen 3 = .ok (.iload 4, 2) := by decide +kernel
theorem d_Md_loosen_5 : decode b_Md_loosen 5 = .ok (.iload_n 3, 1) := by decide +kernel
theorem d_Md_loosen_6 : decode b_Md_loosen 6 = .ok (.if_icmp .ge 34, 3) := by decide +kernel
theorem d_Md_loosen_9 : decode b_Md_loosen 9 = .ok (.aload_n 1, 1) := by decide +kernel
theorem d_Md_loosen_10 : decode b_Md_loosen 10 = .ok (.iload_n 2, 1) := by decide +kernel
theorem d_Md_loosen_11 : decode b_Md_loosen 11 = .ok (.iload 4, 2) := by decide +kernel
theorem d_Md_loosen_13 : decode b_Md_loosen 13 = .ok (.iadd, 1) := by decide +kernel
theorem d_Md_loosen_14 : decode b_Md_loosen 14 = .ok (.iaload, 1) := by decide +kernel
theorem d_Md_loosen_15 : decode b_Md_loosen 15 = .ok (.ifCond .ge 19, 3) := by decide +kernel
theorem d_Md_loosen_18 : decode b_Md_loosen 18 = .ok (.aload_n 0, 1) := by decide +kernel
theorem d_Md_loosen_19 : decode b_Md_loosen 19 = .ok (.getfield 36, 3) := by decide +kernel
theorem d_Md_loosen_22 : decode b_Md_loosen 22 = .ok (.aload_n 1, 1) := by decide +kernel
theorem d_Md_loosen_23 : decode b_Md_loosen 23 = .ok (.iload_n 2, 1) := by decide +kernel
theorem d_Md_loosen_24 : decode b_Md_loosen 24 = .ok (.iload 4, 2) := by decide +kernel
theorem d_Md_loosen_26 : decode b_Md_loosen 26 = .ok (.iadd, 1) := by decide +kernel
theorem d_Md_loosen_27 : decode b_Md_loosen 27 = .ok (.iaload, 1) := by decide +kernel
theorem d_Md_loosen_28 : decode b_Md_loosen 28 = .ok (.ineg, 1) := by decide +kernel
theorem d_Md_loosen_29 : decode b_Md_loosen 29 = .ok (.dup2, 1) := by decide +kernel
theorem d_Md_loosen_30 : decode b_Md_loosen 30 = .ok (.iaload, 1) := by decide +kernel
theorem d_Md_loosen_31 : decode b_Md_loosen 31 = .ok (.iconst 1, 1) := by decide +kernel
theorem d_Md_loosen_32 : decode b_Md_loosen 32 = .ok (.isub, 1) := by decide +kernel
theorem d_Md_loosen_33 : decode b_Md_loosen 33 = .ok (.iastore, 1) := by decide +kernel
theorem d_Md_loosen_34 : decode b_Md_loosen 34 = .ok (.iinc 4 1, 3) := by decide +kernel
theorem d_Md_loosen_37 : decode b_Md_loosen 37 = .ok (.goto (-34), 3) := by decide +kernel
theorem d_Md_loosen_40 : decode b_Md_loosen 40 = .ok (.return_, 1) := by decide +kernel
theorem d_Md_value_0 : decode b_Md_value 0 = .ok (.iload_n 1, 1) := by decide +kernel
theorem d_Md_value_1 : decode b_Md_value 1 = .ok (.ifCond .lt 7, 3) := by decide +kernel
theorem d_Md_value_4 : decode b_Md_value 4 = .ok (.iload_n 1, 1) := by decide +kernel
theorem d_Md_value_5 : decode b_Md_value 5 = .ok (.goto 10, 3) := by decide +kernel
theorem d_Md_value_8 : decode b_Md_value 8 = .ok (.aload_n 0, 1) := by decide +kernel
theorem d_Md_value_9 : decode b_Md_value 9 = .ok (.getfield 33, 3) := by decide +kernel
theorem d_Md_value_12 : decode b_Md_value 12 = .ok (.iload_n 1, 1) := by decide +kernel
theorem d_Md_value_13 : decode b_Md_value 13 = .ok (.ineg, 1) := by decide +kernel
theorem d_Md_value_14 : decode b_Md_value 14 = .ok (.iaload, 1) := by decide +kernel
theorem d_Md_value_15 : decode b_Md_value 15 = .ok (.ireturn, 1) := by decide +kernel
theorem d_Md_allCases_0 : decode b_Md_allCases 0 = .ok (.aload_n 0, 1) := by decide +kernel
theorem d_Md_allCases_1 : decode b_Md_allCases 1 = .ok (.getfield 27, 3) := by decide +kernel
theorem d_Md_allCases_4 : decode b_Md_allCases 4 = .ok (.iload_n 1, 1) := by decide +kernel
theorem d_Md_allCases_5 : decode b_Md_allCases 5 = .ok (.iaload, 1) := by decide +kernel
theorem d_Md_allCases_6 : decode b_Md_allCases 6 = .ok (.istore_n 3, 1) := by decide +kernel
theorem d_Md_allCases_7 : decode b_Md_allCases 7 = .ok (.iconst 0, 1) := by decide +kernel
theorem d_Md_allCases_8 : decode b_Md_allCases 8 = .ok (.istore 4, 2) := by decide +kernel
theorem d_Md_allCases_10 : decode b_Md_allCases 10 = .ok (.aload_n 0, 1) := by decide +kernel
theorem d_Md_allCases_11 : decode b_Md_allCases 11 = .ok (.getfield 39, 3) := by decide +kernel
theorem d_Md_allCases_14 : decode b_Md_allCases 14 = .ok (.iconst 0, 1) := by decide +kernel
theorem d_Md_allCases_15 : decode b_Md_allCases 15 = .ok (.iconst (-1), 1) := by decide +kernel
theorem d_Md_allCases_16 : decode b_Md_allCases 16 = .ok (.iastore, 1) := by decide +kernel
theorem d_Md_allCases_17 : decode b_Md_allCases 17 = .ok (.iload 4, 2) := by decide +kernel
theorem d_Md_allCases_19 : decode b_Md_allCases 19 = .ok (.ifCond .lt 163, 3) := by decide +kernel
theorem d_Md_allCases_22 : decode b_Md_allCases 22 = .ok (.bipush 12, 2) := by decide +kernel
theorem d_Md_allCases_24 : decode b_Md_allCases 24 = .ok (.iload_n 1, 1) := by decide +kernel
theorem d_Md_allCases_25 : decode b_Md_allCases 25 = .ok (.imul, 1) := by decide +kernel
theorem d_Md_allCases_26 : decode b_Md_allCases 26 = .ok (.iconst 3, 1) := by decide +kernel
theorem d_Md_allCases_27 : decode b_Md_allCases 27 = .ok (.iload 4, 2) := by decide +kernel
theorem d_Md_allCases_29 : decode b_Md_allCases 29 = .ok (.imul, 1) := by decide +kernel
theorem d_Md_allCases_30 : decode b_Md_allCases 30 = .ok (.iadd, 1) := by decide +kernel
theorem d_Md_allCases_31 : decode b_Md_allCases 31 = .ok (.istore 5, 2) := by decide +kernel
theorem d_Md_allCases_33 : decode b_Md_allCases 33 = .ok (.aload_n 0, 1) := by decide +kernel
theorem d_Md_allCases_34 : decode b_Md_allCases 34 = .ok (.getfield 39, 3) := by decide +kernel
theorem d_Md_allCases_37 : decode b_Md_allCases 37 = .ok (.iload 4, 2) := by decide +kernel
theorem d_Md_allCases_39 : decode b_Md_allCases 39 = .ok (.iaload, 1) := by decide +kernel
theorem d_Md_allCases_40 : decode b_Md_allCases 40 = .ok (.ifCond .lt 14, 3) := by decide +kernel
theorem d_Md_allCases_43 : decode b_Md_allCases 43 = .ok (.aload_n 0, 1) := by decide +kernel
theorem d_Md_allCases_44 : decode b_Md_allCases 44 = .ok (.aload_n 0, 1) := by decide +kernel
theorem d_Md_allCases_45 : decode b_Md_allCases 45 = .ok (.getfield 24, 3) := by decide +kernel
theorem d_Md_allCases_48 : decode b_Md_allCases 48 = .ok (.iload 5, 2) := by decide +kernel
theorem d_Md_allCases_50 : decode b_Md_allCases 50 = .ok (.iconst 3, 1) := by decide +kernel
theorem d_Md_allCases_51 : decode b_Md_allCases 51 = .ok (.invokevirtual 49, 3) := by decide +kernel
theorem d_Md_allCases_54 : decode b_Md_allCases 54 = .ok (.aload_n 0, 1) := by decide +kernel
theorem d_Md_allCases_55 : decode b_Md_allCases 55 = .ok (.getfield 39, 3) := by decide +kernel
theorem d_Md_allCases_58 : decode b_Md_allCases 58 = .ok (.iload 4, 2) := by decide +kernel
theorem d_Md_allCases_60 : decode b_Md_allCases 60 = .ok (.dup2, 1) := by decide +kernel
theorem d_Md_allCases_61 : decode b_Md_allCases 61 = .ok (.iaload, 1) := by decide +kernel
theorem d_Md_allCases_62 : decode b_Md_allCases 62 = .ok (.iconst 1, 1) := by decide +kernel
theorem d_Md_allCases_63 : decode b_Md_allCases 63 = .ok (.iadd, 1) := by decide +kernel
theorem d_Md_allCases_64 : decode b_Md_allCases 64 = .ok (.iastore, 1) := by decide +kernel
theorem d_Md_allCases_65 : decode b_Md_allCases 65 = .ok (.aload_n 0, 1) := by decide +kernel
theorem d_Md_allCases_66 : decode b_Md_allCases 66 = .ok (.getfield 39, 3) := by decide +kernel
theorem d_Md_allCases_69 : decode b_Md_allCases 69 = .ok (.iload 4, 2) := by decide +kernel
theorem d_Md_allCases_71 : decode b_Md_allCases 71 = .ok (.iaload, 1) := by decide +kernel
theorem d_Md_allCases_72 : decode b_Md_allCases 72 = .ok (.aload_n 0, 1) := by decide +kernel
theorem d_Md_allCases_73 : decode b_Md_allCases 73 = .ok (.getfield 53, 3) := by decide +kernel
theorem d_Md_allCases_76 : decode b_Md_allCases 76 = .ok (.if_icmp .ge 42, 3) := by decide +kernel
theorem d_Md_allCases_79 : decode b_Md_allCases 79 = .ok (.aload_n 0, 1) := by decide +kernel
theorem d_Md_allCases_80 : decode b_Md_allCases 80 = .ok (.aload_n 0, 1) := by decide +kernel
theorem d_Md_allCases_81 : decode b_Md_allCases 81 = .ok (.getfield 24, 3) := by decide +kernel
theorem d_Md_allCases_84 : decode b_Md_allCases 84 = .ok (.iload 5, 2) := by decide +kernel
theorem d_Md_allCases_86 : decode b_Md_allCases 86 = .ok (.aload_n 0, 1) := by decide +kernel
theorem d_Md_allCases_87 : decode b_Md_allCases 87 = .ok (.getfield 21, 3) := by decide +kernel
theorem d_Md_allCases_90 : decode b_Md_allCases 90 = .ok (.aload_n 0, 1) := by decide +kernel
theorem d_Md_allCases_91 : decode b_Md_allCases 91 = .ok (.getfield 39, 3) := by decide +kernel
theorem d_Md_allCases_94 : decode b_Md_allCases 94 = .ok (.iload 4, 2) := by decide +kernel
theorem d_Md_allCases_96 : decode b_Md_allCases 96 = .ok (.iaload, 1) := by decide +kernel
theorem d_Md_allCases_97 : decode b_Md_allCases 97 = .ok (.iaload, 1) := by decide +kernel
theorem d_Md_allCases_98 : decode b_Md_allCases 98 = .ok (.invokevirtual 57, 3) := by decide +kernel
theorem d_Md_allCases_101 : decode b_Md_allCases 101 = .ok (.ifCond .ne 17, 3) := by decide +kernel
theorem d_Md_allCases_104 : decode b_Md_allCases 104 = .ok (.aload_n 0, 1) := by decide +kernel
theorem d_Md_allCases_105 : decode b_Md_allCases 105 = .ok (.getfield 39, 3) := by decide +kernel
theorem d_Md_allCases_108 : decode b_Md_allCases 108 = .ok (.iload 4, 2) := by decide +kernel
theorem d_Md_allCases_110 : decode b_Md_allCases 110 = .ok (.dup2, 1) := by decide +kernel
theorem d_Md_allCases_111 : decode b_Md_allCases 111 = .ok (.iaload, 1) := by decide +kernel
theorem d_Md_allCases_112 : decode b_Md_allCases 112 = .ok (.iconst 1, 1) := by decide +kernel
theorem d_Md_allCases_113 : decode b_Md_allCases 113 = .ok (.iadd, 1) := by decide +kernel
theorem d_Md_allCases_114 : decode b_Md_allCases 114 = .ok (.iastore, 1) := by decide +kernel
theorem d_Md_allCases_115 : decode b_Md_allCases 115 = .ok (.goto (-50), 3) := by decide +kernel
theorem d_Md_allCases_118 : decode b_Md_allCases 118 = .ok (.aload_n 0, 1) := by decide +kernel
theorem d_Md_allCases_119 : decode b_Md_allCases 119 = .ok (.getfield 39, 3) := by decide +kernel
theorem d_Md_allCases_122 : decode b_Md_allCases 122 = .ok (.iload 4, 2) := by decide +kernel
theorem d_Md_allCases_124 : decode b_Md_allCases 124 = .ok (.iaload, 1) := by decide +kernel
theorem d_Md_allCases_125 : decode b_Md_allCases 125 = .ok (.aload_n 0, 1) := by decide +kernel
theorem d_Md_allCases_126 : decode b_Md_allCases 126 = .ok (.getfield 53, 3) := by decide +kernel
theorem d_Md_allCases_129 : decode b_Md_allCases 129 = .ok (.if_icmp .ne 17, 3) := by decide +kernel
theorem d_Md_allCases_132 : decode b_Md_allCases 132 = .ok (.aload_n 0, 1) := by decide +kernel
theorem d_Md_allCases_133 : decode b_Md_allCases 133 = .ok (.getfield 39, 3) := by decide +kernel
theorem d_Md_allCases_136 : decode b_Md_allCases 136 = .ok (.iload 4, 2) := by decide +kernel
theorem d_Md_allCases_138 : decode b_Md_allCases 138 = .ok (.iconst (-1), 1) := by decide +kernel
theorem d_Md_allCases_139 : decode b_Md_allCases 139 = .ok (.iastore, 1) := by decide +kernel
theorem d_Md_allCases_140 : decode b_Md_allCases 140 = .ok (.iinc 4 (-1), 3) := by decide +kernel
theorem d_Md_allCases_143 : decode b_Md_allCases 143 = .ok (.goto 36, 3) := by decide +kernel
theorem d_Md_allCases_146 : decode b_Md_allCases 146 = .ok (.iload 4, 2) := by decide +kernel
theorem d_Md_allCases_148 : decode b_Md_allCases 148 = .ok (.iconst 1, 1) := by decide +kernel
theorem d_Md_allCases_149 : decode b_Md_allCases 149 = .ok (.iadd, 1) := by decide +kernel
theorem d_Md_allCases_150 : decode b_Md_allCases 150 = .ok (.iload_n 3, 1) := by decide +kernel
theorem d_Md_allCases_151 : decode b_Md_allCases 151 = .ok (.if_icmp .ge 17, 3) := by decide +kernel
theorem d_Md_allCases_154 : decode b_Md_allCases 154 = .ok (.iinc 4 1, 3) := by decide +kernel
theorem d_Md_allCases_157 : decode b_Md_allCases 157 = .ok (.aload_n 0, 1) := by decide +kernel
theorem d_Md_allCases_158 : decode b_Md_allCases 158 = .ok (.getfield 39, 3) := by decide +kernel
theorem d_Md_allCases_161 : decode b_Md_allCases 161 = .ok (.iload 4, 2) := by decide +kernel
theorem d_Md_allCases_163 : decode b_Md_allCases 163 = .ok (.iconst (-1), 1) := by decide +kernel
theorem d_Md_allCases_164 : decode b_Md_allCases 164 = .ok (.iastore, 1) := by decide +kernel
theorem d_Md_allCases_165 : decode b_Md_allCases 165 = .ok (.goto 14, 3) := by decide +kernel
theorem d_Md_allCases_168 : decode b_Md_allCases 168 = .ok (.aload_n 0, 1) := by decide +kernel
theorem d_Md_allCases_169 : decode b_Md_allCases 169 = .ok (.iload_n 1, 1) := by decide +kernel
theorem d_Md_allCases_170 : decode b_Md_allCases 170 = .ok (.iload_n 2, 1) := by decide +kernel
theorem d_Md_allCases_171 : decode b_Md_allCases 171 = .ok (.invokevirtual 61, 3) := by decide +kernel
theorem d_Md_allCases_174 : decode b_Md_allCases 174 = .ok (.ifCond .ne 5, 3) := by decide +kernel
theorem d_Md_allCases_177 : decode b_Md_allCases 177 = .ok (.iconst 0, 1) := by decide +kernel
theorem d_Md_allCases_178 : decode b_Md_allCases 178 = .ok (.ireturn, 1) := by decide +kernel
theorem d_Md_allCases_179 : decode b_Md_allCases 179 = .ok (.goto (-162), 3) := by decide +kernel
theorem d_Md_allCases_182 : decode b_Md_allCases 182 = .ok (.iconst 1, 1) := by decide +kernel
theorem d_Md_allCases_183 : decode b_Md_allCases 183 = .ok (.ireturn, 1) := by decide +kernel
theorem d_Md_give_0 : decode b_Md_give 0 = .ok (.bipush 12, 2) := by decide +kernel
theorem d_Md_give_2 : decode b_Md_give 2 = .ok (.iload_n 1, 1) := by decide +kernel
theorem d_Md_give_3 : decode b_Md_give 3 = .ok (.imul, 1) := by decide +kernel
theorem d_Md_give_4 : decode b_Md_give 4 = .ok (.iconst 3, 1) := by decide +kernel
theorem d_Md_give_5 : decode b_Md_give 5 = .ok (.aload_n 0, 1) := by decide +kernel
theorem d_Md_give_6 : decode b_Md_give 6 = .ok (.getfield 27, 3) := by decide +kernel
theorem d_Md_give_9 : decode b_Md_give 9 = .ok (.iload_n 1, 1) := by decide +kernel
theorem d_Md_give_10 : decode b_Md_give 10 = .ok (.iaload, 1) := by decide +kernel
theorem d_Md_give_11 : decode b_Md_give 11 = .ok (.imul, 1) := by decide +kernel
theorem d_Md_give_12 : decode b_Md_give 12 = .ok (.iadd, 1) := by decide +kernel
theorem d_Md_give_13 : decode b_Md_give 13 = .ok (.istore_n 3, 1) := by decide +kernel
theorem d_Md_give_14 : decode b_Md_give 14 = .ok (.aload_n 0, 1) := by decide +kernel
theorem d_Md_give_15 : decode b_Md_give 15 = .ok (.aload_n 0, 1) := by decide +kernel
theorem d_Md_give_16 : decode b_Md_give 16 = .ok (.getfield 24, 3) := by decide +kernel
theorem d_Md_give_19 : decode b_Md_give 19 = .ok (.iload_n 3, 1) := by decide +kernel
theorem d_Md_give_20 : decode b_Md_give 20 = .ok (.iaload, 1) := by decide +kernel
theorem d_Md_give_21 : decode b_Md_give 21 = .ok (.invokevirtual 65, 3) := by decide +kernel
theorem d_Md_give_24 : decode b_Md_give 24 = .ok (.aload_n 0, 1) := by decide +kernel
theorem d_Md_give_25 : decode b_Md_give 25 = .ok (.aload_n 0, 1) := by decide +kernel
theorem d_Md_give_26 : decode b_Md_give 26 = .ok (.getfield 24, 3) := by decide +kernel
theorem d_Md_give_29 : decode b_Md_give 29 = .ok (.iload_n 3, 1) := by decide +kernel
theorem d_Md_give_30 : decode b_Md_give 30 = .ok (.iconst 1, 1) := by decide +kernel
theorem d_Md_give_31 : decode b_Md_give 31 = .ok (.iadd, 1) := by decide +kernel
theorem d_Md_give_32 : decode b_Md_give 32 = .ok (.iaload, 1) := by decide +kernel
theorem d_Md_give_33 : decode b_Md_give 33 = .ok (.invokevirtual 65, 3) := by decide +kernel
theorem d_Md_give_36 : decode b_Md_give 36 = .ok (.aload_n 0, 1) := by decide +kernel
theorem d_Md_give_37 : decode b_Md_give 37 = .ok (.aload_n 0, 1) := by decide +kernel
theorem d_Md_give_38 : decode b_Md_give 38 = .ok (.getfield 24, 3) := by decide +kernel
theorem d_Md_give_41 : decode b_Md_give 41 = .ok (.iload_n 3, 1) := by decide +kernel
theorem d_Md_give_42 : decode b_Md_give 42 = .ok (.iconst 2, 1) := by decide +kernel
theorem d_Md_give_43 : decode b_Md_give 43 = .ok (.iadd, 1) := by decide +kernel
theorem d_Md_give_44 : decode b_Md_give 44 = .ok (.iaload, 1) := by decide +kernel
theorem d_Md_give_45 : decode b_Md_give 45 = .ok (.invokevirtual 65, 3) := by decide +kernel
theorem d_Md_give_48 : decode b_Md_give 48 = .ok (.invokestatic 69, 3) := by decide +kernel
theorem d_Md_give_51 : decode b_Md_give 51 = .ok (.istore 4, 2) := by decide +kernel
theorem d_Md_give_53 : decode b_Md_give 53 = .ok (.iload_n 2, 1) := by decide +kernel
theorem d_Md_give_54 : decode b_Md_give 54 = .ok (.ifCond .eq 16, 3) := by decide +kernel
theorem d_Md_give_57 : decode b_Md_give 57 = .ok (.aload_n 0, 1) := by decide +kernel
theorem d_Md_give_58 : decode b_Md_give 58 = .ok (.getfield 17, 3) := by decide +kernel
theorem d_Md_give_61 : decode b_Md_give 61 = .ok (.iload 4, 2) := by decide +kernel
theorem d_Md_give_63 : decode b_Md_give 63 = .ok (.dup2, 1) := by decide +kernel
theorem d_Md_give_64 : decode b_Md_give 64 = .ok (.iaload, 1) := by decide +kernel
theorem d_Md_give_65 : decode b_Md_give 65 = .ok (.iconst 1, 1) := by decide +kernel
theorem d_Md_give_66 : decode b_Md_give 66 = .ok (.iadd, 1) := by decide +kernel
theorem d_Md_give_67 : decode b_Md_give 67 = .ok (.iastore, 1) := by decide +kernel
theorem d_Md_give_68 : decode b_Md_give 68 = .ok (.iconst 1, 1) := by decide +kernel
theorem d_Md_give_69 : decode b_Md_give 69 = .ok (.ireturn, 1) := by decide +kernel
theorem d_Md_give_70 : decode b_Md_give 70 = .ok (.aload_n 0, 1) := by decide +kernel
theorem d_Md_give_71 : decode b_Md_give 71 = .ok (.iload 4, 2) := by decide +kernel
theorem d_Md_give_73 : decode b_Md_give 73 = .ok (.invokevirtual 73, 3) := by decide +kernel
theorem d_Md_give_76 : decode b_Md_give 76 = .ok (.ireturn, 1) := by decide +kernel
theorem d_Md_come_0 : decode b_Md_come 0 = .ok (.aload_n 0, 1) := by decide +kernel
theorem d_Md_come_1 : decode b_Md_come 1 = .ok (.getfield 14, 3) := by decide +kernel
theorem d_Md_come_4 : decode b_Md_come 4 = .ok (.iload_n 1, 1) := by decide +kernel
theorem d_Md_come_5 : decode b_Md_come 5 = .ok (.baload, 1) := by decide +kernel
theorem d_Md_come_6 : decode b_Md_come 6 = .ok (.ifCond .eq 5, 3) := by decide +kernel
theorem d_Md_come_9 : decode b_Md_come 9 = .ok (.iconst 1, 1) := by decide +kernel
theorem d_Md_come_10 : decode b_Md_come 10 = .ok (.ireturn, 1) := by decide +kernel
theorem d_Md_come_11 : decode b_Md_come 11 = .ok (.aload_n 0, 1) := by decide +kernel
theorem d_Md_come_12 : decode b_Md_come 12 = .ok (.getfield 53, 3) := by decide +kernel
theorem d_Md_come_15 : decode b_Md_come 15 = .ok (.sipush 300, 3) := by decide +kernel
theorem d_Md_come_18 : decode b_Md_come 18 = .ok (.if_icmp .ne 5, 3) := by decide +kernel
theorem d_Md_come_21 : decode b_Md_come 21 = .ok (.iconst 0, 1) := by decide +kernel
theorem d_Md_come_22 : decode b_Md_come 22 = .ok (.ireturn, 1) := by decide +kernel
theorem d_Md_come_23 : decode b_Md_come 23 = .ok (.aload_n 0, 1) := by decide +kernel
theorem d_Md_come_24 : decode b_Md_come 24 = .ok (.getfield 14, 3) := by decide +kernel
theorem d_Md_come_27 : decode b_Md_come 27 = .ok (.iload_n 1, 1) := by decide +kernel
theorem d_Md_come_28 : decode b_Md_come 28 = .ok (.iconst 1, 1) := by decide +kernel
theorem d_Md_come_29 : decode b_Md_come 29 = .ok (.bastore, 1) := by decide +kernel
theorem d_Md_come_30 : decode b_Md_come 30 = .ok (.aload_n 0, 1) := by decide +kernel
theorem d_Md_come_31 : decode b_Md_come 31 = .ok (.getfield 21, 3) := by decide +kernel
theorem d_Md_come_34 : decode b_Md_come 34 = .ok (.aload_n 0, 1) := by decide +kernel
theorem d_Md_come_35 : decode b_Md_come 35 = .ok (.getfield 53, 3) := by decide +kernel
theorem d_Md_come_38 : decode b_Md_come 38 = .ok (.iload_n 1, 1) := by decide +kernel
theorem d_Md_come_39 : decode b_Md_come 39 = .ok (.iastore, 1) := by decide +kernel
theorem d_Md_come_40 : decode b_Md_come 40 = .ok (.aload_n 0, 1) := by decide +kernel
theorem d_Md_come_41 : decode b_Md_come 41 = .ok (.dup, 1) := by decide +kernel
theorem d_Md_come_42 : decode b_Md_come 42 = .ok (.getfield 53, 3) := by decide +kernel
theorem d_Md_come_45 : decode b_Md_come 45 = .ok (.iconst 1, 1) := by decide +kernel
theorem d_Md_come_46 : decode b_Md_come 46 = .ok (.iadd, 1) := by decide +kernel
theorem d_Md_come_47 : decode b_Md_come 47 = .ok (.putfield 53, 3) := by decide +kernel
theorem d_Md_come_50 : decode b_Md_come 50 = .ok (.iconst 1, 1) := by decide +kernel
theorem d_Md_come_51 : decode b_Md_come 51 = .ok (.ireturn, 1) := by decide +kernel
theorem d_Md_free_0 : decode b_Md_free 0 = .ok (.iconst 0, 1) := by decide +kernel
theorem d_Md_free_1 : decode b_Md_free 1 = .ok (.istore_n 1, 1) := by decide +kernel
theorem d_Md_free_2 : decode b_Md_free 2 = .ok (.iload_n 1, 1) := by decide +kernel
theorem d_Md_free_3 : decode b_Md_free 3 = .ok (.bipush 9, 2) := by decide +kernel
theorem d_Md_free_5 : decode b_Md_free 5 = .ok (.if_icmp .ge 16, 3) := by decide +kernel
theorem d_Md_free_8 : decode b_Md_free 8 = .ok (.aload_n 0, 1) := by decide +kernel
theorem d_Md_free_9 : decode b_Md_free 9 = .ok (.getfield 36, 3) := by decide +kernel
theorem d_Md_free_12 : decode b_Md_free 12 = .ok (.iload_n 1, 1) := by decide +kernel
theorem d_Md_free_13 : decode b_Md_free 13 = .ok (.iconst 0, 1) := by decide +kernel
theorem d_Md_free_14 : decode b_Md_free 14 = .ok (.iastore, 1) := by decide +kernel
theorem d_Md_free_15 : decode b_Md_free 15 = .ok (.iinc 1 1, 3) := by decide +kernel
theorem d_Md_free_18 : decode b_Md_free 18 = .ok (.goto (-16), 3) := by decide +kernel
theorem d_Md_free_21 : decode b_Md_free 21 = .ok (.return_, 1) := by decide +kernel
theorem d_Md_reckon_0 : decode b_Md_reckon 0 = .ok (.aload_n 0, 1) := by decide +kernel
theorem d_Md_reckon_1 : decode b_Md_reckon 1 = .ok (.iconst 0, 1) := by decide +kernel
theorem d_Md_reckon_2 : decode b_Md_reckon 2 = .ok (.putfield 53, 3) := by decide +kernel
theorem d_Md_reckon_5 : decode b_Md_reckon 5 = .ok (.iconst 0, 1) := by decide +kernel
theorem d_Md_reckon_6 : decode b_Md_reckon 6 = .ok (.istore_n 1, 1) := by decide +kernel
theorem d_Md_reckon_7 : decode b_Md_reckon 7 = .ok (.iload_n 1, 1) := by decide +kernel
theorem d_Md_reckon_8 : decode b_Md_reckon 8 = .ok (.ldc 7, 2) := by decide +kernel
theorem d_Md_reckon_10 : decode b_Md_reckon 10 = .ok (.if_icmp .ge 23, 3) := by decide +kernel
theorem d_Md_reckon_13 : decode b_Md_reckon 13 = .ok (.aload_n 0, 1) := by decide +kernel
theorem d_Md_reckon_14 : decode b_Md_reckon 14 = .ok (.getfield 14, 3) := by decide +kernel
theorem d_Md_reckon_17 : decode b_Md_reckon 17 = .ok (.iload_n 1, 1) := by decide +kernel
theorem d_Md_reckon_18 : decode b_Md_reckon 18 = .ok (.iconst 0, 1) := by decide +kernel
theorem d_Md_reckon_19 : decode b_Md_reckon 19 = .ok (.bastore, 1) := by decide +kernel
theorem d_Md_reckon_20 : decode b_Md_reckon 20 = .ok (.aload_n 0, 1) := by decide +kernel
theorem d_Md_reckon_21 : decode b_Md_reckon 21 = .ok (.getfield 17, 3) := by decide +kernel
theorem d_Md_reckon_24 : decode b_Md_reckon 24 = .ok (.iload_n 1, 1) := by decide +kernel
theorem d_Md_reckon_25 : decode b_Md_reckon 25 = .ok (.iconst 0, 1) := by decide +kernel
theorem d_Md_reckon_26 : decode b_Md_reckon 26 = .ok (.iastore, 1) := by decide +kernel
theorem d_Md_reckon_27 : decode b_Md_reckon 27 = .ok (.iinc 1 1, 3) := by decide +kernel
theorem d_Md_reckon_30 : decode b_Md_reckon 30 = .ok (.goto (-23), 3) := by decide +kernel
theorem d_Md_reckon_33 : decode b_Md_reckon 33 = .ok (.iconst 0, 1) := by decide +kernel
theorem d_Md_reckon_34 : decode b_Md_reckon 34 = .ok (.istore_n 1, 1) := by decide +kernel
theorem d_Md_reckon_35 : decode b_Md_reckon 35 = .ok (.iload_n 1, 1) := by decide +kernel
theorem d_Md_reckon_36 : decode b_Md_reckon 36 = .ok (.ldc 7, 2) := by decide +kernel
theorem d_Md_reckon_38 : decode b_Md_reckon 38 = .ok (.if_icmp .ge 28, 3) := by decide +kernel
theorem d_Md_reckon_41 : decode b_Md_reckon 41 = .ok (.aload_n 0, 1) := by decide +kernel
theorem d_Md_reckon_42 : decode b_Md_reckon 42 = .ok (.getfield 8, 3) := by decide +kernel
theorem d_Md_reckon_45 : decode b_Md_reckon 45 = .ok (.iload_n 1, 1) := by decide +kernel
theorem d_Md_reckon_46 : decode b_Md_reckon 46 = .ok (.baload, 1) := by decide +kernel
theorem d_Md_reckon_47 : decode b_Md_reckon 47 = .ok (.ifCond .eq 13, 3) := by decide +kernel
theorem d_Md_reckon_50 : decode b_Md_reckon 50 = .ok (.aload_n 0, 1) := by decide +kernel
theorem d_Md_reckon_51 : decode b_Md_reckon 51 = .ok (.iload_n 1, 1) := by decide +kernel
theorem d_Md_reckon_52 : decode b_Md_reckon 52 = .ok (.invokevirtual 73, 3) := by decide +kernel
theorem d_Md_reckon_55 : decode b_Md_reckon 55 = .ok (.ifCond .ne 5, 3) := by decide +kernel
theorem d_Md_reckon_58 : decode b_Md_reckon 58 = .ok (.iconst 0, 1) := by decide +kernel
theorem d_Md_reckon_59 : decode b_Md_reckon 59 = .ok (.ireturn, 1) := by decide +kernel
theorem d_Md_reckon_60 : decode b_Md_reckon 60 = .ok (.iinc 1 1, 3) := by decide +kernel
theorem d_Md_reckon_63 : decode b_Md_reckon 63 = .ok (.goto (-28), 3) := by decide +kernel
theorem d_Md_reckon_66 : decode b_Md_reckon 66 = .ok (.iconst (-1), 1) := by decide +kernel
theorem d_Md_reckon_67 : decode b_Md_reckon 67 = .ok (.istore_n 1, 1) := by decide +kernel
theorem d_Md_reckon_68 : decode b_Md_reckon 68 = .ok (.iload_n 1, 1) := by decide +kernel
theorem d_Md_reckon_69 : decode b_Md_reckon 69 = .ok (.aload_n 0, 1) := by decide +kernel
theorem d_Md_reckon_70 : decode b_Md_reckon 70 = .ok (.getfield 53, 3) := by decide +kernel
theorem d_Md_reckon_73 : decode b_Md_reckon 73 = .ok (.if_icmp .ge 42, 3) := by decide +kernel
theorem d_Md_reckon_76 : decode b_Md_reckon 76 = .ok (.aload_n 0, 1) := by decide +kernel
theorem d_Md_reckon_77 : decode b_Md_reckon 77 = .ok (.getfield 53, 3) := by decide +kernel
theorem d_Md_reckon_80 : decode b_Md_reckon 80 = .ok (.istore_n 1, 1) := by decide +kernel
theorem d_Md_reckon_81 : decode b_Md_reckon 81 = .ok (.iconst 0, 1) := by decide +kernel
theorem d_Md_reckon_82 : decode b_Md_reckon 82 = .ok (.istore_n 2, 1) := by decide +kernel
theorem d_Md_reckon_83 : decode b_Md_reckon 83 = .ok (.iload_n 2, 1) := by decide +kernel
theorem d_Md_reckon_84 : decode b_Md_reckon 84 = .ok (.aload_n 0, 1) := by decide +kernel
theorem d_Md_reckon_85 : decode b_Md_reckon 85 = .ok (.getfield 77, 3) := by decide +kernel
theorem d_Md_reckon_88 : decode b_Md_reckon 88 = .ok (.if_icmp .ge 24, 3) := by decide +kernel
theorem d_Md_reckon_91 : decode b_Md_reckon 91 = .ok (.aload_n 0, 1) := by decide +kernel
theorem d_Md_reckon_92 : decode b_Md_reckon 92 = .ok (.invokevirtual 80, 3) := by decide +kernel
theorem d_Md_reckon_95 : decode b_Md_reckon 95 = .ok (.aload_n 0, 1) := by decide +kernel
theorem d_Md_reckon_96 : decode b_Md_reckon 96 = .ok (.iload_n 2, 1) := by decide +kernel
theorem d_Md_reckon_97 : decode b_Md_reckon 97 = .ok (.iconst 0, 1) := by decide +kernel
theorem d_Md_reckon_98 : decode b_Md_reckon 98 = .ok (.invokevirtual 83, 3) := by decide +kernel
theorem d_Md_reckon_101 : decode b_Md_reckon 101 = .ok (.ifCond .ne 5, 3) := by decide +kernel
theorem d_Md_reckon_104 : decode b_Md_reckon 104 = .ok (.iconst 0, 1) := by decide +kernel
theorem d_Md_reckon_105 : decode b_Md_reckon 105 = .ok (.ireturn, 1) := by decide +kernel
theorem d_Md_reckon_106 : decode b_Md_reckon 106 = .ok (.iinc 2 1, 3) := by decide +kernel
theorem d_Md_reckon_109 : decode b_Md_reckon 109 = .ok (.goto (-26), 3) := by decide +kernel
theorem d_Md_reckon_112 : decode b_Md_reckon 112 = .ok (.goto (-44), 3) := by decide +kernel
theorem d_Md_reckon_115 : decode b_Md_reckon 115 = .ok (.iconst 0, 1) := by decide +kernel
theorem d_Md_reckon_116 : decode b_Md_reckon 116 = .ok (.istore_n 2, 1) := by decide +kernel
theorem d_Md_reckon_117 : decode b_Md_reckon 117 = .ok (.iload_n 2, 1) := by decide +kernel
theorem d_Md_reckon_118 : decode b_Md_reckon 118 = .ok (.aload_n 0, 1) := by decide +kernel
theorem d_Md_reckon_119 : decode b_Md_reckon 119 = .ok (.getfield 77, 3) := by decide +kernel
theorem d_Md_reckon_122 : decode b_Md_reckon 122 = .ok (.if_icmp .ge 20, 3) := by decide +kernel
theorem d_Md_reckon_125 : decode b_Md_reckon 125 = .ok (.aload_n 0, 1) := by decide +kernel
theorem d_Md_reckon_126 : decode b_Md_reckon 126 = .ok (.invokevirtual 80, 3) := by decide +kernel
theorem d_Md_reckon_129 : decode b_Md_reckon 129 = .ok (.aload_n 0, 1) := by decide +kernel
theorem d_Md_reckon_130 : decode b_Md_reckon 130 = .ok (.iload_n 2, 1) := by decide +kernel
theorem d_Md_reckon_131 : decode b_Md_reckon 131 = .ok (.iconst 1, 1) := by decide +kernel
theorem d_Md_reckon_132 : decode b_Md_reckon 132 = .ok (.invokevirtual 83, 3) := by decide +kernel
theorem d_Md_reckon_135 : decode b_Md_reckon 135 = .ok (.pop, 1) := by decide +kernel
theorem d_Md_reckon_136 : decode b_Md_reckon 136 = .ok (.iinc 2 1, 3) := by decide +kernel
theorem d_Md_reckon_139 : decode b_Md_reckon 139 = .ok (.goto (-22), 3) := by decide +kernel
theorem d_Md_reckon_142 : decode b_Md_reckon 142 = .ok (.iconst 1, 1) := by decide +kernel
theorem d_Md_reckon_143 : decode b_Md_reckon 143 = .ok (.ireturn, 1) := by decide +kernel
theorem d_Md_say_0 : decode b_Md_say 0 = .ok (.iload_n 1, 1) := by decide +kernel
theorem d_Md_say_1 : decode b_Md_say 1 = .ok (.invokestatic 86, 3) := by decide +kernel
theorem d_Md_say_4 : decode b_Md_say 4 = .ok (.ifCond .eq 17, 3) := by decide +kernel
theorem d_Md_say_7 : decode b_Md_say 7 = .ok (.iload_n 2, 1) := by decide +kernel
theorem d_Md_say_8 : decode b_Md_say 8 = .ok (.invokestatic 86, 3) := by decide +kernel
theorem d_Md_say_11 : decode b_Md_say 11 = .ok (.ifCond .eq 10, 3) := by decide +kernel
theorem d_Md_say_14 : decode b_Md_say 14 = .ok (.iload_n 3, 1) := by decide +kernel
theorem d_Md_say_15 : decode b_Md_say 15 = .ok (.invokestatic 86, 3) := by decide +kernel
theorem d_Md_say_18 : decode b_Md_say 18 = .ok (.ifCond .ne 5, 3) := by decide +kernel
theorem d_Md_say_21 : decode b_Md_say 21 = .ok (.iconst (-1), 1) := by decide +kernel
theorem d_Md_say_22 : decode b_Md_say 22 = .ok (.ireturn, 1) := by decide +kernel
theorem d_Md_say_23 : decode b_Md_say 23 = .ok (.iload_n 1, 1) := by decide +kernel
theorem d_Md_say_24 : decode b_Md_say 24 = .ok (.iload_n 2, 1) := by decide +kernel
theorem d_Md_say_25 : decode b_Md_say 25 = .ok (.iload_n 3, 1) := by decide +kernel
theorem d_Md_say_26 : decode b_Md_say 26 = .ok (.invokestatic 69, 3) := by decide +kernel
theorem d_Md_say_29 : decode b_Md_say 29 = .ok (.istore 4, 2) := by decide +kernel
theorem d_Md_say_31 : decode b_Md_say 31 = .ok (.aload_n 0, 1) := by decide +kernel
theorem d_Md_say_32 : decode b_Md_say 32 = .ok (.getfield 8, 3) := by decide +kernel
theorem d_Md_say_35 : decode b_Md_say 35 = .ok (.iload 4, 2) := by decide +kernel
theorem d_Md_say_37 : decode b_Md_say 37 = .ok (.baload, 1) := by decide +kernel
theorem d_Md_say_38 : decode b_Md_say 38 = .ok (.ifCond .eq 5, 3) := by decide +kernel
theorem d_Md_say_41 : decode b_Md_say 41 = .ok (.iconst 0, 1) := by decide +kernel
theorem d_Md_say_42 : decode b_Md_say 42 = .ok (.ireturn, 1) := by decide +kernel
theorem d_Md_say_43 : decode b_Md_say 43 = .ok (.aload_n 0, 1) := by decide +kernel
theorem d_Md_say_44 : decode b_Md_say 44 = .ok (.getfield 8, 3) := by decide +kernel
theorem d_Md_say_47 : decode b_Md_say 47 = .ok (.iload 4, 2) := by decide +kernel
theorem d_Md_say_49 : decode b_Md_say 49 = .ok (.iconst 1, 1) := by decide +kernel
theorem d_Md_say_50 : decode b_Md_say 50 = .ok (.bastore, 1) := by decide +kernel
theorem d_Md_say_51 : decode b_Md_say 51 = .ok (.aload_n 0, 1) := by decide +kernel
theorem d_Md_say_52 : decode b_Md_say 52 = .ok (.invokevirtual 89, 3) := by decide +kernel
theorem d_Md_say_55 : decode b_Md_say 55 = .ok (.ifCond .eq 5, 3) := by decide +kernel
theorem d_Md_say_58 : decode b_Md_say 58 = .ok (.iconst 1, 1) := by decide +kernel
theorem d_Md_say_59 : decode b_Md_say 59 = .ok (.ireturn, 1) := by decide +kernel
theorem d_Md_say_60 : decode b_Md_say 60 = .ok (.aload_n 0, 1) := by decide +kernel
theorem d_Md_say_61 : decode b_Md_say 61 = .ok (.getfield 8, 3) := by decide +kernel
theorem d_Md_say_64 : decode b_Md_say 64 = .ok (.iload 4, 2) := by decide +kernel
theorem d_Md_say_66 : decode b_Md_say 66 = .ok (.iconst 0, 1) := by decide +kernel
theorem d_Md_say_67 : decode b_Md_say 67 = .ok (.bastore, 1) := by decide +kernel
theorem d_Md_say_68 : decode b_Md_say 68 = .ok (.aload_n 0, 1) := by decide +kernel
theorem d_Md_say_69 : decode b_Md_say 69 = .ok (.invokevirtual 89, 3) := by decide +kernel
theorem d_Md_say_72 : decode b_Md_say 72 = .ok (.pop, 1) := by decide +kernel
theorem d_Md_say_73 : decode b_Md_say 73 = .ok (.bipush (-3), 2) := by decide +kernel
theorem d_Md_say_75 : decode b_Md_say 75 = .ok (.ireturn, 1) := by decide +kernel
theorem d_Md_unsay_0 : decode b_Md_unsay 0 = .ok (.iload_n 1, 1) := by decide +kernel
theorem d_Md_unsay_1 : decode b_Md_unsay 1 = .ok (.invokestatic 86, 3) := by decide +kernel
theorem d_Md_unsay_4 : decode b_Md_unsay 4 = .ok (.ifCond .eq 17, 3) := by decide +kernel
theorem d_Md_unsay_7 : decode b_Md_unsay 7 = .ok (.iload_n 2, 1) := by decide +kernel
theorem d_Md_unsay_8 : decode b_Md_unsay 8 = .ok (.invokestatic 86, 3) := by decide +kernel
theorem d_Md_unsay_11 : decode b_Md_unsay 11 = .ok (.ifCond .eq 10, 3) := by decide +kernel
theorem d_Md_unsay_14 : decode b_Md_unsay 14 = .ok (.iload_n 3, 1) := by decide +kernel
theorem d_Md_unsay_15 : decode b_Md_unsay 15 = .ok (.invokestatic 86, 3) := by decide +kernel
theorem d_Md_unsay_18 : decode b_Md_unsay 18 = .ok (.ifCond .ne 5, 3) := by decide +kernel
theorem d_Md_unsay_21 : decode b_Md_unsay 21 = .ok (.iconst (-1), 1) := by decide +kernel
theorem d_Md_unsay_22 : decode b_Md_unsay 22 = .ok (.ireturn, 1) := by decide +kernel
theorem d_Md_unsay_23 : decode b_Md_unsay 23 = .ok (.iload_n 1, 1) := by decide +kernel
theorem d_Md_unsay_24 : decode b_Md_unsay 24 = .ok (.iload_n 2, 1) := by decide +kernel
theorem d_Md_unsay_25 : decode b_Md_unsay 25 = .ok (.iload_n 3, 1) := by decide +kernel
theorem d_Md_unsay_26 : decode b_Md_unsay 26 = .ok (.invokestatic 69, 3) := by decide +kernel
theorem d_Md_unsay_29 : decode b_Md_unsay 29 = .ok (.istore 4, 2) := by decide +kernel
theorem d_Md_unsay_31 : decode b_Md_unsay 31 = .ok (.aload_n 0, 1) := by decide +kernel
theorem d_Md_unsay_32 : decode b_Md_unsay 32 = .ok (.getfield 8, 3) := by decide +kernel
theorem d_Md_unsay_35 : decode b_Md_unsay 35 = .ok (.iload 4, 2) := by decide +kernel
theorem d_Md_unsay_37 : decode b_Md_unsay 37 = .ok (.baload, 1) := by decide +kernel
theorem d_Md_unsay_38 : decode b_Md_unsay 38 = .ok (.ifCond .ne 5, 3) := by decide +kernel
theorem d_Md_unsay_41 : decode b_Md_unsay 41 = .ok (.iconst 0, 1) := by decide +kernel
theorem d_Md_unsay_42 : decode b_Md_unsay 42 = .ok (.ireturn, 1) := by decide +kernel
theorem d_Md_unsay_43 : decode b_Md_unsay 43 = .ok (.aload_n 0, 1) := by decide +kernel
theorem d_Md_unsay_44 : decode b_Md_unsay 44 = .ok (.getfield 8, 3) := by decide +kernel
theorem d_Md_unsay_47 : decode b_Md_unsay 47 = .ok (.iload 4, 2) := by decide +kernel
theorem d_Md_unsay_49 : decode b_Md_unsay 49 = .ok (.iconst 0, 1) := by decide +kernel
theorem d_Md_unsay_50 : decode b_Md_unsay 50 = .ok (.bastore, 1) := by decide +kernel
theorem d_Md_unsay_51 : decode b_Md_unsay 51 = .ok (.aload_n 0, 1) := by decide +kernel
theorem d_Md_unsay_52 : decode b_Md_unsay 52 = .ok (.invokevirtual 89, 3) := by decide +kernel
theorem d_Md_unsay_55 : decode b_Md_unsay 55 = .ok (.pop, 1) := by decide +kernel
theorem d_Md_unsay_56 : decode b_Md_unsay 56 = .ok (.iconst 1, 1) := by decide +kernel
theorem d_Md_unsay_57 : decode b_Md_unsay 57 = .ok (.ireturn, 1) := by decide +kernel
theorem d_Md_pattern_0 : decode b_Md_pattern 0 = .ok (.iload_n 1, 1) := by decide +kernel
theorem d_Md_pattern_1 : decode b_Md_pattern 1 = .ok (.invokestatic 93, 3) := by decide +kernel
theorem d_Md_pattern_4 : decode b_Md_pattern 4 = .ok (.ifCond .eq 17, 3) := by decide +kernel
theorem d_Md_pattern_7 : decode b_Md_pattern 7 = .ok (.iload_n 2, 1) := by decide +kernel
theorem d_Md_pattern_8 : decode b_Md_pattern 8 = .ok (.invokestatic 93, 3) := by decide +kernel
theorem d_Md_pattern_11 : decode b_Md_pattern 11 = .ok (.ifCond .eq 10, 3) := by decide +kernel
theorem d_Md_pattern_14 : decode b_Md_pattern 14 = .ok (.iload_n 3, 1) := by decide +kernel
theorem d_Md_pattern_15 : decode b_Md_pattern 15 = .ok (.invokestatic 93, 3) := by decide +kernel
theorem d_Md_pattern_18 : decode b_Md_pattern 18 = .ok (.ifCond .ne 5, 3) := by decide +kernel
theorem d_Md_pattern_21 : decode b_Md_pattern 21 = .ok (.iconst (-1), 1) := by decide +kernel
theorem d_Md_pattern_22 : decode b_Md_pattern 22 = .ok (.ireturn, 1) := by decide +kernel
theorem d_Md_pattern_23 : decode b_Md_pattern 23 = .ok (.aload_n 0, 1) := by decide +kernel
theorem d_Md_pattern_24 : decode b_Md_pattern 24 = .ok (.getfield 96, 3) := by decide +kernel
theorem d_Md_pattern_27 : decode b_Md_pattern 27 = .ok (.iconst 4, 1) := by decide +kernel
theorem d_Md_pattern_28 : decode b_Md_pattern 28 = .ok (.if_icmp .ne 6, 3) := by decide +kernel
theorem d_Md_pattern_31 : decode b_Md_pattern 31 = .ok (.bipush (-3), 2) := by decide +kernel
theorem d_Md_pattern_33 : decode b_Md_pattern 33 = .ok (.ireturn, 1) := by decide +kernel
theorem d_Md_pattern_34 : decode b_Md_pattern 34 = .ok (.aload_n 0, 1) := by decide +kernel
theorem d_Md_pattern_35 : decode b_Md_pattern 35 = .ok (.getfield 30, 3) := by decide +kernel
theorem d_Md_pattern_38 : decode b_Md_pattern 38 = .ok (.iconst 3, 1) := by decide +kernel
theorem d_Md_pattern_39 : decode b_Md_pattern 39 = .ok (.aload_n 0, 1) := by decide +kernel
theorem d_Md_pattern_40 : decode b_Md_pattern 40 = .ok (.getfield 96, 3) := by decide +kernel
theorem d_Md_pattern_43 : decode b_Md_pattern 43 = .ok (.imul, 1) := by decide +kernel
theorem d_Md_pattern_44 : decode b_Md_pattern 44 = .ok (.iload_n 1, 1) := by decide +kernel
theorem d_Md_pattern_45 : decode b_Md_pattern 45 = .ok (.iastore, 1) := by decide +kernel
theorem d_Md_pattern_46 : decode b_Md_pattern 46 = .ok (.aload_n 0, 1) := by decide +kernel
theorem d_Md_pattern_47 : decode b_Md_pattern 47 = .ok (.getfield 30, 3) := by decide +kernel
theorem d_Md_pattern_50 : decode b_Md_pattern 50 = .ok (.iconst 3, 1) := by decide +kernel
theorem d_Md_pattern_51 : decode b_Md_pattern 51 = .ok (.aload_n 0, 1) := by decide +kernel
theorem d_Md_pattern_52 : decode b_Md_pattern 52 = .ok (.getfield 96, 3) := by decide +kernel
theorem d_Md_pattern_55 : decode b_Md_pattern 55 = .ok (.imul, 1) := by decide +kernel
theorem d_Md_pattern_56 : decode b_Md_pattern 56 = .ok (.iconst 1, 1) := by decide +kernel
theorem d_Md_pattern_57 : decode b_Md_pattern 57 = .ok (.iadd, 1) := by decide +kernel
theorem d_Md_pattern_58 : decode b_Md_pattern 58 = .ok (.iload_n 2, 1) := by decide +kernel
theorem d_Md_pattern_59 : decode b_Md_pattern 59 = .ok (.iastore, 1) := by decide +kernel
theorem d_Md_pattern_60 : decode b_Md_pattern 60 = .ok (.aload_n 0, 1) := by decide +kernel
theorem d_Md_pattern_61 : decode b_Md_pattern 61 = .ok (.getfield 30, 3) := by decide +kernel
theorem d_Md_pattern_64 : decode b_Md_pattern 64 = .ok (.iconst 3, 1) := by decide +kernel
theorem d_Md_pattern_65 : decode b_Md_pattern 65 = .ok (.aload_n 0, 1) := by decide +kernel
theorem d_Md_pattern_66 : decode b_Md_pattern 66 = .ok (.getfield 96, 3) := by decide +kernel
theorem d_Md_pattern_69 : decode b_Md_pattern 69 = .ok (.imul, 1) := by decide +kernel
theorem d_Md_pattern_70 : decode b_Md_pattern 70 = .ok (.iconst 2, 1) := by decide +kernel
theorem d_Md_pattern_71 : decode b_Md_pattern 71 = .ok (.iadd, 1) := by decide +kernel
theorem d_Md_pattern_72 : decode b_Md_pattern 72 = .ok (.iload_n 3, 1) := by decide +kernel
theorem d_Md_pattern_73 : decode b_Md_pattern 73 = .ok (.iastore, 1) := by decide +kernel
theorem d_Md_pattern_74 : decode b_Md_pattern 74 = .ok (.aload_n 0, 1) := by decide +kernel
theorem d_Md_pattern_75 : decode b_Md_pattern 75 = .ok (.dup, 1) := by decide +kernel
theorem d_Md_pattern_76 : decode b_Md_pattern 76 = .ok (.getfield 96, 3) := by decide +kernel
theorem d_Md_pattern_79 : decode b_Md_pattern 79 = .ok (.iconst 1, 1) := by decide +kernel
theorem d_Md_pattern_80 : decode b_Md_pattern 80 = .ok (.iadd, 1) := by decide +kernel
theorem d_Md_pattern_81 : decode b_Md_pattern 81 = .ok (.putfield 96, 3) := by decide +kernel
theorem d_Md_pattern_84 : decode b_Md_pattern 84 = .ok (.aload_n 0, 1) := by decide +kernel
theorem d_Md_pattern_85 : decode b_Md_pattern 85 = .ok (.getfield 96, 3) := by decide +kernel
theorem d_Md_pattern_88 : decode b_Md_pattern 88 = .ok (.ireturn, 1) := by decide +kernel
theorem d_Md_isMade_0 : decode b_Md_isMade 0 = .ok (.aload_n 0, 1) := by decide +kernel
theorem d_Md_isMade_1 : decode b_Md_isMade 1 = .ok (.getfield 96, 3) := by decide +kernel
theorem d_Md_isMade_4 : decode b_Md_isMade 4 = .ok (.iconst 1, 1) := by decide +kernel
theorem d_Md_isMade_5 : decode b_Md_isMade 5 = .ok (.if_icmp .le 7, 3) := by decide +kernel
theorem d_Md_isMade_8 : decode b_Md_isMade 8 = .ok (.iconst 1, 1) := by decide +kernel
theorem d_Md_isMade_9 : decode b_Md_isMade 9 = .ok (.goto 4, 3) := by decide +kernel
theorem d_Md_isMade_12 : decode b_Md_isMade 12 = .ok (.iconst 0, 1) := by decide +kernel
theorem d_Md_isMade_13 : decode b_Md_isMade 13 = .ok (.istore_n 1, 1) := by decide +kernel
theorem d_Md_isMade_14 : decode b_Md_isMade 14 = .ok (.iconst 3, 1) := by decide +kernel
theorem d_Md_isMade_15 : decode b_Md_isMade 15 = .ok (.aload_n 0, 1) := by decide +kernel
theorem d_Md_isMade_16 : decode b_Md_isMade 16 = .ok (.getfield 96, 3) := by decide +kernel
theorem d_Md_isMade_19 : decode b_Md_isMade 19 = .ok (.imul, 1) := by decide +kernel
theorem d_Md_isMade_20 : decode b_Md_isMade 20 = .ok (.iconst 3, 1) := by decide +kernel
theorem d_Md_isMade_21 : decode b_Md_isMade 21 = .ok (.isub, 1) := by decide +kernel
theorem d_Md_isMade_22 : decode b_Md_isMade 22 = .ok (.istore_n 2, 1) := by decide +kernel
theorem d_Md_isMade_23 : decode b_Md_isMade 23 = .ok (.iload_n 2, 1) := by decide +kernel
theorem d_Md_isMade_24 : decode b_Md_isMade 24 = .ok (.iconst 3, 1) := by decide +kernel
theorem d_Md_isMade_25 : decode b_Md_isMade 25 = .ok (.aload_n 0, 1) := by decide +kernel
theorem d_Md_isMade_26 : decode b_Md_isMade 26 = .ok (.getfield 96, 3) := by decide +kernel
theorem d_Md_isMade_29 : decode b_Md_isMade 29 = .ok (.imul, 1) := by decide +kernel
theorem d_Md_isMade_30 : decode b_Md_isMade 30 = .ok (.if_icmp .ge 78, 3) := by decide +kernel
theorem d_Md_isMade_33 : decode b_Md_isMade 33 = .ok (.iload_n 1, 1) := by decide +kernel
theorem d_Md_isMade_34 : decode b_Md_isMade 34 = .ok (.ifCond .eq 74, 3) := by decide +kernel
theorem d_Md_isMade_37 : decode b_Md_isMade 37 = .ok (.aload_n 0, 1) := by decide +kernel
theorem d_Md_isMade_38 : decode b_Md_isMade 38 = .ok (.getfield 30, 3) := by decide +kernel
theorem d_Md_isMade_41 : decode b_Md_isMade 41 = .ok (.iload_n 2, 1) := by decide +kernel
theorem d_Md_isMade_42 : decode b_Md_isMade 42 = .ok (.iaload, 1) := by decide +kernel
theorem d_Md_isMade_43 : decode b_Md_isMade 43 = .ok (.ifCond .lt 7, 3) := by decide +kernel
theorem d_Md_isMade_46 : decode b_Md_isMade 46 = .ok (.iconst 1, 1) := by decide +kernel
theorem d_Md_isMade_47 : decode b_Md_isMade 47 = .ok (.goto 4, 3) := by decide +kernel
theorem d_Md_isMade_50 : decode b_Md_isMade 50 = .ok (.iconst 0, 1) := by decide +kernel
theorem d_Md_isMade_51 : decode b_Md_isMade 51 = .ok (.istore_n 3, 1) := by decide +kernel
theorem d_Md_isMade_52 : decode b_Md_isMade 52 = .ok (.iconst 0, 1) := by decide +kernel
theorem d_Md_isMade_53 : decode b_Md_isMade 53 = .ok (.istore 4, 2) := by decide +kernel
theorem d_Md_isMade_55 : decode b_Md_isMade 55 = .ok (.iload 4, 2) := by decide +kernel
theorem d_Md_isMade_57 : decode b_Md_isMade 57 = .ok (.iconst 3, 1) := by decide +kernel
theorem d_Md_isMade_58 : decode b_Md_isMade 58 = .ok (.aload_n 0, 1) := by decide +kernel
theorem d_Md_isMade_59 : decode b_Md_isMade 59 = .ok (.getfield 96, 3) := by decide +kernel
theorem d_Md_isMade_62 : decode b_Md_isMade 62 = .ok (.imul, 1) := by decide +kernel
theorem d_Md_isMade_63 : decode b_Md_isMade 63 = .ok (.iconst 3, 1) := by decide +kernel
theorem d_Md_isMade_64 : decode b_Md_isMade 64 = .ok (.isub, 1) := by decide +kernel
theorem d_Md_isMade_65 : decode b_Md_isMade 65 = .ok (.if_icmp .ge 35, 3) := by decide +kernel
theorem d_Md_isMade_68 : decode b_Md_isMade 68 = .ok (.iload_n 3, 1) := by decide +kernel
theorem d_Md_isMade_69 : decode b_Md_isMade 69 = .ok (.ifCond .ne 19, 3) := by decide +kernel
theorem d_Md_isMade_72 : decode b_Md_isMade 72 = .ok (.aload_n 0, 1) := by decide +kernel
theorem d_Md_isMade_73 : decode b_Md_isMade 73 = .ok (.getfield 30, 3) := by decide +kernel
theorem d_Md_isMade_76 : decode b_Md_isMade 76 = .ok (.iload 4, 2) := by decide +kernel
theorem d_Md_isMade_78 : decode b_Md_isMade 78 = .ok (.iaload, 1) := by decide +kernel
theorem d_Md_isMade_79 : decode b_Md_isMade 79 = .ok (.aload_n 0, 1) := by decide +kernel
theorem d_Md_isMade_80 : decode b_Md_isMade 80 = .ok (.getfield 30, 3) := by decide +kernel
theorem d_Md_isMade_83 : decode b_Md_isMade 83 = .ok (.iload_n 2, 1) := by decide +kernel
theorem d_Md_isMade_84 : decode b_Md_isMade 84 = .ok (.iaload, 1) := by decide +kernel
theorem d_Md_isMade_85 : decode b_Md_isMade 85 = .ok (.if_icmp .ne 7, 3) := by decide +kernel
theorem d_Md_isMade_88 : decode b_Md_isMade 88 = .ok (.iconst 1, 1) := by decide +kernel
theorem d_Md_isMade_89 : decode b_Md_isMade 89 = .ok (.goto 4, 3) := by decide +kernel
theorem d_Md_isMade_92 : decode b_Md_isMade 92 = .ok (.iconst 0, 1) := by decide +kernel
theorem d_Md_isMade_93 : decode b_Md_isMade 93 = .ok (.istore_n 3, 1) := by decide +kernel
theorem d_Md_isMade_94 : decode b_Md_isMade 94 = .ok (.iinc 4 1, 3) := by decide +kernel
theorem d_Md_isMade_97 : decode b_Md_isMade 97 = .ok (.goto (-42), 3) := by decide +kernel
theorem d_Md_isMade_100 : decode b_Md_isMade 100 = .ok (.iload_n 3, 1) := by decide +kernel
theorem d_Md_isMade_101 : decode b_Md_isMade 101 = .ok (.istore_n 1, 1) := by decide +kernel
theorem d_Md_isMade_102 : decode b_Md_isMade 102 = .ok (.iinc 2 1, 3) := by decide +kernel
theorem d_Md_isMade_105 : decode b_Md_isMade 105 = .ok (.goto (-82), 3) := by decide +kernel
theorem d_Md_isMade_108 : decode b_Md_isMade 108 = .ok (.iload_n 1, 1) := by decide +kernel
theorem d_Md_isMade_109 : decode b_Md_isMade 109 = .ok (.ireturn, 1) := by decide +kernel
theorem d_Md_rule_0 : decode b_Md_rule 0 = .ok (.aload_n 0, 1) := by decide +kernel
theorem d_Md_rule_1 : decode b_Md_rule 1 = .ok (.invokevirtual 99, 3) := by decide +kernel
theorem d_Md_rule_4 : decode b_Md_rule 4 = .ok (.ifCond .ne 10, 3) := by decide +kernel
theorem d_Md_rule_7 : decode b_Md_rule 7 = .ok (.aload_n 0, 1) := by decide +kernel
theorem d_Md_rule_8 : decode b_Md_rule 8 = .ok (.iconst 0, 1) := by decide +kernel
theorem d_Md_rule_9 : decode b_Md_rule 9 = .ok (.putfield 96, 3) := by decide +kernel
theorem d_Md_rule_12 : decode b_Md_rule 12 = .ok (.iconst (-1), 1) := by decide +kernel
theorem d_Md_rule_13 : decode b_Md_rule 13 = .ok (.ireturn, 1) := by decide +kernel
theorem d_Md_rule_14 : decode b_Md_rule 14 = .ok (.aload_n 0, 1) := by decide +kernel
theorem d_Md_rule_15 : decode b_Md_rule 15 = .ok (.getfield 77, 3) := by decide +kernel
theorem d_Md_rule_18 : decode b_Md_rule 18 = .ok (.bipush 12, 2) := by decide +kernel
theorem d_Md_rule_20 : decode b_Md_rule 20 = .ok (.if_icmp .ne 6, 3) := by decide +kernel
theorem d_Md_rule_23 : decode b_Md_rule 23 = .ok (.bipush (-3), 2) := by decide +kernel
theorem d_Md_rule_25 : decode b_Md_rule 25 = .ok (.ireturn, 1) := by decide +kernel
theorem d_Md_rule_26 : decode b_Md_rule 26 = .ok (.iconst 0, 1) := by decide +kernel
theorem d_Md_rule_27 : decode b_Md_rule 27 = .ok (.istore_n 1, 1) := by decide +kernel
theorem d_Md_rule_28 : decode b_Md_rule 28 = .ok (.iload_n 1, 1) := by decide +kernel
theorem d_Md_rule_29 : decode b_Md_rule 29 = .ok (.iconst 3, 1) := by decide +kernel
theorem d_Md_rule_30 : decode b_Md_rule 30 = .ok (.aload_n 0, 1) := by decide +kernel
theorem d_Md_rule_31 : decode b_Md_rule 31 = .ok (.getfield 96, 3) := by decide +kernel
theorem d_Md_rule_34 : decode b_Md_rule 34 = .ok (.imul, 1) := by decide +kernel
theorem d_Md_rule_35 : decode b_Md_rule 35 = .ok (.if_icmp .ge 29, 3) := by decide +kernel
theorem d_Md_rule_38 : decode b_Md_rule 38 = .ok (.aload_n 0, 1) := by decide +kernel
theorem d_Md_rule_39 : decode b_Md_rule 39 = .ok (.getfield 24, 3) := by decide +kernel
theorem d_Md_rule_42 : decode b_Md_rule 42 = .ok (.bipush 12, 2) := by decide +kernel
theorem d_Md_rule_44 : decode b_Md_rule 44 = .ok (.aload_n 0, 1) := by decide +kernel
theorem d_Md_rule_45 : decode b_Md_rule 45 = .ok (.getfield 77, 3) := by decide +kernel
theorem d_Md_rule_48 : decode b_Md_rule 48 = .ok (.imul, 1) := by decide +kernel
theorem d_Md_rule_49 : decode b_Md_rule 49 = .ok (.iload_n 1, 1) := by decide +kernel
theorem d_Md_rule_50 : decode b_Md_rule 50 = .ok (.iadd, 1) := by decide +kernel
theorem d_Md_rule_51 : decode b_Md_rule 51 = .ok (.aload_n 0, 1) := by decide +kernel
theorem d_Md_rule_52 : decode b_Md_rule 52 = .ok (.getfield 30, 3) := by decide +kernel
theorem d_Md_rule_55 : decode b_Md_rule 55 = .ok (.iload_n 1, 1) := by decide +kernel
theorem d_Md_rule_56 : decode b_Md_rule 56 = .ok (.iaload, 1) := by decide +kernel
theorem d_Md_rule_57 : decode b_Md_rule 57 = .ok (.iastore, 1) := by decide +kernel
theorem d_Md_rule_58 : decode b_Md_rule 58 = .ok (.iinc 1 1, 3) := by decide +kernel
theorem d_Md_rule_61 : decode b_Md_rule 61 = .ok (.goto (-33), 3) := by decide +kernel
theorem d_Md_rule_64 : decode b_Md_rule 64 = .ok (.aload_n 0, 1) := by decide +kernel
theorem d_Md_rule_65 : decode b_Md_rule 65 = .ok (.getfield 27, 3) := by decide +kernel
theorem d_Md_rule_68 : decode b_Md_rule 68 = .ok (.aload_n 0, 1) := by decide +kernel
theorem d_Md_rule_69 : decode b_Md_rule 69 = .ok (.getfield 77, 3) := by decide +kernel
theorem d_Md_rule_72 : decode b_Md_rule 72 = .ok (.aload_n 0, 1) := by decide +kernel
theorem d_Md_rule_73 : decode b_Md_rule 73 = .ok (.getfield 96, 3) := by decide +kernel
theorem d_Md_rule_76 : decode b_Md_rule 76 = .ok (.iconst 1, 1) := by decide +kernel
theorem d_Md_rule_77 : decode b_Md_rule 77 = .ok (.isub, 1) := by decide +kernel
theorem d_Md_rule_78 : decode b_Md_rule 78 = .ok (.iastore, 1) := by decide +kernel
theorem d_Md_rule_79 : decode b_Md_rule 79 = .ok (.aload_n 0, 1) := by decide +kernel
theorem d_Md_rule_80 : decode b_Md_rule 80 = .ok (.dup, 1) := by decide +kernel
theorem d_Md_rule_81 : decode b_Md_rule 81 = .ok (.getfield 77, 3) := by decide +kernel
theorem d_Md_rule_84 : decode b_Md_rule 84 = .ok (.iconst 1, 1) := by decide +kernel
theorem d_Md_rule_85 : decode b_Md_rule 85 = .ok (.iadd, 1) := by decide +kernel
theorem d_Md_rule_86 : decode b_Md_rule 86 = .ok (.putfield 77, 3) := by decide +kernel
theorem d_Md_rule_89 : decode b_Md_rule 89 = .ok (.aload_n 0, 1) := by decide +kernel
theorem d_Md_rule_90 : decode b_Md_rule 90 = .ok (.invokevirtual 89, 3) := by decide +kernel
theorem d_Md_rule_93 : decode b_Md_rule 93 = .ok (.ifCond .ne 21, 3) := by decide +kernel
theorem d_Md_rule_96 : decode b_Md_rule 96 = .ok (.aload_n 0, 1) := by decide +kernel
theorem d_Md_rule_97 : decode b_Md_rule 97 = .ok (.dup, 1) := by decide +kernel
theorem d_Md_rule_98 : decode b_Md_rule 98 = .ok (.getfield 77, 3) := by decide +kernel
theorem d_Md_rule_101 : decode b_Md_rule 101 = .ok (.iconst 1, 1) := by decide +kernel
theorem d_Md_rule_102 : decode b_Md_rule 102 = .ok (.isub, 1) := by decide +kernel
theorem d_Md_rule_103 : decode b_Md_rule 103 = .ok (.putfield 77, 3) := by decide +kernel
theorem d_Md_rule_106 : decode b_Md_rule 106 = .ok (.aload_n 0, 1) := by decide +kernel
theorem d_Md_rule_107 : decode b_Md_rule 107 = .ok (.invokevirtual 89, 3) := by decide +kernel
theorem d_Md_rule_110 : decode b_Md_rule 110 = .ok (.pop, 1) := by decide +kernel
theorem d_Md_rule_111 : decode b_Md_rule 111 = .ok (.bipush (-3), 2) := by decide +kernel
theorem d_Md_rule_113 : decode b_Md_rule 113 = .ok (.ireturn, 1) := by decide +kernel
theorem d_Md_rule_114 : decode b_Md_rule 114 = .ok (.aload_n 0, 1) := by decide +kernel
theorem d_Md_rule_115 : decode b_Md_rule 115 = .ok (.iconst 0, 1) := by decide +kernel
theorem d_Md_rule_116 : decode b_Md_rule 116 = .ok (.putfield 96, 3) := by decide +kernel
theorem d_Md_rule_119 : decode b_Md_rule 119 = .ok (.aload_n 0, 1) := by decide +kernel
theorem d_Md_rule_120 : decode b_Md_rule 120 = .ok (.getfield 77, 3) := by decide +kernel
theorem d_Md_rule_123 : decode b_Md_rule 123 = .ok (.iconst 1, 1) := by decide +kernel
theorem d_Md_rule_124 : decode b_Md_rule 124 = .ok (.isub, 1) := by decide +kernel
theorem d_Md_rule_125 : decode b_Md_rule 125 = .ok (.ireturn, 1) := by decide +kernel
theorem d_Md_unrule_0 : decode b_Md_unrule 0 = .ok (.iload_n 1, 1) := by decide +kernel
theorem d_Md_unrule_1 : decode b_Md_unrule 1 = .ok (.ifCond .lt 11, 3) := by decide +kernel
theorem d_Md_unrule_4 : decode b_Md_unrule 4 = .ok (.iload_n 1, 1) := by decide +kernel
theorem d_Md_unrule_5 : decode b_Md_unrule 5 = .ok (.aload_n 0, 1) := by decide +kernel
theorem d_Md_unrule_6 : decode b_Md_unrule 6 = .ok (.getfield 77, 3) := by decide +kernel
theorem d_Md_unrule_9 : decode b_Md_unrule 9 = .ok (.if_icmp .lt 5, 3) := by decide +kernel
theorem d_Md_unrule_12 : decode b_Md_unrule 12 = .ok (.iconst (-1), 1) := by decide +kernel
theorem d_Md_unrule_13 : decode b_Md_unrule 13 = .ok (.ireturn, 1) := by decide +kernel
theorem d_Md_unrule_14 : decode b_Md_unrule 14 = .ok (.aload_n 0, 1) := by decide +kernel
theorem d_Md_unrule_15 : decode b_Md_unrule 15 = .ok (.dup, 1) := by decide +kernel
theorem d_Md_unrule_16 : decode b_Md_unrule 16 = .ok (.getfield 77, 3) := by decide +kernel
theorem d_Md_unrule_19 : decode b_Md_unrule 19 = .ok (.iconst 1, 1) := by decide +kernel
theorem d_Md_unrule_20 : decode b_Md_unrule 20 = .ok (.isub, 1) := by decide +kernel
theorem d_Md_unrule_21 : decode b_Md_unrule 21 = .ok (.putfield 77, 3) := by decide +kernel
theorem d_Md_unrule_24 : decode b_Md_unrule 24 = .ok (.iload_n 1, 1) := by decide +kernel
theorem d_Md_unrule_25 : decode b_Md_unrule 25 = .ok (.istore_n 2, 1) := by decide +kernel
theorem d_Md_unrule_26 : decode b_Md_unrule 26 = .ok (.iload_n 2, 1) := by decide +kernel
theorem d_Md_unrule_27 : decode b_Md_unrule 27 = .ok (.aload_n 0, 1) := by decide +kernel
theorem d_Md_unrule_28 : decode b_Md_unrule 28 = .ok (.getfield 77, 3) := by decide +kernel
theorem d_Md_unrule_31 : decode b_Md_unrule 31 = .ok (.if_icmp .ge 62, 3) := by decide +kernel
theorem d_Md_unrule_34 : decode b_Md_unrule 34 = .ok (.aload_n 0, 1) := by decide +kernel
theorem d_Md_unrule_35 : decode b_Md_unrule 35 = .ok (.getfield 27, 3) := by decide +kernel
theorem d_Md_unrule_38 : decode b_Md_unrule 38 = .ok (.iload_n 2, 1) := by decide +kernel
theorem d_Md_unrule_39 : decode b_Md_unrule 39 = .ok (.aload_n 0, 1) := by decide +kernel
theorem d_Md_unrule_40 : decode b_Md_unrule 40 = .ok (.getfield 27, 3) := by decide +kernel
theorem d_Md_unrule_43 : decode b_Md_unrule 43 = .ok (.iload_n 2, 1) := by decide +kernel
theorem d_Md_unrule_44 : decode b_Md_unrule 44 = .ok (.iconst 1, 1) := by decide +kernel
theorem d_Md_unrule_45 : decode b_Md_unrule 45 = .ok (.iadd, 1) := by decide +kernel
theorem d_Md_unrule_46 : decode b_Md_unrule 46 = .ok (.iaload, 1) := by decide +kernel
theorem d_Md_unrule_47 : decode b_Md_unrule 47 = .ok (.iastore, 1) := by decide +kernel
theorem d_Md_unrule_48 : decode b_Md_unrule 48 = .ok (.iconst 0, 1) := by decide +kernel
theorem d_Md_unrule_49 : decode b_Md_unrule 49 = .ok (.istore_n 3, 1) := by decide +kernel
theorem d_Md_unrule_50 : decode b_Md_unrule 50 = .ok (.iload_n 3, 1) := by decide +kernel
theorem d_Md_unrule_51 : decode b_Md_unrule 51 = .ok (.bipush 12, 2) := by decide +kernel
theorem d_Md_unrule_53 : decode b_Md_unrule 53 = .ok (.if_icmp .ge 34, 3) := by decide +kernel
theorem d_Md_unrule_56 : decode b_Md_unrule 56 = .ok (.aload_n 0, 1) := by decide +kernel
theorem d_Md_unrule_57 : decode b_Md_unrule 57 = .ok (.getfield 24, 3) := by decide +kernel
theorem d_Md_unrule_60 : decode b_Md_unrule 60 = .ok (.bipush 12, 2) := by decide +kernel
theorem d_Md_unrule_62 : decode b_Md_unrule 62 = .ok (.iload_n 2, 1) := by decide +kernel
theorem d_Md_unrule_63 : decode b_Md_unrule 63 = .ok (.imul, 1) := by decide +kernel
theorem d_Md_unrule_64 : decode b_Md_unrule 64 = .ok (.iload_n 3, 1) := by decide +kernel
theorem d_Md_unrule_65 : decode b_Md_unrule 65 = .ok (.iadd, 1) := by decide +kernel
theorem d_Md_unrule_66 : decode b_Md_unrule 66 = .ok (.aload_n 0, 1) := by decide +kernel
theorem d_Md_unrule_67 : decode b_Md_unrule 67 = .ok (.getfield 24, 3) := by decide +kernel
theorem d_Md_unrule_70 : decode b_Md_unrule 70 = .ok (.bipush 12, 2) := by decide +kernel
theorem d_Md_unrule_72 : decode b_Md_unrule 72 = .ok (.iload_n 2, 1) := by decide +kernel
theorem d_Md_unrule_73 : decode b_Md_unrule 73 = .ok (.imul, 1) := by decide +kernel
theorem d_Md_unrule_74 : decode b_Md_unrule 74 = .ok (.bipush 12, 2) := by decide +kernel
theorem d_Md_unrule_76 : decode b_Md_unrule 76 = .ok (.iadd, 1) := by decide +kernel
theorem d_Md_unrule_77 : decode b_Md_unrule 77 = .ok (.iload_n 3, 1) := by decide +kernel
theorem d_Md_unrule_78 : decode b_Md_unrule 78 = .ok (.iadd, 1) := by decide +kernel
theorem d_Md_unrule_79 : decode b_Md_unrule 79 = .ok (.iaload, 1) := by decide +kernel
theorem d_Md_unrule_80 : decode b_Md_unrule 80 = .ok (.iastore, 1) := by decide +kernel
theorem d_Md_unrule_81 : decode b_Md_unrule 81 = .ok (.iinc 3 1, 3) := by decide +kernel
theorem d_Md_unrule_84 : decode b_Md_unrule 84 = .ok (.goto (-34), 3) := by decide +kernel
theorem d_Md_unrule_87 : decode b_Md_unrule 87 = .ok (.iinc 2 1, 3) := by decide +kernel
theorem d_Md_unrule_90 : decode b_Md_unrule 90 = .ok (.goto (-64), 3) := by decide +kernel
theorem d_Md_unrule_93 : decode b_Md_unrule 93 = .ok (.aload_n 0, 1) := by decide +kernel
theorem d_Md_unrule_94 : decode b_Md_unrule 94 = .ok (.invokevirtual 89, 3) := by decide +kernel
theorem d_Md_unrule_97 : decode b_Md_unrule 97 = .ok (.pop, 1) := by decide +kernel
theorem d_Md_unrule_98 : decode b_Md_unrule 98 = .ok (.aload_n 0, 1) := by decide +kernel
theorem d_Md_unrule_99 : decode b_Md_unrule 99 = .ok (.getfield 77, 3) := by decide +kernel
theorem d_Md_unrule_102 : decode b_Md_unrule 102 = .ok (.ireturn, 1) := by decide +kernel
theorem d_Md_rules_0 : decode b_Md_rules 0 = .ok (.aload_n 0, 1) := by decide +kernel
theorem d_Md_rules_1 : decode b_Md_rules 1 = .ok (.getfield 77, 3) := by decide +kernel
theorem d_Md_rules_4 : decode b_Md_rules 4 = .ok (.ireturn, 1) := by decide +kernel
theorem d_Md_holds_0 : decode b_Md_holds 0 = .ok (.iload_n 1, 1) := by decide +kernel
theorem d_Md_holds_1 : decode b_Md_holds 1 = .ok (.invokestatic 86, 3) := by decide +kernel
theorem d_Md_holds_4 : decode b_Md_holds 4 = .ok (.ifCond .eq 17, 3) := by decide +kernel
theorem d_Md_holds_7 : decode b_Md_holds 7 = .ok (.iload_n 2, 1) := by decide +kernel
theorem d_Md_holds_8 : decode b_Md_holds 8 = .ok (.invokestatic 86, 3) := by decide +kernel
theorem d_Md_holds_11 : decode b_Md_holds 11 = .ok (.ifCond .eq 10, 3) := by decide +kernel
theorem d_Md_holds_14 : decode b_Md_holds 14 = .ok (.iload_n 3, 1) := by decide +kernel
theorem d_Md_holds_15 : decode b_Md_holds 15 = .ok (.invokestatic 86, 3) := by decide +kernel
theorem d_Md_holds_18 : decode b_Md_holds 18 = .ok (.ifCond .ne 5, 3) := by decide +kernel
theorem d_Md_holds_21 : decode b_Md_holds 21 = .ok (.iconst (-1), 1) := by decide +kernel
theorem d_Md_holds_22 : decode b_Md_holds 22 = .ok (.ireturn, 1) := by decide +kernel
theorem d_Md_holds_23 : decode b_Md_holds 23 = .ok (.iload_n 1, 1) := by decide +kernel
theorem d_Md_holds_24 : decode b_Md_holds 24 = .ok (.iload_n 2, 1) := by decide +kernel
theorem d_Md_holds_25 : decode b_Md_holds 25 = .ok (.iload_n 3, 1) := by decide +kernel
theorem d_Md_holds_26 : decode b_Md_holds 26 = .ok (.invokestatic 69, 3) := by decide +kernel
theorem d_Md_holds_29 : decode b_Md_holds 29 = .ok (.istore 4, 2) := by decide +kernel
theorem d_Md_holds_31 : decode b_Md_holds 31 = .ok (.aload_n 0, 1) := by decide +kernel
theorem d_Md_holds_32 : decode b_Md_holds 32 = .ok (.getfield 8, 3) := by decide +kernel
theorem d_Md_holds_35 : decode b_Md_holds 35 = .ok (.iload 4, 2) := by decide +kernel
theorem d_Md_holds_37 : decode b_Md_holds 37 = .ok (.baload, 1) := by decide +kernel
theorem d_Md_holds_38 : decode b_Md_holds 38 = .ok (.ifCond .eq 7, 3) := by decide +kernel
theorem d_Md_holds_41 : decode b_Md_holds 41 = .ok (.iconst 1, 1) := by decide +kernel
theorem d_Md_holds_42 : decode b_Md_holds 42 = .ok (.goto 18, 3) := by decide +kernel
theorem d_Md_holds_45 : decode b_Md_holds 45 = .ok (.aload_n 0, 1) := by decide +kernel
theorem d_Md_holds_46 : decode b_Md_holds 46 = .ok (.getfield 14, 3) := by decide +kernel
theorem d_Md_holds_49 : decode b_Md_holds 49 = .ok (.iload 4, 2) := by decide +kernel
theorem d_Md_holds_51 : decode b_Md_holds 51 = .ok (.baload, 1) := by decide +kernel
theorem d_Md_holds_52 : decode b_Md_holds 52 = .ok (.ifCond .eq 7, 3) := by decide +kernel
theorem d_Md_holds_55 : decode b_Md_holds 55 = .ok (.iconst 2, 1) := by decide +kernel
theorem d_Md_holds_56 : decode b_Md_holds 56 = .ok (.goto 4, 3) := by decide +kernel
theorem d_Md_holds_59 : decode b_Md_holds 59 = .ok (.iconst 0, 1) := by decide +kernel
theorem d_Md_holds_60 : decode b_Md_holds 60 = .ok (.ireturn, 1) := by decide +kernel
theorem d_Md_support_0 : decode b_Md_support 0 = .ok (.iload_n 1, 1) := by decide +kernel
theorem d_Md_support_1 : decode b_Md_support 1 = .ok (.invokestatic 86, 3) := by decide +kernel
theorem d_Md_support_4 : decode b_Md_support 4 = .ok (.ifCond .eq 31, 3) := by decide +kernel
theorem d_Md_support_7 : decode b_Md_support 7 = .ok (.iload_n 2, 1) := by decide +kernel
theorem d_Md_support_8 : decode b_Md_support 8 = .ok (.invokestatic 86, 3) := by decide +kernel
theorem d_Md_support_11 : decode b_Md_support 11 = .ok (.ifCond .eq 24, 3) := by decide +kernel
theorem d_Md_support_14 : decode b_Md_support 14 = .ok (.iload_n 3, 1) := by decide +kernel
theorem d_Md_support_15 : decode b_Md_support 15 = .ok (.invokestatic 86, 3) := by decide +kernel
theorem d_Md_support_18 : decode b_Md_support 18 = .ok (.ifCond .eq 17, 3) := by decide +kernel
theorem d_Md_support_21 : decode b_Md_support 21 = .ok (.aload_n 0, 1) := by decide +kernel
theorem d_Md_support_22 : decode b_Md_support 22 = .ok (.getfield 17, 3) := by decide +kernel
theorem d_Md_support_25 : decode b_Md_support 25 = .ok (.iload_n 1, 1) := by decide +kernel
theorem d_Md_support_26 : decode b_Md_support 26 = .ok (.iload_n 2, 1) := by decide +kernel
theorem d_Md_support_27 : decode b_Md_support 27 = .ok (.iload_n 3, 1) := by decide +kernel
theorem d_Md_support_28 : decode b_Md_support 28 = .ok (.invokestatic 69, 3) := by decide +kernel
theorem d_Md_support_31 : decode b_Md_support 31 = .ok (.iaload, 1) := by decide +kernel
theorem d_Md_support_32 : decode b_Md_support 32 = .ok (.goto 4, 3) := by decide +kernel
theorem d_Md_support_35 : decode b_Md_support 35 = .ok (.iconst (-1), 1) := by decide +kernel
theorem d_Md_support_36 : decode b_Md_support 36 = .ok (.ireturn, 1) := by decide +kernel
theorem d_Md_size_0 : decode b_Md_size 0 = .ok (.aload_n 0, 1) := by decide +kernel
theorem d_Md_size_1 : decode b_Md_size 1 = .ok (.getfield 53, 3) := by decide +kernel
theorem d_Md_size_4 : decode b_Md_size 4 = .ok (.ireturn, 1) := by decide +kernel
theorem d_Md_next_0 : decode b_Md_next 0 = .ok (.iload_n 1, 1) := by decide +kernel
theorem d_Md_next_1 : decode b_Md_next 1 = .ok (.ifCond .ge 7, 3) := by decide +kernel
theorem d_Md_next_4 : decode b_Md_next 4 = .ok (.iconst 0, 1) := by decide +kernel
theorem d_Md_next_5 : decode b_Md_next 5 = .ok (.goto 4, 3) := by decide +kernel
theorem d_Md_next_8 : decode b_Md_next 8 = .ok (.iload_n 1, 1) := by decide +kernel
theorem d_Md_next_9 : decode b_Md_next 9 = .ok (.istore_n 2, 1) := by decide +kernel
theorem d_Md_next_10 : decode b_Md_next 10 = .ok (.iload_n 2, 1) := by decide +kernel
theorem d_Md_next_11 : decode b_Md_next 11 = .ok (.ldc 7, 2) := by decide +kernel
theorem d_Md_next_13 : decode b_Md_next 13 = .ok (.if_icmp .ge 25, 3) := by decide +kernel
theorem d_Md_next_16 : decode b_Md_next 16 = .ok (.iload_n 2, 1) := by decide +kernel
theorem d_Md_next_17 : decode b_Md_next 17 = .ok (.iload_n 1, 1) := by decide +kernel
theorem d_Md_next_18 : decode b_Md_next 18 = .ok (.if_icmp .le 14, 3) := by decide +kernel
theorem d_Md_next_21 : decode b_Md_next 21 = .ok (.aload_n 0, 1) := by decide +kernel
theorem d_Md_next_22 : decode b_Md_next 22 = .ok (.getfield 14, 3) := by decide +kernel
theorem d_Md_next_25 : decode b_Md_next 25 = .ok (.iload_n 2, 1) := by decide +kernel
theorem d_Md_next_26 : decode b_Md_next 26 = .ok (.baload, 1) := by decide +kernel
theorem d_Md_next_27 : decode b_Md_next 27 = .ok (.ifCond .eq 5, 3) := by decide +kernel
theorem d_Md_next_30 : decode b_Md_next 30 = .ok (.iload_n 2, 1) := by decide +kernel
theorem d_Md_next_31 : decode b_Md_next 31 = .ok (.ireturn, 1) := by decide +kernel
theorem d_Md_next_32 : decode b_Md_next 32 = .ok (.iinc 2 1, 3) := by decide +kernel
theorem d_Md_next_35 : decode b_Md_next 35 = .ok (.goto (-25), 3) := by decide +kernel
theorem d_Md_next_38 : decode b_Md_next 38 = .ok (.bipush (-2), 2) := by decide +kernel
theorem d_Md_next_40 : decode b_Md_next 40 = .ok (.ireturn, 1) := by decide +kernel
theorem d_Md_fitting_0 : decode b_Md_fitting 0 = .ok (.iload_n 1, 1) := by decide +kernel
theorem d_Md_fitting_1 : decode b_Md_fitting 1 = .ok (.invokestatic 93, 3) := by decide +kernel
theorem d_Md_fitting_4 : decode b_Md_fitting 4 = .ok (.ifCond .eq 17, 3) := by decide +kernel
theorem d_Md_fitting_7 : decode b_Md_fitting 7 = .ok (.iload_n 2, 1) := by decide +kernel
theorem d_Md_fitting_8 : decode b_Md_fitting 8 = .ok (.invokestatic 93, 3) := by decide +kernel
theorem d_Md_fitting_11 : decode b_Md_fitting 11 = .ok (.ifCond .eq 10, 3) := by decide +kernel
theorem d_Md_fitting_14 : decode b_Md_fitting 14 = .ok (.iload_n 3, 1) := by decide +kernel
theorem d_Md_fitting_15 : decode b_Md_fitting 15 = .ok (.invokestatic 93, 3) := by decide +kernel
theorem d_Md_fitting_18 : decode b_Md_fitting 18 = .ok (.ifCond .ne 5, 3) := by decide +kernel
theorem d_Md_fitting_21 : decode b_Md_fitting 21 = .ok (.iconst (-1), 1) := by decide +kernel
theorem d_Md_fitting_22 : decode b_Md_fitting 22 = .ok (.ireturn, 1) := by decide +kernel
theorem d_Md_fitting_23 : decode b_Md_fitting 23 = .ok (.aload_n 0, 1) := by decide +kernel
theorem d_Md_fitting_24 : decode b_Md_fitting 24 = .ok (.getfield 42, 3) := by decide +kernel
theorem d_Md_fitting_27 : decode b_Md_fitting 27 = .ok (.iconst 0, 1) := by decide +kernel
theorem d_Md_fitting_28 : decode b_Md_fitting 28 = .ok (.iload_n 1, 1) := by decide +kernel
theorem d_Md_fitting_29 : decode b_Md_fitting 29 = .ok (.iastore, 1) := by decide +kernel
theorem d_Md_fitting_30 : decode b_Md_fitting 30 = .ok (.aload_n 0, 1) := by decide +kernel
theorem d_Md_fitting_31 : decode b_Md_fitting 31 = .ok (.getfield 42, 3) := by decide +kernel
theorem d_Md_fitting_34 : decode b_Md_fitting 34 = .ok (.iconst 1, 1) := by decide +kernel
theorem d_Md_fitting_35 : decode b_Md_fitting 35 = .ok (.iload_n 2, 1) := by decide +kernel
theorem d_Md_fitting_36 : decode b_Md_fitting 36 = .ok (.iastore, 1) := by decide +kernel
theorem d_Md_fitting_37 : decode b_Md_fitting 37 = .ok (.aload_n 0, 1) := by decide +kernel
theorem d_Md_fitting_38 : decode b_Md_fitting 38 = .ok (.getfield 42, 3) := by decide +kernel
theorem d_Md_fitting_41 : decode b_Md_fitting 41 = .ok (.iconst 2, 1) := by decide +kernel
theorem d_Md_fitting_42 : decode b_Md_fitting 42 = .ok (.iload_n 3, 1) := by decide +kernel
theorem d_Md_fitting_43 : decode b_Md_fitting 43 = .ok (.iastore, 1) := by decide +kernel
theorem d_Md_fitting_44 : decode b_Md_fitting 44 = .ok (.iconst 0, 1) := by decide +kernel
theorem d_Md_fitting_45 : decode b_Md_fitting 45 = .ok (.istore 4, 2) := by decide +kernel
theorem d_Md_fitting_47 : decode b_Md_fitting 47 = .ok (.iconst 0, 1) := by decide +kernel
theorem d_Md_fitting_48 : decode b_Md_fitting 48 = .ok (.istore 5, 2) := by decide +kernel
theorem d_Md_fitting_50 : decode b_Md_fitting 50 = .ok (.iload 5, 2) := by decide +kernel
theorem d_Md_fitting_52 : decode b_Md_fitting 52 = .ok (.aload_n 0, 1) := by decide +kernel
theorem d_Md_fitting_53 : decode b_Md_fitting 53 = .ok (.getfield 53, 3) := by decide +kernel
theorem d_Md_fitting_56 : decode b_Md_fitting 56 = .ok (.if_icmp .ge 42, 3) := by decide +kernel
theorem d_Md_fitting_59 : decode b_Md_fitting 59 = .ok (.aload_n 0, 1) := by decide +kernel
theorem d_Md_fitting_60 : decode b_Md_fitting 60 = .ok (.invokevirtual 80, 3) := by decide +kernel
theorem d_Md_fitting_63 : decode b_Md_fitting 63 = .ok (.iload 4, 2) := by decide +kernel
theorem d_Md_fitting_65 : decode b_Md_fitting 65 = .ok (.aload_n 0, 1) := by decide +kernel
theorem d_Md_fitting_66 : decode b_Md_fitting 66 = .ok (.aload_n 0, 1) := by decide +kernel
theorem d_Md_fitting_67 : decode b_Md_fitting 67 = .ok (.getfield 42, 3) := by decide +kernel
theorem d_Md_fitting_70 : decode b_Md_fitting 70 = .ok (.iconst 0, 1) := by decide +kernel
theorem d_Md_fitting_71 : decode b_Md_fitting 71 = .ok (.aload_n 0, 1) := by decide +kernel
theorem d_Md_fitting_72 : decode b_Md_fitting 72 = .ok (.getfield 21, 3) := by decide +kernel
theorem d_Md_fitting_75 : decode b_Md_fitting 75 = .ok (.iload 5, 2) := by decide +kernel
theorem d_Md_fitting_77 : decode b_Md_fitting 77 = .ok (.iaload, 1) := by decide +kernel
theorem d_Md_fitting_78 : decode b_Md_fitting 78 = .ok (.invokevirtual 57, 3) := by decide +kernel
theorem d_Md_fitting_81 : decode b_Md_fitting 81 = .ok (.ifCond .eq 7, 3) := by decide +kernel
theorem d_Md_fitting_84 : decode b_Md_fitting 84 = .ok (.iconst 1, 1) := by decide +kernel
theorem d_Md_fitting_85 : decode b_Md_fitting 85 = .ok (.goto 4, 3) := by decide +kernel
theorem d_Md_fitting_88 : decode b_Md_fitting 88 = .ok (.iconst 0, 1) := by decide +kernel
theorem d_Md_fitting_89 : decode b_Md_fitting 89 = .ok (.iadd, 1) := by decide +kernel
theorem d_Md_fitting_90 : decode b_Md_fitting 90 = .ok (.istore 4, 2) := by decide +kernel
theorem d_Md_fitting_92 : decode b_Md_fitting 92 = .ok (.iinc 5 1, 3) := by decide +kernel
theorem d_Md_fitting_95 : decode b_Md_fitting 95 = .ok (.goto (-45), 3) := by decide +kernel
theorem d_Md_fitting_98 : decode b_Md_fitting 98 = .ok (.iload 4, 2) := by decide +kernel
theorem d_Md_fitting_100 : decode b_Md_fitting 100 = .ok (.ireturn, 1) := by decide +kernel
theorem d_Md_clear_0 : decode b_Md_clear 0 = .ok (.iconst 0, 1) := by decide +kernel
theorem d_Md_clear_1 : decode b_Md_clear 1 = .ok (.istore_n 1, 1) := by decide +kernel
theorem d_Md_clear_2 : decode b_Md_clear 2 = .ok (.iconst 0, 1) := by decide +kernel
theorem d_Md_clear_3 : decode b_Md_clear 3 = .ok (.istore_n 2, 1) := by decide +kernel
theorem d_Md_clear_4 : decode b_Md_clear 4 = .ok (.iload_n 2, 1) := by decide +kernel
theorem d_Md_clear_5 : decode b_Md_clear 5 = .ok (.ldc 7, 2) := by decide +kernel
theorem d_Md_clear_7 : decode b_Md_clear 7 = .ok (.if_icmp .ge 33, 3) := by decide +kernel
theorem d_Md_clear_10 : decode b_Md_clear 10 = .ok (.iload_n 1, 1) := by decide +kernel
theorem d_Md_clear_11 : decode b_Md_clear 11 = .ok (.aload_n 0, 1) := by decide +kernel
theorem d_Md_clear_12 : decode b_Md_clear 12 = .ok (.getfield 8, 3) := by decide +kernel
theorem d_Md_clear_15 : decode b_Md_clear 15 = .ok (.iload_n 2, 1) := by decide +kernel
theorem d_Md_clear_16 : decode b_Md_clear 16 = .ok (.baload, 1) := by decide +kernel
theorem d_Md_clear_17 : decode b_Md_clear 17 = .ok (.ifCond .eq 7, 3) := by decide +kernel
theorem d_Md_clear_20 : decode b_Md_clear 20 = .ok (.iconst 1, 1) := by decide +kernel
theorem d_Md_clear_21 : decode b_Md_clear 21 = .ok (.goto 4, 3) := by decide +kernel
theorem d_Md_clear_24 : decode b_Md_clear 24 = .ok (.iconst 0, 1) := by decide +kernel
theorem d_Md_clear_25 : decode b_Md_clear 25 = .ok (.iadd, 1) := by decide +kernel
theorem d_Md_clear_26 : decode b_Md_clear 26 = .ok (.istore_n 1, 1) := by decide +kernel
theorem d_Md_clear_27 : decode b_Md_clear 27 = .ok (.aload_n 0, 1) := by decide +kernel
theorem d_Md_clear_28 : decode b_Md_clear 28 = .ok (.getfield 8, 3) := by decide +kernel
theorem d_Md_clear_31 : decode b_Md_clear 31 = .ok (.iload_n 2, 1) := by decide +kernel
theorem d_Md_clear_32 : decode b_Md_clear 32 = .ok (.iconst 0, 1) := by decide +kernel
theorem d_Md_clear_33 : decode b_Md_clear 33 = .ok (.bastore, 1) := by decide +kernel
theorem d_Md_clear_34 : decode b_Md_clear 34 = .ok (.iinc 2 1, 3) := by decide +kernel
theorem d_Md_clear_37 : decode b_Md_clear 37 = .ok (.goto (-33), 3) := by decide +kernel
theorem d_Md_clear_40 : decode b_Md_clear 40 = .ok (.aload_n 0, 1) := by decide +kernel
theorem d_Md_clear_41 : decode b_Md_clear 41 = .ok (.invokevirtual 89, 3) := by decide +kernel
theorem d_Md_clear_44 : decode b_Md_clear 44 = .ok (.pop, 1) := by decide +kernel
theorem d_Md_clear_45 : decode b_Md_clear 45 = .ok (.iload_n 1, 1) := by decide +kernel
theorem d_Md_clear_46 : decode b_Md_clear 46 = .ok (.ireturn, 1) := by decide +kernel
end
section
theorem d_Lw_law_0 : decode b_Lw_law 0 = .ok (.new 7, 3) := by decide +kernel
theorem d_Lw_law_3 : decode b_Lw_law 3 = .ok (.dup, 1) := by decide +kernel
theorem d_Lw_law_4 : decode b_Lw_law 4 = .ok (.invokespecial 9, 3) := by decide +kernel
theorem d_Lw_law_7 : decode b_Lw_law 7 = .ok (.astore_n 1, 1) := by decide +kernel
theorem d_Lw_law_8 : decode b_Lw_law 8 = .ok (.new 10, 3) := by decide +kernel
theorem d_Lw_law_11 : decode b_Lw_law 11 = .ok (.dup, 1) := by decide +kernel
theorem d_Lw_law_12 : decode b_Lw_law 12 = .ok (.invokespecial 12, 3) := by decide +kernel
theorem d_Lw_law_15 : decode b_Lw_law 15 = .ok (.astore_n 2, 1) := by decide +kernel
theorem d_Lw_law_16 : decode b_Lw_law 16 = .ok (.iconst 0, 1) := by decide +kernel
theorem d_Lw_law_17 : decode b_Lw_law 17 = .ok (.istore_n 3, 1) := by decide +kernel
theorem d_Lw_law_18 : decode b_Lw_law 18 = .ok (.iload_n 3, 1) := by decide +kernel
theorem d_Lw_law_19 : decode b_Lw_law 19 = .ok (.aload_n 0, 1) := by decide +kernel
theorem d_Lw_law_20 : decode b_Lw_law 20 = .ok (.arraylength, 1) := by decide +kernel
theorem d_Lw_law_21 : decode b_Lw_law 21 = .ok (.iconst 4, 1) := by decide +kernel
theorem d_Lw_law_22 : decode b_Lw_law 22 = .ok (.isub, 1) := by decide +kernel
theorem d_Lw_law_23 : decode b_Lw_law 23 = .ok (.if_icmp .gt 435, 3) := by decide +kernel
theorem d_Lw_law_26 : decode b_Lw_law 26 = .ok (.aload_n 0, 1) := by decide +kernel
theorem d_Lw_law_27 : decode b_Lw_law 27 = .ok (.iload_n 3, 1) := by decide +kernel
theorem d_Lw_law_28 : decode b_Lw_law 28 = .ok (.iaload, 1) := by decide +kernel
theorem d_Lw_law_29 : decode b_Lw_law 29 = .ok (.bipush 15, 2) := by decide +kernel
theorem d_Lw_law_31 : decode b_Lw_law 31 = .ok (.iand, 1) := by decide +kernel
theorem d_Lw_law_32 : decode b_Lw_law 32 = .ok (.tableswitch 420 0 11 #[64, 107, 150, 193, 206, 229, 242, 285, 328, 341, 364, 407], 64) := by decide +kernel
theorem d_Lw_law_96 : decode b_Lw_law 96 = .ok (.aload_n 1, 1) := by decide +kernel
theorem d_Lw_law_97 : decode b_Lw_law 97 = .ok (.aload_n 0, 1) := by decide +kernel
theorem d_Lw_law_98 : decode b_Lw_law 98 = .ok (.iload_n 3, 1) := by decide +kernel
theorem d_Lw_law_99 : decode b_Lw_law 99 = .ok (.iconst 1, 1) := by decide +kernel
theorem d_Lw_law_100 : decode b_Lw_law 100 = .ok (.iadd, 1) := by decide +kernel
theorem d_Lw_law_101 : decode b_Lw_law 101 = .ok (.iaload, 1) := by decide +kernel
theorem d_Lw_law_102 : decode b_Lw_law 102 = .ok (.aload_n 0, 1) := by decide +kernel
theorem d_Lw_law_103 : decode b_Lw_law 103 = .ok (.iload_n 3, 1) := by decide +kernel
theorem d_Lw_law_104 : decode b_Lw_law 104 = .ok (.iconst 2, 1) := by decide +kernel
theorem d_Lw_law_105 : decode b_Lw_law 105 = .ok (.iadd, 1) := by decide +kernel
theorem d_Lw_law_106 : decode b_Lw_law 106 = .ok (.iaload, 1) := by decide +kernel
theorem d_Lw_law_107 : decode b_Lw_law 107 = .ok (.aload_n 0, 1) := by decide +kernel
theorem d_Lw_law_108 : decode b_Lw_law 108 = .ok (.iload_n 3, 1) := by decide +kernel
theorem d_Lw_law_109 : decode b_Lw_law 109 = .ok (.iconst 3, 1) := by decide +kernel
theorem d_Lw_law_110 : decode b_Lw_law 110 = .ok (.iadd, 1) := by decide +kernel
theorem d_Lw_law_111 : decode b_Lw_law 111 = .ok (.iaload, 1) := by decide +kernel
theorem d_Lw_law_112 : decode b_Lw_law 112 = .ok (.invokevirtual 13, 3) := by decide +kernel
theorem d_Lw_law_115 : decode b_Lw_law 115 = .ok (.aload_n 2, 1) := by decide +kernel
theorem d_Lw_law_116 : decode b_Lw_law 116 = .ok (.aload_n 0, 1) := by decide +kernel
theorem d_Lw_law_117 : decode b_Lw_law 117 = .ok (.iload_n 3, 1) := by decide +kernel
theorem d_Lw_law_118 : decode b_Lw_law 118 = .ok (.iconst 1, 1) := by decide +kernel
theorem d_Lw_law_119 : decode b_Lw_law 119 = .ok (.iadd, 1) := by decide +kernel
theorem d_Lw_law_120 : decode b_Lw_law 120 = .ok (.iaload, 1) := by decide +kernel
theorem d_Lw_law_121 : decode b_Lw_law 121 = .ok (.aload_n 0, 1) := by decide +kernel
theorem d_Lw_law_122 : decode b_Lw_law 122 = .ok (.iload_n 3, 1) := by decide +kernel
theorem d_Lw_law_123 : decode b_Lw_law 123 = .ok (.iconst 2, 1) := by decide +kernel
theorem d_Lw_law_124 : decode b_Lw_law 124 = .ok (.iadd, 1) := by decide +kernel
theorem d_Lw_law_125 : decode b_Lw_law 125 = .ok (.iaload, 1) := by decide +kernel
theorem d_Lw_law_126 : decode b_Lw_law 126 = .ok (.aload_n 0, 1) := by decide +kernel
theorem d_Lw_law_127 : decode b_Lw_law 127 = .ok (.iload_n 3, 1) := by decide +kernel
theorem d_Lw_law_128 : decode b_Lw_law 128 = .ok (.iconst 3, 1) := by decide +kernel
theorem d_Lw_law_129 : decode b_Lw_law 129 = .ok (.iadd, 1) := by decide +kernel
theorem d_Lw_law_130 : decode b_Lw_law 130 = .ok (.iaload, 1) := by decide +kernel
theorem d_Lw_law_131 : decode b_Lw_law 131 = .ok (.invokevirtual 17, 3) := by decide +kernel
theorem d_Lw_law_134 : decode b_Lw_law 134 = .ok (.if_icmp .eq 318, 3) := by decide +kernel
theorem d_Lw_law_137 : decode b_Lw_law 137 = .ok (.iconst 0, 1) := by decide +kernel
theorem d_Lw_law_138 : decode b_Lw_law 138 = .ok (.ireturn, 1) := by decide +kernel
theorem d_Lw_law_139 : decode b_Lw_law 139 = .ok (.aload_n 1, 1) := by decide +kernel
theorem d_Lw_law_140 : decode b_Lw_law 140 = .ok (.aload_n 0, 1) := by decide +kernel
theorem d_Lw_law_141 : decode b_Lw_law 141 = .ok (.iload_n 3, 1) := by decide +kernel
theorem d_Lw_law_142 : decode b_Lw_law 142 = .ok (.iconst 1, 1) := by decide +kernel
theorem d_Lw_law_143 : decode b_Lw_law 143 = .ok (.iadd, 1) := by decide +kernel
theorem d_Lw_law_144 : decode b_Lw_law 144 = .ok (.iaload, 1) := by decide +kernel
theorem d_Lw_law_145 : decode b_Lw_law 145 = .ok (.aload_n 0, 1) := by decide +kernel
theorem d_Lw_law_146 : decode b_Lw_law 146 = .ok (.iload_n 3, 1) := by decide +kernel
theorem d_Lw_law_147 : decode b_Lw_law 147 = .ok (.iconst 2, 1) := by decide +kernel
theorem d_Lw_law_148 : decode b_Lw_law 148 = .ok (.iadd, 1) := by decide +kernel
theorem d_Lw_law_149 : decode b_Lw_law 149 = .ok (.iaload, 1) := by decide +kernel
theorem d_Lw_law_150 : decode b_Lw_law 150 = .ok (.aload_n 0, 1) := by decide +kernel
theorem d_Lw_law_151 : decode b_Lw_law 151 = .ok (.iload_n 3, 1) := by decide +kernel
theorem d_Lw_law_152 : decode b_Lw_law 152 = .ok (.iconst 3, 1) := by decide +kernel
theorem d_Lw_law_153 : decode b_Lw_law 153 = .ok (.iadd, 1) := by decide +kernel
theorem d_Lw_law_154 : decode b_Lw_law 154 = .ok (.iaload, 1) := by decide +kernel
theorem d_Lw_law_155 : decode b_Lw_law 155 = .ok (.invokevirtual 18, 3) := by decide +kernel
theorem d_Lw_law_158 : decode b_Lw_law 158 = .ok (.aload_n 2, 1) := by decide +kernel
theorem d_Lw_law_159 : decode b_Lw_law 159 = .ok (.aload_n 0, 1) := by decide +kernel
theorem d_Lw_law_160 : decode b_Lw_law 160 = .ok (.iload_n 3, 1) := by decide +kernel
theorem d_Lw_law_161 : decode b_Lw_law 161 = .ok (.iconst 1, 1) := by decide +kernel
theorem d_Lw_law_162 : decode b_Lw_law 162 = .ok (.iadd, 1) := by decide +kernel
theorem d_Lw_law_163 : decode b_Lw_law 163 = .ok (.iaload, 1) := by decide +kernel
theorem d_Lw_law_164 : decode b_Lw_law 164 = .ok (.aload_n 0, 1) := by decide +kernel
theorem d_Lw_law_165 : decode b_Lw_law 165 = .ok (.iload_n 3, 1) := by decide +kernel
theorem d_Lw_law_166 : decode b_Lw_law 166 = .ok (.iconst 2, 1) := by decide +kernel
theorem d_Lw_law_167 : decode b_Lw_law 167 = .ok (.iadd, 1) := by decide +kernel
theorem d_Lw_law_168 : decode b_Lw_law 168 = .ok (.iaload, 1) := by decide +kernel
theorem d_Lw_law_169 : decode b_Lw_law 169 = .ok (.aload_n 0, 1) := by decide +kernel
theorem d_Lw_law_170 : decode b_Lw_law 170 = .ok (.iload_n 3, 1) := by decide +kernel
theorem d_Lw_law_171 : decode b_Lw_law 171 = .ok (.iconst 3, 1) := by decide +kernel
theorem d_Lw_law_172 : decode b_Lw_law 172 = .ok (.iadd, 1) := by decide +kernel
theorem d_Lw_law_173 : decode b_Lw_law 173 = .ok (.iaload, 1) := by decide +kernel
theorem d_Lw_law_174 : decode b_Lw_law 174 = .ok (.invokevirtual 21, 3) := by decide +kernel
theorem d_Lw_law_177 : decode b_Lw_law 177 = .ok (.if_icmp .eq 275, 3) := by decide +kernel
theorem d_Lw_law_180 : decode b_Lw_law 180 = .ok (.iconst 0, 1) := by decide +kernel
theorem d_Lw_law_181 : decode b_Lw_law 181 = .ok (.ireturn, 1) := by decide +kernel
theorem d_Lw_law_182 : decode b_Lw_law 182 = .ok (.aload_n 1, 1) := by decide +kernel
theorem d_Lw_law_183 : decode b_Lw_law 183 = .ok (.aload_n 0, 1) := by decide +kernel
theorem d_Lw_law_184 : decode b_Lw_law 184 = .ok (.iload_n 3, 1) := by decide +kernel
theorem d_Lw_law_185 : decode b_Lw_law 185 = .ok (.iconst 1, 1) := by decide +kernel
theorem d_Lw_law_186 : decode b_Lw_law 186 = .ok (.iadd, 1) := by decide +kernel
theorem d_Lw_law_187 : decode b_Lw_law 187 = .ok (.iaload, 1) := by decide +kernel
theorem d_Lw_law_188 : decode b_Lw_law 188 = .ok (.aload_n 0, 1) := by decide +kernel
theorem d_Lw_law_189 : decode b_Lw_law 189 = .ok (.iload_n 3, 1) := by decide +kernel
theorem d_Lw_law_190 : decode b_Lw_law 190 = .ok (.iconst 2, 1) := by decide +kernel
theorem d_Lw_law_191 : decode b_Lw_law 191 = .ok (.iadd, 1) := by decide +kernel
theorem d_Lw_law_192 : decode b_Lw_law 192 = .ok (.iaload, 1) := by decide +kernel
theorem d_Lw_law_193 : decode b_Lw_law 193 = .ok (.aload_n 0, 1) := by decide +kernel
theorem d_Lw_law_194 : decode b_Lw_law 194 = .ok (.iload_n 3, 1) := by decide +kernel
theorem d_Lw_law_195 : decode b_Lw_law 195 = .ok (.iconst 3, 1) := by decide +kernel
theorem d_Lw_law_196 : decode b_Lw_law 196 = .ok (.iadd, 1) := by decide +kernel
theorem d_Lw_law_197 : decode b_Lw_law 197 = .ok (.iaload, 1) := by decide +kernel
theorem d_Lw_law_198 : decode b_Lw_law 198 = .ok (.invokevirtual 22, 3) := by decide +kernel
theorem d_Lw_law_201 : decode b_Lw_law 201 = .ok (.aload_n 2, 1) := by decide +kernel
theorem d_Lw_law_202 : decode b_Lw_law 202 = .ok (.aload_n 0, 1) := by decide +kernel
theorem d_Lw_law_203 : decode b_Lw_law 203 = .ok (.iload_n 3, 1) := by decide +kernel
theorem d_Lw_law_204 : decode b_Lw_law 204 = .ok (.iconst 1, 1) := by decide +kernel
theorem d_Lw_law_205 : decode b_Lw_law 205 = .ok (.iadd, 1) := by decide +kernel
theorem d_Lw_law_206 : decode b_Lw_law 206 = .ok (.iaload, 1) := by decide +kernel
theorem d_Lw_law_207 : decode b_Lw_law 207 = .ok (.aload_n 0, 1) := by decide +kernel
theorem d_Lw_law_208 : decode b_Lw_law 208 = .ok (.iload_n 3, 1) := by decide +kernel
theorem d_Lw_law_209 : decode b_Lw_law 209 = .ok (.iconst 2, 1) := by decide +kernel
theorem d_Lw_law_210 : decode b_Lw_law 210 = .ok (.iadd, 1) := by decide +kernel
theorem d_Lw_law_211 : decode b_Lw_law 211 = .ok (.iaload, 1) := by decide +kernel
theorem d_Lw_law_212 : decode b_Lw_law 212 = .ok (.aload_n 0, 1) := by decide +kernel
theorem d_Lw_law_213 : decode b_Lw_law 213 = .ok (.iload_n 3, 1) := by decide +kernel
theorem d_Lw_law_214 : decode b_Lw_law 214 = .ok (.iconst 3, 1) := by decide +kernel
theorem d_Lw_law_215 : decode b_Lw_law 215 = .ok (.iadd, 1) := by decide +kernel
theorem d_Lw_law_216 : decode b_Lw_law 216 = .ok (.iaload, 1) := by decide +kernel
theorem d_Lw_law_217 : decode b_Lw_law 217 = .ok (.invokevirtual 25, 3) := by decide +kernel
theorem d_Lw_law_220 : decode b_Lw_law 220 = .ok (.if_icmp .eq 232, 3) := by decide +kernel
theorem d_Lw_law_223 : decode b_Lw_law 223 = .ok (.iconst 0, 1) := by decide +kernel
theorem d_Lw_law_224 : decode b_Lw_law 224 = .ok (.ireturn, 1) := by decide +kernel
theorem d_Lw_law_225 : decode b_Lw_law 225 = .ok (.aload_n 1, 1) := by decide +kernel
theorem d_Lw_law_226 : decode b_Lw_law 226 = .ok (.invokevirtual 26, 3) := by decide +kernel
theorem d_Lw_law_229 : decode b_Lw_law 229 = .ok (.aload_n 2, 1) := by decide +kernel
theorem d_Lw_law_230 : decode b_Lw_law 230 = .ok (.invokevirtual 30, 3) := by decide +kernel
theorem d_Lw_law_233 : decode b_Lw_law 233 = .ok (.if_icmp .eq 219, 3) := by decide +kernel
theorem d_Lw_law_236 : decode b_Lw_law 236 = .ok (.iconst 0, 1) := by decide +kernel
theorem d_Lw_law_237 : decode b_Lw_law 237 = .ok (.ireturn, 1) := by decide +kernel
theorem d_Lw_law_238 : decode b_Lw_law 238 = .ok (.aload_n 1, 1) := by decide +kernel
theorem d_Lw_law_239 : decode b_Lw_law 239 = .ok (.aload_n 0, 1) := by decide +kernel
theorem d_Lw_law_240 : decode b_Lw_law 240 = .ok (.iload_n 3, 1) := by decide +kernel
theorem d_Lw_law_241 : decode b_Lw_law 241 = .ok (.iconst 1, 1) := by decide +kernel
theorem d_Lw_law_242 : decode b_Lw_law 242 = .ok (.iadd, 1) := by decide +kernel
theorem d_Lw_law_243 : decode b_Lw_law 243 = .ok (.iaload, 1) := by decide +kernel
theorem d_Lw_law_244 : decode b_Lw_law 244 = .ok (.invokevirtual 31, 3) := by decide +kernel
theorem d_Lw_law_247 : decode b_Lw_law 247 = .ok (.aload_n 2, 1) := by decide +kernel
theorem d_Lw_law_248 : decode b_Lw_law 248 = .ok (.aload_n 0, 1) := by decide +kernel
theorem d_Lw_law_249 : decode b_Lw_law 249 = .ok (.iload_n 3, 1) := by decide +kernel
theorem d_Lw_law_250 : decode b_Lw_law 250 = .ok (.iconst 1, 1) := by decide +kernel
theorem d_Lw_law_251 : decode b_Lw_law 251 = .ok (.iadd, 1) := by decide +kernel
theorem d_Lw_law_252 : decode b_Lw_law 252 = .ok (.iaload, 1) := by decide +kernel
theorem d_Lw_law_253 : decode b_Lw_law 253 = .ok (.invokevirtual 35, 3) := by decide +kernel
theorem d_Lw_law_256 : decode b_Lw_law 256 = .ok (.if_icmp .eq 196, 3) := by decide +kernel
theorem d_Lw_law_259 : decode b_Lw_law 259 = .ok (.iconst 0, 1) := by decide +kernel
theorem d_Lw_law_260 : decode b_Lw_law 260 = .ok (.ireturn, 1) := by decide +kernel
theorem d_Lw_law_261 : decode b_Lw_law 261 = .ok (.aload_n 1, 1) := by decide +kernel
theorem d_Lw_law_262 : decode b_Lw_law 262 = .ok (.invokevirtual 36, 3) := by decide +kernel
theorem d_Lw_law_265 : decode b_Lw_law 265 = .ok (.aload_n 2, 1) := by decide +kernel
theorem d_Lw_law_266 : decode b_Lw_law 266 = .ok (.invokevirtual 39, 3) := by decide +kernel
theorem d_Lw_law_269 : decode b_Lw_law 269 = .ok (.if_icmp .eq 183, 3) := by decide +kernel
theorem d_Lw_law_272 : decode b_Lw_law 272 = .ok (.iconst 0, 1) := by decide +kernel
theorem d_Lw_law_273 : decode b_Lw_law 273 = .ok (.ireturn, 1) := by decide +kernel
theorem d_Lw_law_274 : decode b_Lw_law 274 = .ok (.aload_n 1, 1) := by decide +kernel
theorem d_Lw_law_275 : decode b_Lw_law 275 = .ok (.aload_n 0, 1) := by decide +kernel
theorem d_Lw_law_276 : decode b_Lw_law 276 = .ok (.iload_n 3, 1) := by decide +kernel
theorem d_Lw_law_277 : decode b_Lw_law 277 = .ok (.iconst 1, 1) := by decide +kernel
theorem d_Lw_law_278 : decode b_Lw_law 278 = .ok (.iadd, 1) := by decide +kernel
theorem d_Lw_law_279 : decode b_Lw_law 279 = .ok (.iaload, 1) := by decide +kernel
theorem d_Lw_law_280 : decode b_Lw_law 280 = .ok (.aload_n 0, 1) := by decide +kernel
theorem d_Lw_law_281 : decode b_Lw_law 281 = .ok (.iload_n 3, 1) := by decide +kernel
theorem d_Lw_law_282 : decode b_Lw_law 282 = .ok (.iconst 2, 1) := by decide +kernel
theorem d_Lw_law_283 : decode b_Lw_law 283 = .ok (.iadd, 1) := by decide +kernel
theorem d_Lw_law_284 : decode b_Lw_law 284 = .ok (.iaload, 1) := by decide +kernel
theorem d_Lw_law_285 : decode b_Lw_law 285 = .ok (.aload_n 0, 1) := by decide +kernel
theorem d_Lw_law_286 : decode b_Lw_law 286 = .ok (.iload_n 3, 1) := by decide +kernel
theorem d_Lw_law_287 : decode b_Lw_law 287 = .ok (.iconst 3, 1) := by decide +kernel
theorem d_Lw_law_288 : decode b_Lw_law 288 = .ok (.iadd, 1) := by decide +kernel
theorem d_Lw_law_289 : decode b_Lw_law 289 = .ok (.iaload, 1) := by decide +kernel
theorem d_Lw_law_290 : decode b_Lw_law 290 = .ok (.invokevirtual 40, 3) := by decide +kernel
theorem d_Lw_law_293 : decode b_Lw_law 293 = .ok (.aload_n 2, 1) := by decide +kernel
theorem d_Lw_law_294 : decode b_Lw_law 294 = .ok (.aload_n 0, 1) := by decide +kernel
theorem d_Lw_law_295 : decode b_Lw_law 295 = .ok (.iload_n 3, 1) := by decide +kernel
theorem d_Lw_law_296 : decode b_Lw_law 296 = .ok (.iconst 1, 1) := by decide +kernel
theorem d_Lw_law_297 : decode b_Lw_law 297 = .ok (.iadd, 1) := by decide +kernel
theorem d_Lw_law_298 : decode b_Lw_law 298 = .ok (.iaload, 1) := by decide +kernel
theorem d_Lw_law_299 : decode b_Lw_law 299 = .ok (.aload_n 0, 1) := by decide +kernel
theorem d_Lw_law_300 : decode b_Lw_law 300 = .ok (.iload_n 3, 1) := by decide +kernel
theorem d_Lw_law_301 : decode b_Lw_law 301 = .ok (.iconst 2, 1) := by decide +kernel
theorem d_Lw_law_302 : decode b_Lw_law 302 = .ok (.iadd, 1) := by decide +kernel
theorem d_Lw_law_303 : decode b_Lw_law 303 = .ok (.iaload, 1) := by decide +kernel
theorem d_Lw_law_304 : decode b_Lw_law 304 = .ok (.aload_n 0, 1) := by decide +kernel
theorem d_Lw_law_305 : decode b_Lw_law 305 = .ok (.iload_n 3, 1) := by decide +kernel
theorem d_Lw_law_306 : decode b_Lw_law 306 = .ok (.iconst 3, 1) := by decide +kernel
theorem d_Lw_law_307 : decode b_Lw_law 307 = .ok (.iadd, 1) := by decide +kernel
theorem d_Lw_law_308 : decode b_Lw_law 308 = .ok (.iaload, 1) := by decide +kernel
theorem d_Lw_law_309 : decode b_Lw_law 309 = .ok (.invokevirtual 43, 3) := by decide +kernel
theorem d_Lw_law_312 : decode b_Lw_law 312 = .ok (.if_icmp .eq 140, 3) := by decide +kernel
theorem d_Lw_law_315 : decode b_Lw_law 315 = .ok (.iconst 0, 1) := by decide +kernel
theorem d_Lw_law_316 : decode b_Lw_law 316 = .ok (.ireturn, 1) := by decide +kernel
theorem d_Lw_law_317 : decode b_Lw_law 317 = .ok (.aload_n 1, 1) := by decide +kernel
theorem d_Lw_law_318 : decode b_Lw_law 318 = .ok (.aload_n 0, 1) := by decide +kernel
theorem d_Lw_law_319 : decode b_Lw_law 319 = .ok (.iload_n 3, 1) := by decide +kernel
theorem d_Lw_law_320 : decode b_Lw_law 320 = .ok (.iconst 1, 1) := by decide +kernel
theorem d_Lw_law_321 : decode b_Lw_law 321 = .ok (.iadd, 1) := by decide +kernel
theorem d_Lw_law_322 : decode b_Lw_law 322 = .ok (.iaload, 1) := by decide +kernel
theorem d_Lw_law_323 : decode b_Lw_law 323 = .ok (.aload_n 0, 1) := by decide +kernel
theorem d_Lw_law_324 : decode b_Lw_law 324 = .ok (.iload_n 3, 1) := by decide +kernel
theorem d_Lw_law_325 : decode b_Lw_law 325 = .ok (.iconst 2, 1) := by decide +kernel
theorem d_Lw_law_326 : decode b_Lw_law 326 = .ok (.iadd, 1) := by decide +kernel
theorem d_Lw_law_327 : decode b_Lw_law 327 = .ok (.iaload, 1) := by decide +kernel
theorem d_Lw_law_328 : decode b_Lw_law 328 = .ok (.aload_n 0, 1) := by decide +kernel
theorem d_Lw_law_329 : decode b_Lw_law 329 = .ok (.iload_n 3, 1) := by decide +kernel
theorem d_Lw_law_330 : decode b_Lw_law 330 = .ok (.iconst 3, 1) := by decide +kernel
theorem d_Lw_law_331 : decode b_Lw_law 331 = .ok (.iadd, 1) := by decide +kernel
theorem d_Lw_law_332 : decode b_Lw_law 332 = .ok (.iaload, 1) := by decide +kernel
theorem d_Lw_law_333 : decode b_Lw_law 333 = .ok (.invokevirtual 44, 3) := by decide +kernel
theorem d_Lw_law_336 : decode b_Lw_law 336 = .ok (.aload_n 2, 1) := by decide +kernel
theorem d_Lw_law_337 : decode b_Lw_law 337 = .ok (.aload_n 0, 1) := by decide +kernel
theorem d_Lw_law_338 : decode b_Lw_law 338 = .ok (.iload_n 3, 1) := by decide +kernel
theorem d_Lw_law_339 : decode b_Lw_law 339 = .ok (.iconst 1, 1) := by decide +kernel
theorem d_Lw_law_340 : decode b_Lw_law 340 = .ok (.iadd, 1) := by decide +kernel
theorem d_Lw_law_341 : decode b_Lw_law 341 = .ok (.iaload, 1) := by decide +kernel
theorem d_Lw_law_342 : decode b_Lw_law 342 = .ok (.aload_n 0, 1) := by decide +kernel
theorem d_Lw_law_343 : decode b_Lw_law 343 = .ok (.iload_n 3, 1) := by decide +kernel
theorem d_Lw_law_344 : decode b_Lw_law 344 = .ok (.iconst 2, 1) := by decide +kernel
theorem d_Lw_law_345 : decode b_Lw_law 345 = .ok (.iadd, 1) := by decide +kernel
theorem d_Lw_law_346 : decode b_Lw_law 346 = .ok (.iaload, 1) := by decide +kernel
theorem d_Lw_law_347 : decode b_Lw_law 347 = .ok (.aload_n 0, 1) := by decide +kernel
theorem d_Lw_law_348 : decode b_Lw_law 348 = .ok (.iload_n 3, 1) := by decide +kernel
theorem d_Lw_law_349 : decode b_Lw_law 349 = .ok (.iconst 3, 1) := by decide +kernel
theorem d_Lw_law_350 : decode b_Lw_law 350 = .ok (.iadd, 1) := by decide +kernel
theorem d_Lw_law_351 : decode b_Lw_law 351 = .ok (.iaload, 1) := by decide +kernel
theorem d_Lw_law_352 : decode b_Lw_law 352 = .ok (.invokevirtual 47, 3) := by decide +kernel
theorem d_Lw_law_355 : decode b_Lw_law 355 = .ok (.if_icmp .eq 97, 3) := by decide +kernel
theorem d_Lw_law_358 : decode b_Lw_law 358 = .ok (.iconst 0, 1) := by decide +kernel
theorem d_Lw_law_359 : decode b_Lw_law 359 = .ok (.ireturn, 1) := by decide +kernel
theorem d_Lw_law_360 : decode b_Lw_law 360 = .ok (.aload_n 1, 1) := by decide +kernel
theorem d_Lw_law_361 : decode b_Lw_law 361 = .ok (.invokevirtual 48, 3) := by decide +kernel
theorem d_Lw_law_364 : decode b_Lw_law 364 = .ok (.aload_n 2, 1) := by decide +kernel
theorem d_Lw_law_365 : decode b_Lw_law 365 = .ok (.invokevirtual 51, 3) := by decide +kernel
theorem d_Lw_law_368 : decode b_Lw_law 368 = .ok (.if_icmp .eq 84, 3) := by decide +kernel
theorem d_Lw_law_371 : decode b_Lw_law 371 = .ok (.iconst 0, 1) := by decide +kernel
theorem d_Lw_law_372 : decode b_Lw_law 372 = .ok (.ireturn, 1) := by decide +kernel
theorem d_Lw_law_373 : decode b_Lw_law 373 = .ok (.aload_n 1, 1) := by decide +kernel
theorem d_Lw_law_374 : decode b_Lw_law 374 = .ok (.aload_n 0, 1) := by decide +kernel
theorem d_Lw_law_375 : decode b_Lw_law 375 = .ok (.iload_n 3, 1) := by decide +kernel
theorem d_Lw_law_376 : decode b_Lw_law 376 = .ok (.iconst 1, 1) := by decide +kernel
theorem d_Lw_law_377 : decode b_Lw_law 377 = .ok (.iadd, 1) := by decide +kernel
theorem d_Lw_law_378 : decode b_Lw_law 378 = .ok (.iaload, 1) := by decide +kernel
theorem d_Lw_law_379 : decode b_Lw_law 379 = .ok (.invokevirtual 52, 3) := by decide +kernel
theorem d_Lw_law_382 : decode b_Lw_law 382 = .ok (.aload_n 2, 1) := by decide +kernel
theorem d_Lw_law_383 : decode b_Lw_law 383 = .ok (.aload_n 0, 1) := by decide +kernel
theorem d_Lw_law_384 : decode b_Lw_law 384 = .ok (.iload_n 3, 1) := by decide +kernel
theorem d_Lw_law_385 : decode b_Lw_law 385 = .ok (.iconst 1, 1) := by decide +kernel
theorem d_Lw_law_386 : decode b_Lw_law 386 = .ok (.iadd, 1) := by decide +kernel
theorem d_Lw_law_387 : decode b_Lw_law 387 = .ok (.iaload, 1) := by decide +kernel
theorem d_Lw_law_388 : decode b_Lw_law 388 = .ok (.invokevirtual 55, 3) := by decide +kernel
theorem d_Lw_law_391 : decode b_Lw_law 391 = .ok (.if_icmp .eq 61, 3) := by decide +kernel
theorem d_Lw_law_394 : decode b_Lw_law 394 = .ok (.iconst 0, 1) := by decide +kernel
theorem d_Lw_law_395 : decode b_Lw_law 395 = .ok (.ireturn, 1) := by decide +kernel
theorem d_Lw_law_396 : decode b_Lw_law 396 = .ok (.aload_n 1, 1) := by decide +kernel
theorem d_Lw_law_397 : decode b_Lw_law 397 = .ok (.aload_n 0, 1) := by decide +kernel
theorem d_Lw_law_398 : decode b_Lw_law 398 = .ok (.iload_n 3, 1) := by decide +kernel
theorem d_Lw_law_399 : decode b_Lw_law 399 = .ok (.iconst 1, 1) := by decide +kernel
theorem d_Lw_law_400 : decode b_Lw_law 400 = .ok (.iadd, 1) := by decide +kernel
theorem d_Lw_law_401 : decode b_Lw_law 401 = .ok (.iaload, 1) := by decide +kernel
theorem d_Lw_law_402 : decode b_Lw_law 402 = .ok (.aload_n 0, 1) := by decide +kernel
theorem d_Lw_law_403 : decode b_Lw_law 403 = .ok (.iload_n 3, 1) := by decide +kernel
theorem d_Lw_law_404 : decode b_Lw_law 404 = .ok (.iconst 2, 1) := by decide +kernel
theorem d_Lw_law_405 : decode b_Lw_law 405 = .ok (.iadd, 1) := by decide +kernel
theorem d_Lw_law_406 : decode b_Lw_law 406 = .ok (.iaload, 1) := by decide +kernel
theorem d_Lw_law_407 : decode b_Lw_law 407 = .ok (.aload_n 0, 1) := by decide +kernel
theorem d_Lw_law_408 : decode b_Lw_law 408 = .ok (.iload_n 3, 1) := by decide +kernel
theorem d_Lw_law_409 : decode b_Lw_law 409 = .ok (.iconst 3, 1) := by decide +kernel
theorem d_Lw_law_410 : decode b_Lw_law 410 = .ok (.iadd, 1) := by decide +kernel
theorem d_Lw_law_411 : decode b_Lw_law 411 = .ok (.iaload, 1) := by decide +kernel
theorem d_Lw_law_412 : decode b_Lw_law 412 = .ok (.invokevirtual 56, 3) := by decide +kernel
theorem d_Lw_law_415 : decode b_Lw_law 415 = .ok (.aload_n 2, 1) := by decide +kernel
theorem d_Lw_law_416 : decode b_Lw_law 416 = .ok (.aload_n 0, 1) := by decide +kernel
theorem d_Lw_law_417 : decode b_Lw_law 417 = .ok (.iload_n 3, 1) := by decide +kernel
theorem d_Lw_law_418 : decode b_Lw_law 418 = .ok (.iconst 1, 1) := by decide +kernel
theorem d_Lw_law_419 : decode b_Lw_law 419 = .ok (.iadd, 1) := by decide +kernel
theorem d_Lw_law_420 : decode b_Lw_law 420 = .ok (.iaload, 1) := by decide +kernel
theorem d_Lw_law_421 : decode b_Lw_law 421 = .ok (.aload_n 0, 1) := by decide +kernel
theorem d_Lw_law_422 : decode b_Lw_law 422 = .ok (.iload_n 3, 1) := by decide +kernel
theorem d_Lw_law_423 : decode b_Lw_law 423 = .ok (.iconst 2, 1) := by decide +kernel
theorem d_Lw_law_424 : decode b_Lw_law 424 = .ok (.iadd, 1) := by decide +kernel
theorem d_Lw_law_425 : decode b_Lw_law 425 = .ok (.iaload, 1) := by decide +kernel
theorem d_Lw_law_426 : decode b_Lw_law 426 = .ok (.aload_n 0, 1) := by decide +kernel
theorem d_Lw_law_427 : decode b_Lw_law 427 = .ok (.iload_n 3, 1) := by decide +kernel
theorem d_Lw_law_428 : decode b_Lw_law 428 = .ok (.iconst 3, 1) := by decide +kernel
theorem d_Lw_law_429 : decode b_Lw_law 429 = .ok (.iadd, 1) := by decide +kernel
theorem d_Lw_law_430 : decode b_Lw_law 430 = .ok (.iaload, 1) := by decide +kernel
theorem d_Lw_law_431 : decode b_Lw_law 431 = .ok (.invokevirtual 59, 3) := by decide +kernel
theorem d_Lw_law_434 : decode b_Lw_law 434 = .ok (.if_icmp .eq 18, 3) := by decide +kernel
theorem d_Lw_law_437 : decode b_Lw_law 437 = .ok (.iconst 0, 1) := by decide +kernel
theorem d_Lw_law_438 : decode b_Lw_law 438 = .ok (.ireturn, 1) := by decide +kernel
theorem d_Lw_law_439 : decode b_Lw_law 439 = .ok (.aload_n 1, 1) := by decide +kernel
theorem d_Lw_law_440 : decode b_Lw_law 440 = .ok (.invokevirtual 60, 3) := by decide +kernel
theorem d_Lw_law_443 : decode b_Lw_law 443 = .ok (.aload_n 2, 1) := by decide +kernel
theorem d_Lw_law_444 : decode b_Lw_law 444 = .ok (.invokevirtual 63, 3) := by decide +kernel
theorem d_Lw_law_447 : decode b_Lw_law 447 = .ok (.if_icmp .eq 5, 3) := by decide +kernel
theorem d_Lw_law_450 : decode b_Lw_law 450 = .ok (.iconst 0, 1) := by decide +kernel
theorem d_Lw_law_451 : decode b_Lw_law 451 = .ok (.ireturn, 1) := by decide +kernel
theorem d_Lw_law_452 : decode b_Lw_law 452 = .ok (.iinc 3 4, 3) := by decide +kernel
theorem d_Lw_law_455 : decode b_Lw_law 455 = .ok (.goto (-437), 3) := by decide +kernel
theorem d_Lw_law_458 : decode b_Lw_law 458 = .ok (.iconst 1, 1) := by decide +kernel
theorem d_Lw_law_459 : decode b_Lw_law 459 = .ok (.ireturn, 1) := by decide +kernel
end
section
/-! Worlds by address: a world is a map M from addresses to cells; nothing is said of an address where M is none. -/
abbrev mw_M : Type := Nat → Option va_E
def mw_P (D : va_G) (cl : List vw_C) (M : mw_M) (A : Nat → Prop) (H : Heap) : Prop :=
  ∃ (L : List Nat) (f : Nat → va_E), (∀ (a : Nat) (e : va_E), M a = some e ↔ (a ∈ L ∧ f a = e)) ∧ va_P D cl ([] ++ va_pl L f) H ∧ va_D A ([] ++ va_pl L f)
/-- what a method with the world M may change: the cells of M, and what comes from sz on -/
def mw_A (M : mw_M) (sz : Nat) : Nat → Prop := fun q => M q ≠ none ∨ sz ≤ q
theorem mw_row {D : va_G} {cl : List vw_C} {M : mw_M} {A : Nat → Prop} {H : Heap} {a : Nat} {e : va_E} (h : mw_P D cl M A H) (ha : M a = some e) :
    ∃ (ws : va_W) (k : Nat), va_P D cl ws H ∧ va_D A ws ∧ ws[k]? = some (a, e) ∧ ∀ (e' : va_E) (H1 : Heap), va_P D cl (ws.set k (a, e')) H1 → va_D A (ws.set k (a, e')) → mw_P D cl (va_up M a (some e')) A H1 := by
  obtain ⟨L, f, hM, hP, hD⟩ := h
  obtain ⟨hL, hf⟩ := (hM a e).mp ha
  obtain ⟨k, hk⟩ := va_pl_get (X := []) (f := f) hL
  refine ⟨[] ++ va_pl L f, k, hP, hD, by rw [hk, hf], fun e' H1 h1 h2 => ?_⟩
  rw [va_pl_set hD hL hk] at h1 h2
  refine ⟨L, va_up f a e', fun b e2 => ?_, h1, h2⟩
  by_cases hb : b = a
  · subst hb
    rw [va_up_self, va_up_self]
    constructor
    · intro h; cases h; exact ⟨hL, rfl⟩
    · rintro ⟨_, rfl⟩; rfl
  · rw [va_up_ne _ _ hb, va_up_ne _ _ hb]
    exact hM b e2
theorem mw_row2 {D : va_G} {cl : List vw_C} {M : mw_M} {A : Nat → Prop} {H : Heap} {a b : Nat} {e e2 : va_E} (h : mw_P D cl M A H) (ha : M a = some e) (hb : M b = some e2) :
    ∃ (ws : va_W) (k j : Nat), va_P D cl ws H ∧ va_D A ws ∧ ws[k]? = some (a, e) ∧ ws[j]? = some (b, e2) ∧ ∀ (e' : va_E) (H1 : Heap), va_P D cl (ws.set k (a, e')) H1 → va_D A (ws.set k (a, e')) → mw_P D cl (va_up M a (some e')) A H1 := by
  obtain ⟨L, f, hM, hP, hD⟩ := h
  obtain ⟨hL, hf⟩ := (hM a e).mp ha
  obtain ⟨hL2, hf2⟩ := (hM b e2).mp hb
  obtain ⟨k, hk⟩ := va_pl_get (X := []) (f := f) hL
  obtain ⟨j, hj⟩ := va_pl_get (X := []) (f := f) hL2
  refine ⟨[] ++ va_pl L f, k, j, hP, hD, by rw [hk, hf], by rw [hj, hf2], fun e' H1 h1 h2 => ?_⟩
  rw [va_pl_set hD hL hk] at h1 h2
  refine ⟨L, va_up f a e', fun b e2 => ?_, h1, h2⟩
  by_cases hb : b = a
  · subst hb
    rw [va_up_self, va_up_self]
    constructor
    · intro h; cases h; exact ⟨hL, rfl⟩
    · rintro ⟨_, rfl⟩; rfl
  · rw [va_up_ne _ _ hb, va_up_ne _ _ hb]
    exact hM b e2
theorem mw_add {D : va_G} {cl : List vw_C} {M : mw_M} {A : Nat → Prop} {H : Heap} (h : mw_P D cl M A H) :
    ∃ ws : va_W, va_P D cl ws H ∧ va_D A ws ∧ ∀ (q : Nat) (e : va_E) (H1 : Heap), va_P D cl (ws ++ [(q, e)]) H1 → va_D A (ws ++ [(q, e)]) → M q = none ∧ mw_P D cl (va_up M q (some e)) A H1 := by
  obtain ⟨L, f, hM, hP, hD⟩ := h
  refine ⟨[] ++ va_pl L f, hP, hD, fun q e H1 h1 h2 => ?_⟩
  have hq : q ∉ L := va_pl_fresh2 h2
  have e1 : ([] ++ va_pl L f) ++ [(q, e)] = [] ++ va_pl (L ++ [q]) (va_up f q e) := by
    rw [List.nil_append, List.nil_append]
    exact va_pl_push hq
  rw [e1] at h1 h2
  have hn : M q = none := by
    cases hm : M q with
    | none => rfl
    | some e2 => exact absurd ((hM q e2).mp hm).1 hq
  refine ⟨hn, L ++ [q], va_up f q e, fun b e2 => ?_, h1, h2⟩
  by_cases hb : b = q
  · subst hb
    rw [va_up_self, va_up_self]
    constructor
    · intro h; cases h; exact ⟨by simp, rfl⟩
    · rintro ⟨_, rfl⟩; rfl
  · rw [va_up_ne _ _ hb, va_up_ne _ _ hb, hM b e2]
    simp [hb]
theorem mw_P.inA {D : va_G} {cl : List vw_C} {M : mw_M} {A : Nat → Prop} {H : Heap} (h : mw_P D cl M A H) {q : Nat} (hq : M q ≠ none) : A q := by
  cases hm : M q with
  | none => exact absurd hm hq
  | some e =>
    obtain ⟨ws, k, -, hD, hk, -⟩ := mw_row h hm
    exact hD.2 k _ hk
theorem mw_P.lt {D : va_G} {cl : List vw_C} {M : mw_M} {A : Nat → Prop} {H : Heap} (h : mw_P D cl M A H) {q : Nat} (hq : M q ≠ none) : q < H.size := by
  cases hm : M q with
  | none => exact absurd hm hq
  | some e =>
    obtain ⟨ws, k, hP, -, hk, -⟩ := mw_row h hm
    exact (hP k _ hk).lt
theorem mw_P.weaken {D : va_G} {cl : List vw_C} {M : mw_M} {A B : Nat → Prop} {H : Heap} (h : mw_P D cl M A H) (hAB : ∀ q, M q ≠ none → A q → B q) : mw_P D cl M B H := by
  obtain ⟨L, f, hM, hP, hD⟩ := h
  refine ⟨L, f, hM, hP, hD.weaken fun k q hk hq => hAB q.1 ?_ hq⟩
  have hm : q ∈ va_pl L f := List.mem_of_getElem? hk
  obtain ⟨a, ha, rfl⟩ := List.mem_map.mp hm
  rw [(hM a (f a)).mpr ⟨ha, rfl⟩]
  exact fun h => by cases h
theorem mw_P.self {D : va_G} {cl : List vw_C} {M : mw_M} {A : Nat → Prop} {H : Heap} {sz : Nat} (h : mw_P D cl M A H) : mw_P D cl M (mw_A M sz) H := h.weaken fun _ hq _ => Or.inl hq
theorem mw_P.none {D : va_G} {cl : List vw_C} {A : Nat → Prop} {H : Heap} : mw_P D cl (fun _ => none) A H :=
  ⟨[], fun _ => .inr (0, []), fun a e => by simp, fun k q h => by simp [va_pl] at h, ⟨fun i j p q h => by simp [va_pl] at h, fun k q h => by simp [va_pl] at h⟩⟩
/-- two addresses that hold different things differ -/
theorem mw_ne {M : mw_M} {a b : Nat} {x y : Option va_E} (ha : M a = x) (hb : M b = y) (h : x ≠ y) : a ≠ b := fun e => h (by rw [← ha, ← hb, e])
/-! static tables of ints that nobody writes, and array classes over our own -/
abbrev mw_T : Type := String × String × String × Nat × Nat × (Nat → Value)
abbrev mw_N : Type := String × Nat × String × String × String × String
abbrev mw_G : Type := List mw_T × List String × List mw_N
def mw_Z (g : mw_G) (A : Nat → Prop) (U : State) (H : Heap) : Prop :=
  (∀ z ∈ g.1, va_Z z.1 z.2.1 z.2.2.1 (.ref z.2.2.2.1) A U H ∧ va_T .int z.2.2.2.1 z.2.2.2.2.1 z.2.2.2.2.2 A U H) ∧ (∀ C ∈ g.2.1, va_AO C U) ∧ ∀ x ∈ g.2.2, va_Nw (.fieldLinkNest x.1 x.2.1 x.2.2.1 x.2.2.2.1 x.2.2.2.2.1 x.2.2.2.2.2) U
theorem mw_Z.warm {g : mw_G} {A : Nat → Prop} {u U : State} {H : Heap} (hW : u.WarmedH U.vm) (h : mw_Z g A u H) : mw_Z g A U H :=
  ⟨fun z hz => ⟨(h.1 z hz).1.moved hW.alike, (h.1 z hz).2.moved hW.alike⟩, fun C hC => (h.2.1 C hC).moved hW.alike, fun x hx => va_Nw.warmF hW (h.2.2 x hx)⟩
theorem mw_Z.same {g : mw_G} {A : Nat → Prop} {u U : State} {H : Heap} (hvm : u.vm = U.vm) (h : mw_Z g A u H) : mw_Z g A U H :=
  ⟨fun z hz => ⟨(h.1 z hz).1.moved (by rw [hvm]; exact Vm.Alike.refl _), (h.1 z hz).2.moved (by rw [hvm]; exact Vm.Alike.refl _)⟩, fun C hC => (h.2.1 C hC).moved (by rw [hvm]; exact Vm.Alike.refl _), fun x hx => va_Nw.same rfl hvm (h.2.2 x hx)⟩
theorem mw_Z.kept {g : mw_G} {A : Nat → Prop} {U : State} {H H1 : Heap} (h : mw_Z g A U H) (hq : ∀ a : Nat, a < H.size → ¬ A a → H1[a]? = H[a]?) : mw_Z g A U H1 :=
  ⟨fun z hz => ⟨(h.1 z hz).1.kept hq, (h.1 z hz).2.kept hq⟩, h.2⟩
theorem mw_Z.narrow {g : mw_G} {A B : Nat → Prop} {U : State} {H : Heap} (h : mw_Z g A U H) (hAB : ∀ q, B q → A q) : mw_Z g B U H :=
  ⟨fun z hz => ⟨(h.1 z hz).1.narrow hAB, (h.1 z hz).2.narrow hAB⟩, h.2⟩
/-- the start of a method -/
def mw_B (D : va_G) (cl : List vw_C) (tys : List (ClassId × FieldType)) (g : mw_G) (M : mw_M) (sz : Nat) (U : State) : Prop :=
  U.heap.size = sz ∧ mw_P D cl M (fun _ => True) U.heap ∧ va_K D cl tys U ∧ mw_Z g (mw_A M sz) U U.heap
/-- its end -/
def mw_E (D : va_G) (cl : List vw_C) (M : mw_M) (sz : Nat) (M' : mw_M) (t : State) : Prop := mw_P D cl M' (mw_A M sz) t.heap
def mw_Er (D : va_G) (cl : List vw_C) (M : mw_M) (sz : Nat) (u : mw_M × Nat) (a : Nat) (t : State) : Prop := u.2 = a ∧ mw_P D cl u.1 (mw_A M sz) t.heap
theorem mw_blind {D : va_G} {cl : List vw_C} {tys : List (ClassId × FieldType)} {g : mw_G} {M : mw_M} {sz : Nat} {av : List Value} : FrameBlind (va_Pc av (mw_B D cl tys g M sz)) := by
  intro a U g0 mk q
  obtain ⟨q0, q1, qP, qK, qZ⟩ := q
  exact ⟨q0, q1, qP, va_K.moved (u := U) (U := U.calling g0 mk a) (Vm.Alike.refl U.vm) qK, mw_Z.same (u := U) (U := U.calling g0 mk a) rfl qZ⟩
section MW1
variable {p : Program} {l : Launch} {e : Env} {R : Room} {s : State} {m : MethodId} {args : Array Value} {below : List Frame} {meth : Method} {c : Code} {H : Heap} {locs : List Loc} {cells slots : Nat} {Q : State → Prop}
variable {cc : ByteArray} {pc nL : Nat} {ls : Array Slot} {rest : List Value} {D : va_G} {cl : List vw_C} {A : Nat → Prop} {a : Nat} {tys : List (ClassId × FieldType)} {g : mw_G} {M : mw_M} {Ts : List Cond} {own : String}
theorem mw_free (hP : mw_P D cl M A H) (hS : va_S A s.heap H locs) (hA : ∀ q, s.heap.size ≤ q → A q) : ∀ q, mw_A M H.size q → A q := by
  intro q h
  rcases h with h | h
  · exact hP.inA h
  · exact hA q (Nat.le_trans hS.1 h)
theorem mw_pre {av : List Value} (hK : va_K D cl tys s) (hZ : mw_Z g A s s.heap) (hP : mw_P D cl M A H) (hS : va_S A s.heap H locs) (hA : ∀ q, s.heap.size ≤ q → A q) :
    ∀ U : State, U.heap = H → s.WarmedH U.vm → va_Pc av (mw_B D cl tys g M H.size) av.toArray U := by
  intro U hU hW
  refine ⟨rfl, by rw [hU], by rw [hU]; exact hP.weaken (fun _ _ _ => trivial), va_K.moved hW.alike hK, ?_⟩
  rw [hU]
  exact ((hZ.kept (H1 := H) (fun q h1 h2 => hS.2.1 q h1 h2)).narrow (mw_free hP hS hA)).warm hW
/-! rows -/
theorem mw_get {C : String} {T : u_T} {N ci index : Nat} {ref : String} (J : CallFix p m c cc nL s args Ts own) (hin : ∀ w ∈ u_ws C T N, w ∈ Ts) (hK : va_K D cl tys s) (hP : mw_P D cl M A H) {fs : List Value} (ha : M a = some (.inr (ci, fs))) (hc : cl[ci]? = some (C, T, N)) (k : Nat) (hk : k < N)
    (hlink : (Cond.fieldLink own index ref (T k).2.1 (T k).2.2.1).before args s = true) (hsame : ∀ x, s.fieldFound? (T k).1 (T k).2.1 (T k).2.2.1 = some x → s.fieldFound? ref (T k).2.1 (T k).2.2.1 = some x) {v : Value} (hv : fs[k]? = some v) (hdg : decode cc pc = .ok (.getfield index, 3))
    (kk : W p l e R s m args below meth c H locs cells slots Q (F0 m (pc + 3) ls (v :: rest))) : W p l e R s m args below meth c H locs cells slots Q (F0 m pc ls (.ref a :: rest)) := by
  obtain ⟨ws, q0, h1, -, h2, -⟩ := mw_row hP ha
  exact va_get J.1 J.2.1 J.2.2.2.2 hin J.2.2.2.1 hK h1 q0 h2 hc k hk hlink hsame hv hdg kk
theorem mw_put {C : String} {T : u_T} {N ci index : Nat} {ref : String} (J : CallFix p m c cc nL s args Ts own) (hin : ∀ w ∈ u_ws C T N, w ∈ Ts) (ty0 : Nat → FieldType) (hty : ∀ k, k < N → parseFieldDescriptor (T k).2.2.1 = some (ty0 k)) (hnm : ∀ a, a < N → ∀ b, b < N → a ≠ b → (T a).2.1 ≠ (T b).2.1) (hK : va_K D cl tys s) (hP : mw_P D cl M A H) (hS : va_S A s.heap H locs) {fs : List Value} (ha : M a = some (.inr (ci, fs))) (hc : cl[ci]? = some (C, T, N)) (k : Nat) (hk : k < N)
    (hlink : (Cond.fieldLink own index ref (T k).2.1 (T k).2.2.1).before args s = true) (hsame : ∀ x, s.fieldFound? (T k).1 (T k).2.1 (T k).2.2.1 = some x → s.fieldFound? ref (T k).2.1 (T k).2.2.1 = some x) (hfin : (T k).2.2.2 = false) {ty : FieldType} {v : Value} (hd : parseFieldDescriptor (T k).2.2.1 = some ty) (hn : narrow ty v = v) (hfit : fits ty v = true) (hl : k < fs.length) (hdg : decode cc pc = .ok (.putfield index, 3))
    (kk : ∀ (H1 : Heap) (locs1 : List Loc), mw_P D cl (va_up M a (some (.inr (ci, fs.set k v)))) A H1 → va_S A s.heap H1 locs1 → W p l e R s m args below meth c H1 locs1 cells slots Q (F0 m (pc + 3) ls rest)) : W p l e R s m args below meth c H locs cells slots Q (F0 m pc ls (v :: .ref a :: rest)) := by
  obtain ⟨ws, q0, h1, h3, h2, h4⟩ := mw_row hP ha
  exact va_put J.1 J.2.1 J.2.2.2.2 hin ty0 hty hnm J.2.2.2.1 hK h1 h3 hS q0 h2 hc k hk hlink hsame hfin hd hn hfit hl hdg fun H1 locs1 g1 g2 g3 => kk H1 locs1 (h4 _ _ g1 g2) g3
theorem mw_putF {C : String} {T : u_T} {N ci index : Nat} {ref : String} (J : CallFix p m c cc nL s args Ts own) (hin : ∀ w ∈ u_ws C T N, w ∈ Ts) (ty0 : Nat → FieldType) (hty : ∀ k, k < N → parseFieldDescriptor (T k).2.2.1 = some (ty0 k)) (hnm : ∀ a, a < N → ∀ b, b < N → a ≠ b → (T a).2.1 ≠ (T b).2.1) (hK : va_K D cl tys s) (hP : mw_P D cl M A H) (hS : va_S A s.heap H locs) {fs : List Value} (ha : M a = some (.inr (ci, fs))) (hc : cl[ci]? = some (C, T, N)) (k : Nat) (hk : k < N)
    (hlink : (Cond.fieldLink own index ref (T k).2.1 (T k).2.2.1).before args s = true) (hsame : ∀ x, s.fieldFound? (T k).1 (T k).2.1 (T k).2.2.1 = some x → s.fieldFound? ref (T k).2.1 (T k).2.2.1 = some x) (hfin : (T k).2.2.2 = true) (hin2 : meth.name = "<init>") (hdecl : (T k).1 = own) {ty : FieldType} {v : Value} (hd : parseFieldDescriptor (T k).2.2.1 = some ty) (hn : narrow ty v = v) (hfit : fits ty v = true) (hl : k < fs.length) (hdg : decode cc pc = .ok (.putfield index, 3))
    (kk : ∀ (H1 : Heap) (locs1 : List Loc), mw_P D cl (va_up M a (some (.inr (ci, fs.set k v)))) A H1 → va_S A s.heap H1 locs1 → W p l e R s m args below meth c H1 locs1 cells slots Q (F0 m (pc + 3) ls rest)) : W p l e R s m args below meth c H locs cells slots Q (F0 m pc ls (v :: .ref a :: rest)) := by
  obtain ⟨ws, q0, h1, h3, h2, h4⟩ := mw_row hP ha
  exact va_putF J.1 J.2.1 J.2.2.2.2 hin ty0 hty hnm J.2.2.2.1 hK h1 h3 hS q0 h2 hc k hk hlink hsame hfin hin2 hdecl hd hn hfit hl hdg fun H1 locs1 g1 g2 g3 => kk H1 locs1 (h4 _ _ g1 g2) g3
theorem mw_iald (J : CallFix p m c cc nL s args Ts own) (hK : va_K D cl tys s) (hP : mw_P D cl M A H) (t0 : Nat) {cA : ClassId} {n : Nat} {f : Nat → Int32} (ha : M a = some (.inl (cA, n, .inl f))) (ht : tys[t0]? = some (cA, .int)) {i : Int32} (hin : vp_in i n) (hdg : decode cc pc = .ok (.iaload, 1))
    (kk : W p l e R s m args below meth c H locs cells slots Q (F0 m (pc + 1) ls (.int (f i.toNatClampNeg) :: rest))) : W p l e R s m args below meth c H locs cells slots Q (F0 m pc ls (.int i :: .ref a :: rest)) := by
  obtain ⟨ws, q0, h1, -, h2, -⟩ := mw_row hP ha
  exact va_iald J.1 J.2.1 hK h1 q0 t0 h2 ht hin hdg kk
theorem mw_iast (J : CallFix p m c cc nL s args Ts own) (hK : va_K D cl tys s) (hP : mw_P D cl M A H) (hS : va_S A s.heap H locs) (t0 : Nat) {cA : ClassId} {n : Nat} {f : Nat → Int32} (ha : M a = some (.inl (cA, n, .inl f))) (ht : tys[t0]? = some (cA, .int)) {i x : Int32} (hin : vp_in i n) (hdg : decode cc pc = .ok (.iastore, 1))
    (kk : ∀ (H1 : Heap) (locs1 : List Loc), mw_P D cl (va_up M a (some (.inl (cA, n, .inl (upd f i.toNatClampNeg x))))) A H1 → va_S A s.heap H1 locs1 → W p l e R s m args below meth c H1 locs1 cells slots Q (F0 m (pc + 1) ls rest)) : W p l e R s m args below meth c H locs cells slots Q (F0 m pc ls (.int x :: .int i :: .ref a :: rest)) := by
  obtain ⟨ws, q0, h1, h3, h2, h4⟩ := mw_row hP ha
  exact va_iast J.1 J.2.1 hK h1 h3 hS q0 t0 h2 ht hin hdg fun H1 locs1 g1 g2 g3 => kk H1 locs1 (h4 _ _ g1 g2) g3
theorem mw_zald (J : CallFix p m c cc nL s args Ts own) (hK : va_K D cl tys s) (hP : mw_P D cl M A H) (t0 : Nat) {cA : ClassId} {n : Nat} {f : Nat → Int32} (ha : M a = some (.inl (cA, n, .inl f))) (ht : tys[t0]? = some (cA, .boolean)) {i : Int32} (hin : vp_in i n) (hdg : decode cc pc = .ok (.baload, 1))
    (kk : W p l e R s m args below meth c H locs cells slots Q (F0 m (pc + 1) ls (.int (f i.toNatClampNeg) :: rest))) : W p l e R s m args below meth c H locs cells slots Q (F0 m pc ls (.int i :: .ref a :: rest)) := by
  obtain ⟨ws, q0, h1, -, h2, -⟩ := mw_row hP ha
  exact va_zald J.1 J.2.1 hK h1 q0 t0 h2 ht hin hdg kk
theorem mw_alen (J : CallFix p m c cc nL s args Ts own) (hK : va_K D cl tys s) (hP : mw_P D cl M A H) (t0 : Nat) {cA : ClassId} {x : vp_A} (ha : M a = some (.inl (cA, x))) {ty : FieldType} (ht : tys[t0]? = some (cA, ty)) {v : Int32} (hv : Int32.ofNat x.1 = v) (hdg : decode cc pc = .ok (.arraylength, 1))
    (kk : W p l e R s m args below meth c H locs cells slots Q (F0 m (pc + 1) ls (.int v :: rest))) : W p l e R s m args below meth c H locs cells slots Q (F0 m pc ls (.ref a :: rest)) := by
  obtain ⟨ws, q0, h1, -, h2, -⟩ := mw_row hP ha
  exact va_alen J.1 J.2.1 hK h1 q0 t0 h2 ht hv hdg kk
theorem mw_aald (J : CallFix p m c cc nL s args Ts own) (hK : va_K D cl tys s) (hP : mw_P D cl M A H) (t0 : Nat) {cA : ClassId} {C : String} {n : Nat} {f : Nat → Option Nat} (ha : M a = some (.inl (cA, n, .inr (.inr (.inr (.inr f)))))) (ht : tys[t0]? = some (cA, .object C)) {i : Int32} (hin : vp_in i n) {b : Nat} (hv : f i.toNatClampNeg = some b) (hdg : decode cc pc = .ok (.aaload, 1))
    (kk : W p l e R s m args below meth c H locs cells slots Q (F0 m (pc + 1) ls (.ref b :: rest))) : W p l e R s m args below meth c H locs cells slots Q (F0 m pc ls (.int i :: .ref a :: rest)) := by
  obtain ⟨ws, q0, h1, -, h2, -⟩ := mw_row hP ha
  exact va_aldq J.1 J.2.1 hK h1 q0 t0 h2 ht hin hdg (by rw [hv]; exact kk)
theorem mw_aast (J : CallFix p m c cc nL s args Ts own) (hK : va_K D cl tys s) (hP : mw_P D cl M A H) (hS : va_S A s.heap H locs) (t0 ci : Nat) {cA : ClassId} {r : vw_C} {n b : Nat} {vs : List Value} {f : Nat → Option Nat} (ha : M a = some (.inl (cA, n, .inr (.inr (.inr (.inr f)))))) (ht : tys[t0]? = some (cA, .object r.1)) (hv : M b = some (.inr (ci, vs))) (hc : cl[ci]? = some r) {i : Int32} (hin : vp_in i n) (hdg : decode cc pc = .ok (.aastore, 1))
    (kk : ∀ (H1 : Heap) (locs1 : List Loc), mw_P D cl (va_up M a (some (.inl (cA, n, .inr (.inr (.inr (.inr (va_up f i.toNatClampNeg (some b))))))))) A H1 → va_S A s.heap H1 locs1 → W p l e R s m args below meth c H1 locs1 cells slots Q (F0 m (pc + 1) ls rest)) : W p l e R s m args below meth c H locs cells slots Q (F0 m pc ls (.ref b :: .int i :: .ref a :: rest)) := by
  obtain ⟨ws, q0, qk, h1, h3, h2, h5, h4⟩ := mw_row2 hP ha hv
  exact va_astq J.1 J.2.1 hK h1 h3 hS q0 t0 qk ci h2 ht h5 hc hin hdg fun H1 locs1 g1 g2 g3 => kk H1 locs1 (h4 _ _ g1 g2) g3
theorem mw_new {C : String} {T : u_T} {N ci index : Nat} (J : CallFix p m c cc nL s args Ts own) (hin : ∀ w ∈ u_ws C T N, w ∈ Ts) (ty : Nat → FieldType) (hty : ∀ k, k < N → parseFieldDescriptor (T k).2.2.1 = some (ty k)) (hcl : (Cond.classLink own index C).before args s = true) (hinst : (Cond.instantiable C N).before args s = true) (hini : (Cond.initialized C).before args s = true)
    (hK : va_K D cl tys s) (hP : mw_P D cl M A H) (hS : va_S A s.heap H locs) (hA : ∀ q, s.heap.size ≤ q → A q) (hc : cl[ci]? = some (C, T, N)) {fs : List Value} (hfs : ∀ j, j < N → defaultValue (ty j) = vp_V fs j) (hcells : cells + 1 ≤ R.cells) (hslots : slots + N ≤ R.slots) (hdg : decode cc pc = .ok (.new index, 3))
    (kk : ∀ (q : Nat) (H1 : Heap), M q = none → mw_P D cl (va_up M q (some (.inr (ci, fs)))) A H1 → va_S A s.heap H1 locs → W p l e R s m args below meth c H1 locs (cells + 1) (slots + N) Q (F0 m (pc + 3) ls (.ref q :: rest))) : W p l e R s m args below meth c H locs cells slots Q (F0 m pc ls rest) := by
  obtain ⟨ws, h1, h2, h3⟩ := mw_add hP
  exact va_new J.1 J.2.1 J.2.2.2.2 hin ty hty J.2.2.2.1 hcl hinst hini hK h1 h2 hS hA hc hfs hcells hslots hdg fun q H1 g1 g2 g3 => kk q H1 (h3 _ _ _ g1 g2).1 (h3 _ _ _ g1 g2).2 g3
/-- a new array of ints, of the kind that the tables know -/
theorem mw_newi (J : CallFix p m c cc nL s args Ts own) (harr : (Cond.arrayClass .int).before args s = true) (hK : va_K D cl tys s) (hP : mw_P D cl M A H) (hS : va_S A s.heap H locs) (hA : ∀ q, s.heap.size ≤ q → A q) (t0 : Nat) {cA : ClassId} (ht : tys[t0]? = some (cA, .int)) {n : Int32} {N' : Nat} (hn : ¬ n < 0) (hN : n.toNatClampNeg = N') (hbytes : N' * componentBytes .int ≤ 536870912) (hcells : cells + 1 ≤ R.cells) (hslots : slots + N' ≤ R.slots) (hdg : decode cc pc = .ok (.newarray .int, 2))
    (kk : ∀ (q : Nat) (H1 : Heap), M q = none → mw_P D cl (va_up M q (some (.inl (cA, N', .inl (fun _ => 0))))) A H1 → va_S A s.heap H1 locs → W p l e R s m args below meth c H1 locs (cells + 1) (slots + N') Q (F0 m (pc + 2) ls (.ref q :: rest))) : W p l e R s m args below meth c H locs cells slots Q (F0 m pc ls (.int n :: rest)) := by
  obtain ⟨ws, h1, h2, h3⟩ := mw_add hP
  refine va_newa (a0 := (N', .inl (fun _ => 0))) (atype := .int) J.1 J.2.1 harr rfl hK h1 h2 hS hA (fun cA => rfl) hn hN hbytes hcells hslots hdg fun q cB H1 g0 g1 g2 g3 => ?_
  have e1 : s.vm.findClass ("[" ++ (FieldType.int).toString) = some cB := (g0.2 tys.length (cB, .int) (by simp; rfl)).2
  have e2 : s.vm.findClass ("[" ++ (FieldType.int).toString) = some cA := (hK.2 t0 _ ht).2
  have e3 : cB = cA := Option.some.inj (e1.symm.trans e2)
  subst e3
  exact kk q H1 (h3 _ _ _ g1 g2).1 (h3 _ _ _ g1 g2).2 g3
theorem mw_newq {C : String} {index : Nat} (J : CallFix p m c cc nL s args Ts own) (hclink : (Cond.classLink own index C).before args s = true) (hover : va_AO C s) (hK : va_K D cl tys s) (hP : mw_P D cl M A H) (hS : va_S A s.heap H locs) (hA : ∀ q, s.heap.size ≤ q → A q) (t0 : Nat) {cA : ClassId} (ht : tys[t0]? = some (cA, .object C)) {n : Int32} {N' : Nat} (hn : ¬ n < 0) (hN : n.toNatClampNeg = N') (hbytes : N' * 4 ≤ 536870912) (hcells : cells + 1 ≤ R.cells) (hslots : slots + N' ≤ R.slots) (hdg : decode cc pc = .ok (.anewarray index, 3))
    (kk : ∀ (q : Nat) (H1 : Heap), M q = none → mw_P D cl (va_up M q (some (.inl (cA, N', .inr (.inr (.inr (.inr (fun _ => none)))))))) A H1 → va_S A s.heap H1 locs → W p l e R s m args below meth c H1 locs (cells + 1) (slots + N') Q (F0 m (pc + 3) ls (.ref q :: rest))) : W p l e R s m args below meth c H locs cells slots Q (F0 m pc ls (.int n :: rest)) := by
  obtain ⟨ws, h1, h2, h3⟩ := mw_add hP
  refine va_newq J.1 J.2.1 J.2.2.2.1 hclink hover hK h1 h2 hS hA hn hN hbytes hcells hslots hdg fun q cB H1 g0 g1 g2 g3 => ?_
  obtain ⟨-, -, -, -, -, e1⟩ := (g0.2 tys.length (cB, .object C) (by simp)).2
  obtain ⟨-, -, -, -, -, e2⟩ := (hK.2 t0 _ ht).2
  have e3 : cB = cA := Option.some.inj (e1.symm.trans e2)
  subst e3
  exact kk q H1 (h3 _ _ _ g1 g2).1 (h3 _ _ _ g1 g2).2 g3
/-- a static table: its reference, and a place of it -/
theorem mw_gets {C n d ref : String} {index t N : Nat} {f : Nat → Value} (J : CallFix p m c cc nL s args Ts own) (hZ : mw_Z g A s s.heap) (hS : va_S A s.heap H locs) (hz : (C, n, d, t, N, f) ∈ g.1) (hlink : (Cond.fieldLink own index ref n d).before args s = true) (hsame : ∀ x, s.fieldFound? C n d = some x → s.fieldFound? ref n d = some x) (hdg : decode cc pc = .ok (.getstatic index, 3))
    (kk : W p l e R s m args below meth c H locs cells slots Q (F0 m (pc + 3) ls (.ref t :: rest))) : W p l e R s m args below meth c H locs cells slots Q (F0 m pc ls rest) :=
  va_gets J.1 J.2.1 (hZ.1 _ hz).1 hS J.2.2.2.1 hlink hsame hdg kk
theorem mw_ti {C n d : String} {t N : Nat} {f : Nat → Value} (J : CallFix p m c cc nL s args Ts own) (hZ : mw_Z g A s s.heap) (hS : va_S A s.heap H locs) (hz : (C, n, d, t, N, f) ∈ g.1) {i : Int32} (hin : vp_in i N) {v : Value} (hv : f i.toNatClampNeg = v) (hdg : decode cc pc = .ok (.iaload, 1))
    (kk : W p l e R s m args below meth c H locs cells slots Q (F0 m (pc + 1) ls (v :: rest))) : W p l e R s m args below meth c H locs cells slots Q (F0 m pc ls (.int i :: .ref t :: rest)) :=
  va_ti J.1 J.2.1 (hZ.1 _ hz).2 hS hin hv hdg kk
theorem mw_getsN {C n d ref host : String} {index t N : Nat} {f : Nat → Value} (J : CallFix p m c cc nL s args Ts own) (hZ : mw_Z g A s s.heap) (hS : va_S A s.heap H locs) (hz : (C, n, d, t, N, f) ∈ g.1) (hlink : (own, index, ref, n, d, host) ∈ g.2.2) (hsame : ∀ x, s.fieldFound? C n d = some x → s.fieldFound? ref n d = some x) (hdg : decode cc pc = .ok (.getstatic index, 3))
    (kk : W p l e R s m args below meth c H locs cells slots Q (F0 m (pc + 3) ls (.ref t :: rest))) : W p l e R s m args below meth c H locs cells slots Q (F0 m pc ls rest) :=
  va_getsN J.1 J.2.1 (hZ.1 _ hz).1 hS J.2.2.2.1 (va_Nw.use rfl (hZ.2.2 _ hlink)) hsame hdg kk
end MW1
end
section
section MW2
variable {p : Program} {l : Launch} {e : Env} {R : Room} {s : State} {m : MethodId} {args : Array Value} {below : List Frame} {meth : Method} {c : Code} {H : Heap} {locs : List Loc} {cells slots : Nat} {Q : State → Prop}
variable {cc : ByteArray} {pc nL : Nat} {ls : Array Slot} {rest st0 : List Value} {D : va_G} {cl : List vw_C} {A : Nat → Prop} {tys : List (ClassId × FieldType)} {g : mw_G} {M : mw_M} {Ts : List Cond} {own : String}
variable {y : MethodName} {bytes : ByteArray} {maxL mc ms n index : Nat} {ret : Option FieldType} {ws ws' : List Cond} {rm : Room} {As : List Value} {b : Nat}
/-- behind a call that answers an int -/
theorem mw_afterI {a : Array Value} {post : Int32 → mw_M → Prop} (hP : mw_P D cl M A H) (hS : va_S A s.heap H locs) (hA : ∀ q, s.heap.size ≤ q → A q)
    (hr : va_Run p l e R s m args below meth c H locs cells slots mc ms (F0 m pc ls st0) rest (va_Qi post (mw_E D cl M H.size) (mw_A M H.size) a) (mw_A M H.size))
    (kk : ∀ (r : Int32) (M' : mw_M) (H1 : Heap) (locs1 : List Loc), post r M' → mw_P D cl M' A H1 → va_S A s.heap H1 locs1 → W p l e R s m args below meth c H1 locs1 (cells + mc) (slots + ms) Q (F0 m (pc + 3) ls (.int r :: rest))) : W p l e R s m args below meth c H locs cells slots Q (F0 m pc ls st0) := by
  have hF := mw_free hP hS hA
  refine va_calli hr hS (fun q _ h => hF q h) hF (fun r u t H1 locs1 ht hvm hw hB hz1 hk1 hS1 => ?_)
  refine kk r u H1 locs1 hw ?_ hS1
  rw [← ht]
  exact mw_P.weaken hB (fun q _ h => hF q h)
theorem mw_afterV {a : Array Value} {post : mw_M → Prop} (hP : mw_P D cl M A H) (hS : va_S A s.heap H locs) (hA : ∀ q, s.heap.size ≤ q → A q)
    (hr : va_Run p l e R s m args below meth c H locs cells slots mc ms (F0 m pc ls st0) rest (va_Qv post (mw_E D cl M H.size) (mw_A M H.size) a) (mw_A M H.size))
    (kk : ∀ (M' : mw_M) (H1 : Heap) (locs1 : List Loc), post M' → mw_P D cl M' A H1 → va_S A s.heap H1 locs1 → W p l e R s m args below meth c H1 locs1 (cells + mc) (slots + ms) Q (F0 m (pc + 3) ls rest)) : W p l e R s m args below meth c H locs cells slots Q (F0 m pc ls st0) := by
  have hF := mw_free hP hS hA
  refine va_callv hr hS (fun q _ h => hF q h) hF (fun u t H1 locs1 ht hvm hw hB hz1 hk1 hS1 => ?_)
  refine kk u H1 locs1 hw ?_ hS1
  rw [← ht]
  exact mw_P.weaken hB (fun q _ h => hF q h)
theorem mw_afterR {a : Array Value} {post : mw_M × Nat → Prop} (hP : mw_P D cl M A H) (hS : va_S A s.heap H locs) (hA : ∀ q, s.heap.size ≤ q → A q)
    (hr : va_Run p l e R s m args below meth c H locs cells slots mc ms (F0 m pc ls st0) rest (va_Qr post (mw_Er D cl M H.size) (mw_A M H.size) a) (mw_A M H.size))
    (kk : ∀ (r : Nat) (M' : mw_M) (H1 : Heap) (locs1 : List Loc), post (M', r) → mw_P D cl M' A H1 → va_S A s.heap H1 locs1 → W p l e R s m args below meth c H1 locs1 (cells + mc) (slots + ms) Q (F0 m (pc + 3) ls (.ref r :: rest))) : W p l e R s m args below meth c H locs cells slots Q (F0 m pc ls st0) := by
  have hF := mw_free hP hS hA
  refine va_callr hr hS (fun q _ h => hF q h) hF (fun u ra t H1 locs1 ht hvm hw hB hz1 hk1 hS1 => ?_)
  obtain ⟨M', r⟩ := u
  obtain ⟨e1, hB⟩ := hB
  have e1 : r = ra := e1
  subst e1
  refine kk r M' H1 locs1 hw ?_ hS1
  rw [← ht]
  exact mw_P.weaken hB (fun q _ h => hF q h)
theorem mw_runV {ci : Nat} {fs : List Value} {r : vw_C} {Qc : Array Value → State → Outcome → State → Prop} (J : CallFix p m c cc nL s args Ts own) (hK : va_K D cl tys s) (hZ : mw_Z g A s s.heap) (hP : mw_P D cl M A H) (hS : va_S A s.heap H locs) (hA : ∀ q, s.heap.size ≤ q → A q)
    (hb : M b = some (.inr (ci, fs))) (hc : cl[ci]? = some r) (hM : Met l y ws rm (va_Pc (.ref b :: As) (mw_B D cl tys g M H.size)) Qc mc ms (mw_A M H.size)) (cw : CallW R s args own r.1 index y bytes maxL ret ws rm mc ms n)
    (hn : As.length = n) (hsize : ls.size = nL) (hstack : st0 = As.reverse ++ .ref b :: rest) (hW : (rest.map fun v => v.category).sum ≤ 8) (hdg : decode cc pc = .ok (.invokevirtual index, 3)) (hf : cells + mc ≤ R.cells ∧ slots + ms ≤ R.slots) :
    va_Run p l e R s m args below meth c H locs cells slots mc ms (F0 m pc ls st0) rest (Qc (Value.ref b :: As).toArray) (mw_A M H.size) := by
  obtain ⟨ws0, q0, h1, -, h2, -⟩ := mw_row hP hb
  exact va_runV (As := As) (rest := rest) J hM cw ⟨mw_blind, va_recv hK h1 hc h2, mw_pre hK hZ hP hS hA⟩ rfl hn hsize hstack (lv_room hW) hdg hf
theorem mw_runS {Qc : Array Value → State → Outcome → State → Prop} (J : CallFix p m c cc nL s args Ts own) (hK : va_K D cl tys s) (hZ : mw_Z g A s s.heap) (hP : mw_P D cl M A H) (hS : va_S A s.heap H locs) (hA : ∀ q, s.heap.size ≤ q → A q)
    (hM : Met l y ws rm (va_Pc As (mw_B D cl tys g M H.size)) Qc mc ms (mw_A M H.size)) (cw : CallB R s args own index y bytes maxL ret ws rm mc ms n ∧ (Cond.static y).before args s = true)
    (hn : As.length = n) (hsize : ls.size = nL) (hstack : st0 = As.reverse ++ rest) (hW : (rest.map fun v => v.category).sum ≤ 8) (hdg : decode cc pc = .ok (.invokestatic index, 3)) (hf : cells + mc ≤ R.cells ∧ slots + ms ≤ R.slots) :
    va_Run p l e R s m args below meth c H locs cells slots mc ms (F0 m pc ls st0) rest (Qc As.toArray) (mw_A M H.size) :=
  va_runS (As := As) (rest := rest) J hM cw ⟨mw_blind, mw_pre hK hZ hP hS hA⟩ rfl hn hsize hstack (lv_room hW) hdg hf
theorem mw_runI {Qc : Array Value → State → Outcome → State → Prop} (J : CallFix p m c cc nL s args Ts own) (hK : va_K D cl tys s) (hZ : mw_Z g A s s.heap) (hP : mw_P D cl M A H) (hS : va_S A s.heap H locs) (hA : ∀ q, s.heap.size ≤ q → A q)
    (hM : Met l y ws rm (va_Pc (.ref b :: As) (mw_B D cl tys g M H.size)) Qc mc ms (mw_A M H.size)) (cw : CallB R s args own index y bytes maxL none ws rm mc ms n ∧ y.name = "<init>" ∧ (Cond.instanceMethod y).before args s = true)
    (hn : As.length = n) (hsize : ls.size = nL) (hstack : st0 = As.reverse ++ .ref b :: rest) (hW : (rest.map fun v => v.category).sum ≤ 8) (hdg : decode cc pc = .ok (.invokespecial index, 3)) (hf : cells + mc ≤ R.cells ∧ slots + ms ≤ R.slots) :
    va_Run p l e R s m args below meth c H locs cells slots mc ms (F0 m pc ls st0) rest (Qc (Value.ref b :: As).toArray) (mw_A M H.size) :=
  va_runI (As := As) (rest := rest) J hM cw ⟨mw_blind, mw_pre hK hZ hP hS hA⟩ rfl hn hsize hstack (lv_room hW) hdg hf
/-- a method's contract out of its walk -/
theorem mw_met {sz : Nat} {av : List Value} {Qc : Array Value → State → Outcome → State → Prop} {free : Addr → Prop} (hy : plainName y.cls = true) (hw : ws = Cond.code y cc maxL ret :: ws') (hlen : (lg_sl av).length ≤ maxL)
    (body : ∀ (p : Program) (e : Env) (s : State) (m : MethodId) (below : List Frame) (meth : Method) (c : Code), s.heap.size = sz → CallFix p m c cc maxL s av.toArray ws' y.cls → meth.sig.returnType = ret → meth.locks = false → meth.name = y.name → va_K D cl tys s → mw_Z g (mw_A M s.heap.size) s s.heap → mw_P D cl M (mw_A M s.heap.size) s.heap → va_S (mw_A M s.heap.size) s.heap s.heap [] → (∀ q, s.heap.size ≤ q → mw_A M s.heap.size q) →
      ∀ ls : Array Slot, lv_has ls maxL (lv_args 0 av) → W p l e rm s m av.toArray below meth c s.heap [] 0 0 (MQ below Qc av.toArray s mc ms free) (F0 m 0 ls [])) :
    Met l y ws rm (va_Pc av (mw_B D cl tys g M sz)) Qc mc ms free := by
  refine Met.ofW (cc := cc) (maxL := maxL) (ret := ret) hy hw ?_
  intro p e s m args below meth c s₁ B hml hv
  obtain ⟨rfl, hsz, hP, hK, hZ⟩ := hv
  have hts := atoms_spec (ws := ws) B.pre
  have hown : s.vm.findClass y.cls = some m.cls := findClass_of_methodNamed B.named
  subst hsz
  have hl := lv_entry av (n := maxL) hlen
  rw [lg_entry_eq]
  exact body p e s m below meth c rfl ⟨B.exec, B.bytes, hml, hown, fun w h => hts w (by rw [hw]; exact List.mem_cons_of_mem _ h)⟩ B.returns B.notSynchronized (name_of_methodNamed B.named B.method).1 hK hZ hP.self va_S.rf (fun q h => Or.inr h) _ hl
theorem mw_iret {v : Int32} {M' : mw_M} {post : Int32 → mw_M → Prop} (J : CallFix p m c cc nL s args Ts own) (hr : meth.sig.returnType = some .int) (hlocks : meth.locks = false) (hP : mw_P D cl M' (mw_A M s.heap.size) H) (hS : va_S (mw_A M s.heap.size) s.heap H locs) (hdg : decode cc pc = .ok (.ireturn, 1)) (hp : post v M') :
    W p l e R s m args below meth c H locs cells slots (MQ below (va_Qi post (mw_E D cl M s.heap.size) (mw_A M s.heap.size)) args s cells slots (mw_A M s.heap.size)) (F0 m pc ls [.int v]) :=
  W.iret J.1 J.2.1 hr (fun t ht hW => ⟨⟨v, M', rfl, hp, by show mw_P D cl M' (mw_A M s.heap.size) t.heap; rw [ht]; exact hP⟩, hS.F ht⟩) hS.2.2 hdg hlocks
theorem mw_zret {v : Int32} {M' : mw_M} {post : Int32 → mw_M → Prop} (J : CallFix p m c cc nL s args Ts own) (hr : meth.sig.returnType = some .boolean) (hlocks : meth.locks = false) (hn : narrow .boolean (.int v) = .int v) (hP : mw_P D cl M' (mw_A M s.heap.size) H) (hS : va_S (mw_A M s.heap.size) s.heap H locs) (hdg : decode cc pc = .ok (.ireturn, 1)) (hp : post v M') :
    W p l e R s m args below meth c H locs cells slots (MQ below (va_Qi post (mw_E D cl M s.heap.size) (mw_A M s.heap.size)) args s cells slots (mw_A M s.heap.size)) (F0 m pc ls [.int v]) :=
  W.zret J.1 J.2.1 hr hn (fun t ht hW => ⟨⟨v, M', rfl, hp, by show mw_P D cl M' (mw_A M s.heap.size) t.heap; rw [ht]; exact hP⟩, hS.F ht⟩) hS.2.2 hdg hlocks
theorem mw_vret {M' : mw_M} {post : mw_M → Prop} (J : CallFix p m c cc nL s args Ts own) (hr : meth.sig.returnType = none) (hlocks : meth.locks = false) (hP : mw_P D cl M' (mw_A M s.heap.size) H) (hS : va_S (mw_A M s.heap.size) s.heap H locs) (hdg : decode cc pc = .ok (.return_, 1)) (hp : post M') :
    W p l e R s m args below meth c H locs cells slots (MQ below (va_Qv post (mw_E D cl M s.heap.size) (mw_A M s.heap.size)) args s cells slots (mw_A M s.heap.size)) (F0 m pc ls []) :=
  W.vret J.1 J.2.1 hr (fun t ht hW => ⟨⟨M', rfl, hp, by show mw_P D cl M' (mw_A M s.heap.size) t.heap; rw [ht]; exact hP⟩, hS.F ht⟩) hS.2.2 hdg hlocks
theorem mw_aret {r : Nat} {C : String} {M' : mw_M} {post : mw_M × Nat → Prop} (J : CallFix p m c cc nL s args Ts own) (hr : meth.sig.returnType = some (.object C)) (hlocks : meth.locks = false) (hP : mw_P D cl M' (mw_A M s.heap.size) H) (hS : va_S (mw_A M s.heap.size) s.heap H locs) (hdg : decode cc pc = .ok (.areturn, 1)) (hp : post (M', r)) :
    W p l e R s m args below meth c H locs cells slots (MQ below (va_Qr post (mw_Er D cl M s.heap.size) (mw_A M s.heap.size)) args s cells slots (mw_A M s.heap.size)) (F0 m pc ls [.ref r]) :=
  W.aret J.1 J.2.1 hr (Or.inl ⟨C, rfl⟩) (Or.inr ⟨r, rfl⟩) (fun t ht hW => ⟨⟨(M', r), r, rfl, hp, rfl, by show mw_P D cl M' (mw_A M s.heap.size) t.heap; rw [ht]; exact hP⟩, hS.F ht⟩) hS.2.2 hdg hlocks
end MW2
/-! overlays: a world with the cells at ad 0 .. ad (n - 1) replaced -/
def mw_ov (M : mw_M) (ad : Nat → Nat) (c : Nat → va_E) : Nat → mw_M
  | 0 => M
  | n + 1 => va_up (mw_ov M ad c n) (ad n) (some (c n))
def mw_inj (ad : Nat → Nat) (n : Nat) : Prop := ∀ i j, i < n → j < n → ad i = ad j → i = j
theorem mw_ov_off {M : mw_M} {ad : Nat → Nat} {c : Nat → va_E} {q : Nat} : ∀ {n : Nat}, (∀ i, i < n → ad i ≠ q) → mw_ov M ad c n q = M q
  | 0, _ => rfl
  | n + 1, h => by
    show va_up (mw_ov M ad c n) (ad n) (some (c n)) q = M q
    rw [va_up_ne _ _ (Ne.symm (h n (Nat.lt_succ_self n)))]
    exact mw_ov_off (fun i hi => h i (Nat.lt_succ_of_lt hi))
theorem mw_ov_at {M : mw_M} {ad : Nat → Nat} {c : Nat → va_E} {i : Nat} : ∀ {n : Nat}, mw_inj ad n → i < n → mw_ov M ad c n (ad i) = some (c i)
  | 0, _, h => absurd h (Nat.not_lt_zero i)
  | n + 1, hj, h => by
    show va_up (mw_ov M ad c n) (ad n) (some (c n)) (ad i) = some (c i)
    by_cases hi : i = n
    · subst hi
      exact va_up_self _ _ _
    · rw [va_up_ne _ _ (fun e => hi (hj i n h (Nat.lt_succ_self n) e))]
      exact mw_ov_at (fun a b ha hb e => hj a b (Nat.lt_succ_of_lt ha) (Nat.lt_succ_of_lt hb) e) (by omega)
/-- one cell of the overlay is written -/
theorem mw_ov_set {M : mw_M} {ad : Nat → Nat} {c : Nat → va_E} {n i : Nat} {e : va_E} (hj : mw_inj ad n) (hi : i < n) : va_up (mw_ov M ad c n) (ad i) (some e) = mw_ov M ad (va_up c i e) n := by
  funext q
  by_cases hq : ∃ j, j < n ∧ ad j = q
  · obtain ⟨j, hjn, rfl⟩ := hq
    rw [mw_ov_at hj hjn]
    by_cases hji : j = i
    · subst hji
      rw [va_up_self, va_up_self]
    · rw [va_up_ne _ _ (fun e => hji (hj j i hjn hi e)), va_up_ne _ _ hji, mw_ov_at hj hjn]
  · have h1 : ∀ j, j < n → ad j ≠ q := fun j hjn e => hq ⟨j, hjn, e⟩
    rw [mw_ov_off h1, va_up_ne _ _ (Ne.symm (h1 i hi)), mw_ov_off h1]
/-- the overlay of a world's own cells is that world -/
theorem mw_ov_self {M : mw_M} {ad : Nat → Nat} {c : Nat → va_E} : ∀ {n : Nat}, (∀ i, i < n → M (ad i) = some (c i)) → mw_ov M ad c n = M
  | 0, _ => rfl
  | n + 1, h => by
    show va_up (mw_ov M ad c n) (ad n) (some (c n)) = M
    rw [mw_ov_self (fun i hi => h i (Nat.lt_succ_of_lt hi))]
    funext q
    by_cases hq : q = ad n
    · rw [hq, va_up_self, h n (Nat.lt_succ_self n)]
    · rw [va_up_ne _ _ hq]
/-- a new cell beside the overlay -/
theorem mw_ov_new {M : mw_M} {ad : Nat → Nat} {c : Nat → va_E} {q : Nat} {x : Option va_E} : ∀ {n : Nat}, (∀ i, i < n → ad i ≠ q) → va_up (mw_ov M ad c n) q x = mw_ov (va_up M q x) ad c n
  | 0, _ => rfl
  | n + 1, h => by
    show va_up (va_up (mw_ov M ad c n) (ad n) (some (c n))) q x = va_up (mw_ov (va_up M q x) ad c n) (ad n) (some (c n))
    rw [← mw_ov_new (fun i hi => h i (Nat.lt_succ_of_lt hi))]
    have hn := h n (Nat.lt_succ_self n)
    funext z
    by_cases h1 : z = q
    · subst h1
      rw [va_up_self, va_up_ne _ _ (Ne.symm hn), va_up_self]
    · by_cases h2 : z = ad n
      · subst h2
        rw [va_up_ne _ _ h1, va_up_self, va_up_self]
      · rw [va_up_ne _ _ h1, va_up_ne _ _ h2, va_up_ne _ _ h2, va_up_ne _ _ h1]
theorem mw_ov_congr {M : mw_M} {ad : Nat → Nat} {c c' : Nat → va_E} : ∀ {n : Nat}, (∀ i, i < n → c i = c' i) → mw_ov M ad c n = mw_ov M ad c' n
  | 0, _ => rfl
  | n + 1, h => by
    show va_up (mw_ov M ad c n) (ad n) (some (c n)) = va_up (mw_ov M ad c' n) (ad n) (some (c' n))
    rw [mw_ov_congr (fun i hi => h i (Nat.lt_succ_of_lt hi)), h n (Nat.lt_succ_self n)]
/-- overlay over overlay -/
theorem mw_ov_ov {M : mw_M} {ad : Nat → Nat} {c c' : Nat → va_E} {n : Nat} (hj : mw_inj ad n) : mw_ov (mw_ov M ad c n) ad c' n = mw_ov M ad c' n := by
  funext q
  by_cases hq : ∃ j, j < n ∧ ad j = q
  · obtain ⟨j, hjn, rfl⟩ := hq
    rw [mw_ov_at hj hjn, mw_ov_at hj hjn]
  · have h1 : ∀ j, j < n → ad j ≠ q := fun j hjn e => hq ⟨j, hjn, e⟩
    rw [mw_ov_off h1, mw_ov_off h1, mw_ov_off h1]
section MW3
variable {p : Program} {l : Launch} {e : Env} {R : Room} {s : State} {m : MethodId} {args : Array Value} {below : List Frame} {meth : Method} {c : Code} {H : Heap} {locs : List Loc} {cells slots : Nat} {Q : State → Prop}
variable {cc : ByteArray} {pc nL : Nat} {ls : Array Slot} {rest : List Value} {D : va_G} {cl : List vw_C} {A : Nat → Prop} {a : Nat} {tys : List (ClassId × FieldType)} {M : mw_M} {Ts : List Cond} {own : String}
/-- the top of the stack under another name -/
theorem mw_top {x x' : Int32} (he : x = x') (k : W p l e R s m args below meth c H locs cells slots Q (F0 m pc ls (.int x' :: rest))) : W p l e R s m args below meth c H locs cells slots Q (F0 m pc ls (.int x :: rest)) := by
  rw [he]
  exact k
/-- arrays at a place that is a natural number -/
theorem mw_ialdN (J : CallFix p m c cc nL s args Ts own) (hK : va_K D cl tys s) (hP : mw_P D cl M A H) (t0 : Nat) {cA : ClassId} {n k : Nat} {f : Nat → Int32} (ha : M a = some (.inl (cA, n, .inl f))) (ht : tys[t0]? = some (cA, .int)) (hk : k < n) (hn : n < 2 ^ 31) (hdg : decode cc pc = .ok (.iaload, 1))
    (kk : W p l e R s m args below meth c H locs cells slots Q (F0 m (pc + 1) ls (.int (f k) :: rest))) : W p l e R s m args below meth c H locs cells slots Q (F0 m pc ls (.int (nI k) :: .ref a :: rest)) :=
  mw_iald J hK hP t0 ha ht (vp_in_nI hk hn) hdg (by rw [nI_clamp (Nat.lt_trans hk hn)]; exact kk)
theorem mw_iastN (J : CallFix p m c cc nL s args Ts own) (hK : va_K D cl tys s) (hP : mw_P D cl M A H) (hS : va_S A s.heap H locs) (t0 : Nat) {cA : ClassId} {n k : Nat} {f : Nat → Int32} (ha : M a = some (.inl (cA, n, .inl f))) (ht : tys[t0]? = some (cA, .int)) {x : Int32} (hk : k < n) (hn : n < 2 ^ 31) (hdg : decode cc pc = .ok (.iastore, 1))
    (kk : ∀ (H1 : Heap) (locs1 : List Loc), mw_P D cl (va_up M a (some (.inl (cA, n, .inl (upd f k x))))) A H1 → va_S A s.heap H1 locs1 → W p l e R s m args below meth c H1 locs1 cells slots Q (F0 m (pc + 1) ls rest)) : W p l e R s m args below meth c H locs cells slots Q (F0 m pc ls (.int x :: .int (nI k) :: .ref a :: rest)) :=
  mw_iast J hK hP hS t0 ha ht (vp_in_nI hk hn) hdg (by rw [nI_clamp (Nat.lt_trans hk hn)]; exact kk)
theorem mw_aaldN (J : CallFix p m c cc nL s args Ts own) (hK : va_K D cl tys s) (hP : mw_P D cl M A H) (t0 : Nat) {cA : ClassId} {C : String} {n k : Nat} {f : Nat → Option Nat} (ha : M a = some (.inl (cA, n, .inr (.inr (.inr (.inr f)))))) (ht : tys[t0]? = some (cA, .object C)) (hk : k < n) (hn : n < 2 ^ 31) {b : Nat} (hv : f k = some b) (hdg : decode cc pc = .ok (.aaload, 1))
    (kk : W p l e R s m args below meth c H locs cells slots Q (F0 m (pc + 1) ls (.ref b :: rest))) : W p l e R s m args below meth c H locs cells slots Q (F0 m pc ls (.int (nI k) :: .ref a :: rest)) :=
  mw_aald J hK hP t0 ha ht (vp_in_nI hk hn) (by rw [nI_clamp (Nat.lt_trans hk hn)]; exact hv) hdg kk
theorem mw_aastN (J : CallFix p m c cc nL s args Ts own) (hK : va_K D cl tys s) (hP : mw_P D cl M A H) (hS : va_S A s.heap H locs) (t0 ci : Nat) {cA : ClassId} {r : vw_C} {n k b : Nat} {vs : List Value} {f : Nat → Option Nat} (ha : M a = some (.inl (cA, n, .inr (.inr (.inr (.inr f)))))) (ht : tys[t0]? = some (cA, .object r.1)) (hv : M b = some (.inr (ci, vs))) (hc : cl[ci]? = some r) (hk : k < n) (hn : n < 2 ^ 31) (hdg : decode cc pc = .ok (.aastore, 1))
    (kk : ∀ (H1 : Heap) (locs1 : List Loc), mw_P D cl (va_up M a (some (.inl (cA, n, .inr (.inr (.inr (.inr (va_up f k (some b))))))))) A H1 → va_S A s.heap H1 locs1 → W p l e R s m args below meth c H1 locs1 cells slots Q (F0 m (pc + 1) ls rest)) : W p l e R s m args below meth c H locs cells slots Q (F0 m pc ls (.ref b :: .int (nI k) :: .ref a :: rest)) :=
  mw_aast J hK hP hS t0 ci ha ht hv hc (vp_in_nI hk hn) hdg (by rw [nI_clamp (Nat.lt_trans hk hn)]; exact kk)
end MW3
/-- a counting loop: the invariant I i, from i up to e -/
theorem mw_loop {W' : Heap → List Loc → Array Slot → Prop} (e : Nat) (I : Nat → Heap → List Loc → Array Slot → Prop)
    (hs : ∀ i H locs ls, i ≤ e → I i H locs ls → (∀ H1 locs1 ls1, i < e → I (i + 1) H1 locs1 ls1 → W' H1 locs1 ls1) → W' H locs ls) :
    ∀ (n i : Nat), e - i ≤ n → i ≤ e → ∀ H locs ls, I i H locs ls → W' H locs ls := by
  intro n
  induction n with
  | zero =>
    intro i hn hi H locs ls h
    exact hs i H locs ls hi h (fun _ _ _ hlt _ => absurd hlt (by omega))
  | succ n ih =>
    intro i hn hi H locs ls h
    exact hs i H locs ls hi h (fun H1 locs1 ls1 hlt h1 => ih (i + 1) (by omega) (by omega) H1 locs1 ls1 h1)
theorem mw_ov_is {M : mw_M} {ad : Nat → Nat} {c : Nat → va_E} {n i : Nat} {x : va_E} (hj : mw_inj ad n) (hi : i < n) (he : c i = x) : mw_ov M ad c n (ad i) = some x := (mw_ov_at hj hi).trans (congrArg some he)
end
section
theorem mw_gV {own C : String} {idx : Nat} {y : MethodName} {b : ByteArray} {n : Nat} {r : Option FieldType} (h1 : Cond.methodLink own idx y ∈ gw) (h2 : Cond.instanceMethod y ∈ gw) (h3 : Cond.selects C y y ∈ gw) (h4 : Cond.initialized C ∈ gw) (h5 : Cond.code y b n r ∈ gw) : GoodIn gw (wsV own idx C y (.code y b n r :: gw)) := by
  intro w hw
  have hm : w ∈ gw := by
    unfold wsV at hw
    rcases List.mem_append.mp hw with h | h
    · rcases List.mem_cons.mp h with rfl | h
      · exact h1
      · rcases List.mem_cons.mp h with rfl | h
        · exact h2
        · rcases List.mem_cons.mp h with rfl | h
          · exact h3
          · rw [List.mem_singleton.mp h]
            exact h4
    · rcases List.mem_cons.mp h with rfl | h
      · exact h5
      · exact h
  exact ⟨hm, gw_good w hm⟩
theorem mw_gS {own : String} {idx : Nat} {y : MethodName} {b : ByteArray} {n : Nat} {r : Option FieldType} (h1 : Cond.methodLink own idx y ∈ gw) (h2 : Cond.static y ∈ gw) (h4 : Cond.initialized own ∈ gw) (h5 : Cond.code y b n r ∈ gw) : GoodIn gw (wsS own idx y (.code y b n r :: gw)) := by
  intro w hw
  have hm : w ∈ gw := by
    unfold wsS at hw
    rcases List.mem_append.mp hw with h | h
    · rcases List.mem_cons.mp h with rfl | h
      · exact h1
      · rcases List.mem_cons.mp h with rfl | h
        · exact h2
        · rw [List.mem_singleton.mp h]
          exact h4
    · rcases List.mem_cons.mp h with rfl | h
      · exact h5
      · exact h
  exact ⟨hm, gw_good w hm⟩
theorem mw_gI {y : MethodName} {b : ByteArray} {n : Nat} {r : Option FieldType} (h5 : Cond.code y b n r ∈ gw) : GoodIn gw (.code y b n r :: gw) := by
  intro w hw
  have hm : w ∈ gw := by
    rcases List.mem_cons.mp hw with rfl | h
    · exact h5
    · exact h
  exact ⟨hm, gw_good w hm⟩
end
section
/-! bits (the families bt, nx_and, nf_sh begin as kit/laws/BITS.to-paste has them), and codes: three numbers below 32 in one -/
def bt (x : Int32) (i : Nat) : Bool := x.toBitVec.getLsbD i
theorem b_or (x y : Int32) (i : Nat) : bt (x ||| y) i = (bt x i || bt y i) := by unfold bt; rw [Int32.toBitVec_or, BitVec.getLsbD_or]
theorem b_and (x y : Int32) (i : Nat) : bt (x &&& y) i = (bt x i && bt y i) := by unfold bt; rw [Int32.toBitVec_and, BitVec.getLsbD_and]
theorem b_xor (x y : Int32) (i : Nat) : bt (x ^^^ y) i = (bt x i ^^ bt y i) := by unfold bt; rw [Int32.toBitVec_xor, BitVec.getLsbD_xor]
theorem b_m1 : ∀ i, i < 32 → bt (-1) i = true := by decide +kernel
theorem b_0 (i : Nat) : bt 0 i = false := BitVec.getLsbD_zero
theorem nx_and (a b : Nat) : nI a &&& nI b = nI (a &&& b) := by
  apply Int32.toBitVec_inj.1
  show BitVec.ofNat 32 a &&& BitVec.ofNat 32 b = BitVec.ofNat 32 (a &&& b)
  apply BitVec.eq_of_getLsbD_eq
  intro i hi
  simp [hi]
theorem nx_or (a b : Nat) : nI a ||| nI b = nI (a ||| b) := by
  apply Int32.toBitVec_inj.1
  show BitVec.ofNat 32 a ||| BitVec.ofNat 32 b = BitVec.ofNat 32 (a ||| b)
  apply BitVec.eq_of_getLsbD_eq
  intro i hi
  simp [hi]
theorem nf_sh : ∀ l, l < 32 → ((1 : Int32) <<< (nI l &&& 31)).toBitVec = BitVec.twoPow 32 l := by decide +kernel
theorem nf_tp : ∀ l, l < 32 → BitVec.twoPow 32 l ≠ 0#32 := by decide +kernel
theorem rk_bit (x : Int32) {j : Nat} (hj : j < 32) : (x &&& ((1 : Int32) <<< (nI j &&& 31))) = 0 ↔ bt x j = false := by
  rw [← Int32.toBitVec_inj, Int32.toBitVec_and, nf_sh j hj, BitVec.and_twoPow]
  show (if x.toBitVec.getLsbD j then BitVec.twoPow 32 j else 0#32) = 0#32 ↔ x.toBitVec.getLsbD j = false
  cases x.toBitVec.getLsbD j
  · simp
  · simp [nf_tp j hj]
theorem rk_bt1 : ∀ j, j < 32 → ∀ i, i < 32 → bt ((1 : Int32) <<< (nI j &&& 31)) i = decide (i = j) := by decide +kernel
theorem rk_and31 {k : Nat} (h : k < 2 ^ 31) : nI k &&& 31 = nI (k % 32) := pk_andN (by omega) 5 (by decide)
theorem rk_shr5 {k : Nat} (h : k < 2 ^ 31) : nI k >>> ((5 : Int32) &&& 31) = nI (k / 32) := pk_shrN h _ 5 (by decide)
theorem rk_shr10 {k : Nat} (h : k < 2 ^ 31) : nI k >>> ((10 : Int32) &&& 31) = nI (k / 1024) := pk_shrN h _ 10 (by decide)
theorem rk_word {k : Nat} (h : k < 32768) : nI (k / 32) &&& 1023 = nI (k / 32) := by
  rw [pk_andN (by omega) 10 (by decide), Nat.mod_eq_of_lt (by omega)]
/-- the words w hold the set S of codes -/
def rk_W (w : Nat → Int32) (S : Nat → Bool) : Prop := ∀ k, k < 32768 → bt (w (k / 32)) (k % 32) = S k
theorem rk_W_has {w : Nat → Int32} {S : Nat → Bool} (h : rk_W w S) {k : Nat} (hk : k < 32768) : (w (k / 32) &&& ((1 : Int32) <<< (nI (k % 32) &&& 31))) = 0 ↔ S k = false := by
  rw [rk_bit _ (Nat.mod_lt _ (by omega)), h k hk]
theorem rk_W_put {w : Nat → Int32} {S : Nat → Bool} (h : rk_W w S) {k : Nat} (hk : k < 32768) : rk_W (upd w (k / 32) (w (k / 32) ||| ((1 : Int32) <<< (nI (k % 32) &&& 31)))) (va_up S k true) := by
  intro j hj
  by_cases e : j / 32 = k / 32
  · rw [e, pk_us, b_or, rk_bt1 _ (Nat.mod_lt _ (by omega)) _ (Nat.mod_lt _ (by omega)), ← e, h j hj]
    by_cases e2 : j = k
    · subst e2
      rw [va_up_self]
      simp
    · rw [va_up_ne _ _ e2, decide_eq_false (by omega), Bool.or_false]
  · rw [pk_un e, h j hj, va_up_ne _ _ (fun z => e (by rw [z]))]
theorem rk_W_drop {w : Nat → Int32} {S : Nat → Bool} (h : rk_W w S) {k : Nat} (hk : k < 32768) : rk_W (upd w (k / 32) (w (k / 32) &&& (((1 : Int32) <<< (nI (k % 32) &&& 31)) ^^^ (-1)))) (va_up S k false) := by
  intro j hj
  by_cases e : j / 32 = k / 32
  · rw [e, pk_us, b_and, b_xor, b_m1 _ (Nat.mod_lt _ (by omega)), rk_bt1 _ (Nat.mod_lt _ (by omega)) _ (Nat.mod_lt _ (by omega)), ← e, h j hj]
    by_cases e2 : j = k
    · subst e2
      rw [va_up_self]
      simp
    · rw [va_up_ne _ _ e2, decide_eq_false (by omega)]
      simp
  · rw [pk_un e, h j hj, va_up_ne _ _ (fun z => e (by rw [z]))]
theorem rk_W_0 : rk_W (fun _ => 0) (fun _ => false) := fun k _ => b_0 _
/-! codes -/
def rk_pk (a b c : Nat) : Nat := 32 * (32 * a + b) + c
theorem rk_and5 {a b c d : Nat} (hb : b < 32) (hd : d < 32) : (32 * a + b) &&& (32 * c + d) = 32 * (a &&& c) + (b &&& d) := by
  have hbd : b &&& d < 2 ^ 5 := Nat.and_lt_two_pow b (show d < 2 ^ 5 from hd)
  apply Nat.eq_of_testBit_eq
  intro i
  rw [Nat.testBit_and, show 32 * a + b = 2 ^ 5 * a + b from rfl, show 32 * c + d = 2 ^ 5 * c + d from rfl, show 32 * (a &&& c) + (b &&& d) = 2 ^ 5 * (a &&& c) + (b &&& d) from rfl, Nat.testBit_two_pow_mul_add a (show b < 2 ^ 5 from hb), Nat.testBit_two_pow_mul_add c (show d < 2 ^ 5 from hd), Nat.testBit_two_pow_mul_add _ hbd]
  split <;> simp
theorem rk_or5 {a b c d : Nat} (hb : b < 32) (hd : d < 32) : (32 * a + b) ||| (32 * c + d) = 32 * (a ||| c) + (b ||| d) := by
  have hbd : b ||| d < 2 ^ 5 := Nat.or_lt_two_pow (show b < 2 ^ 5 from hb) (show d < 2 ^ 5 from hd)
  apply Nat.eq_of_testBit_eq
  intro i
  rw [Nat.testBit_or, show 32 * a + b = 2 ^ 5 * a + b from rfl, show 32 * c + d = 2 ^ 5 * c + d from rfl, show 32 * (a ||| c) + (b ||| d) = 2 ^ 5 * (a ||| c) + (b ||| d) from rfl, Nat.testBit_two_pow_mul_add a (show b < 2 ^ 5 from hb), Nat.testBit_two_pow_mul_add c (show d < 2 ^ 5 from hd), Nat.testBit_two_pow_mul_add _ hbd]
  split <;> simp
theorem rk_and3 {a b c d e f : Nat} (hb : b < 32) (hc : c < 32) (he : e < 32) (hf : f < 32) : rk_pk a b c &&& rk_pk d e f = rk_pk (a &&& d) (b &&& e) (c &&& f) := by
  unfold rk_pk
  rw [rk_and5 hc hf, rk_and5 hb he]
theorem rk_or3 {a b c d e f : Nat} (hb : b < 32) (hc : c < 32) (he : e < 32) (hf : f < 32) : rk_pk a b c ||| rk_pk d e f = rk_pk (a ||| d) (b ||| e) (c ||| f) := by
  unfold rk_pk
  rw [rk_or5 hc hf, rk_or5 hb he]
theorem rk_pk_inj {a b c d e f : Nat} (hb : b < 32) (hc : c < 32) (he : e < 32) (hf : f < 32) : rk_pk a b c = rk_pk d e f ↔ a = d ∧ b = e ∧ c = f := by
  unfold rk_pk
  omega
theorem rk_pk_lt {a b c : Nat} (ha : a < 32) (hb : b < 32) (hc : c < 32) : rk_pk a b c < 32768 := by
  unfold rk_pk
  omega
theorem rk_pk_0 {a b c : Nat} (hb : b < 32) (hc : c < 32) : rk_pk a b c / 1024 = a := by
  unfold rk_pk
  omega
theorem rk_pk_1 {a b c : Nat} (hb : b < 32) (hc : c < 32) : rk_pk a b c / 32 % 32 = b := by
  unfold rk_pk
  omega
theorem rk_pk_2 {a b c : Nat} (hc : c < 32) : rk_pk a b c % 32 = c := by
  unfold rk_pk
  omega
theorem rk_pk_of (k : Nat) : rk_pk (k / 1024) (k / 32 % 32) (k % 32) = k := by
  unfold rk_pk
  omega
end
section
/-! items and patterns: a number is itself (below 32), the variable -1 - x is 32 + x (x below 8) -/
def rk_iv (i : Nat) : Int32 := if i < 32 then nI i else nI 31 - nI i
theorem rk_item {x : Int32} (h1 : ¬ x < -8) (h2 : x < 32) : ∃ i, i < 40 ∧ x = rk_iv i := by
  have e1 : ¬ x.toInt < -8 := fun h => h1 (Int32.lt_iff_toInt_lt.mpr (by simpa using h))
  have e2 : x.toInt < 32 := by simpa using Int32.lt_iff_toInt_lt.mp h2
  by_cases h : x.toInt < 0
  · refine ⟨(31 - x.toInt).toNat, by omega, Int32.toInt_inj.mp ?_⟩
    unfold rk_iv
    rw [if_neg (by omega), pk_sub_toInt (by omega) (by omega)]
    omega
  · refine ⟨x.toInt.toNat, by omega, Int32.toInt_inj.mp ?_⟩
    unfold rk_iv
    rw [if_pos (by omega), nI_toInt (by omega)]
    omega
theorem rk_iv_lo : ∀ i, i < 40 → (rk_iv i < 0 ↔ 32 ≤ i) := by decide +kernel
theorem rk_iv_ok : ∀ i, i < 40 → ¬ rk_iv i < -8 ∧ rk_iv i < 32 := by decide +kernel
theorem rk_iv_inj : ∀ i, i < 40 → ∀ j, j < 40 → (rk_iv i = rk_iv j ↔ i = j) := by decide +kernel
theorem rk_iv_num : ∀ i, i < 32 → rk_iv i = nI i := by decide +kernel
theorem rk_iv_slot : ∀ i, i < 40 → 32 ≤ i → ((-1) - rk_iv i) &&& 7 = nI (i - 32) := by decide +kernel
theorem rk_iv_bit : ∀ x, x < 8 → (1 : Int32) <<< (nI x &&& 31) = nI (2 ^ x) := by decide +kernel
abbrev rk_Pt : Type := Nat × Nat × Nat
def rk_at (P : rk_Pt) (j : Nat) : Nat := match j with
  | 0 => P.1
  | 1 => P.2.1
  | _ => P.2.2
def rk_okP (P : rk_Pt) : Prop := ∀ j, j < 3 → rk_at P j < 40
theorem rk_j3 {p : Nat → Prop} (h0 : p 0) (h1 : p 1) (h2 : p 2) : ∀ j, j < 3 → p j := by
  intro j hj
  rcases (show j = 0 ∨ j = 1 ∨ j = 2 by omega) with rfl | rfl | rfl
  · exact h0
  · exact h1
  · exact h2
/-! masks over the three places of a code -/
def rk_m (f : Nat → Bool) : Nat := rk_pk (if f 0 then 31 else 0) (if f 1 then 31 else 0) (if f 2 then 31 else 0)
def rk_v (f : Nat → Bool) (w : Nat → Nat) : Nat := rk_pk (if f 0 then w 0 else 0) (if f 1 then w 1 else 0) (if f 2 then w 2 else 0)
def rk_dg (k j : Nat) : Nat := k / 2 ^ (10 - 5 * j) % 32
theorem rk_dg_lt (k j : Nat) : rk_dg k j < 32 := Nat.mod_lt _ (by omega)
theorem rk_dg0 {k : Nat} (h : k < 32768) : rk_dg k 0 = k / 1024 := by
  unfold rk_dg
  rw [show 2 ^ (10 - 5 * 0) = 1024 from rfl]
  omega
theorem rk_dg1 (k : Nat) : rk_dg k 1 = k / 32 % 32 := rfl
theorem rk_dg2 (k : Nat) : rk_dg k 2 = k % 32 := by
  unfold rk_dg
  rw [show 2 ^ (10 - 5 * 2) = 1 from rfl, Nat.div_one]
theorem rk_and_31 {x : Nat} (h : x < 32) : x &&& 31 = x := by
  rw [show (31 : Nat) = 2 ^ 5 - 1 from rfl, Nat.and_two_pow_sub_one_eq_mod]
  exact Nat.mod_eq_of_lt h
theorem rk_ite_lt {b : Bool} {x : Nat} (h : x < 32) : (if b then x else 0) < 32 := by
  cases b <;> simp [h]
theorem rk_and_ite (b : Bool) {x : Nat} (h : x < 32) : x &&& (if b then 31 else 0) = if b then x else 0 := by
  cases b
  · simp
  · simpa using rk_and_31 h
/-- what a mask leaves of a code -/
theorem rk_mask (f : Nat → Bool) {k : Nat} (hk : k < 32768) : k &&& rk_m f = rk_v f (rk_dg k) := by
  have h0 : k / 1024 < 32 := by omega
  have h1 : k / 32 % 32 < 32 := by omega
  have h2 : k % 32 < 32 := by omega
  have e : k &&& rk_m f = rk_pk (k / 1024) (k / 32 % 32) (k % 32) &&& rk_m f := by rw [rk_pk_of]
  rw [e]
  unfold rk_m rk_v
  rw [rk_and3 h1 h2 (rk_ite_lt (by omega)) (rk_ite_lt (by omega)), rk_and_ite _ h0, rk_and_ite _ h1, rk_and_ite _ h2, rk_dg0 hk, rk_dg1, rk_dg2]
theorem rk_v_eq {f : Nat → Bool} {w u : Nat → Nat} (hw : ∀ j, j < 3 → w j < 32) (hu : ∀ j, j < 3 → u j < 32) : rk_v f w = rk_v f u ↔ ∀ j, j < 3 → f j = true → w j = u j := by
  unfold rk_v
  rw [rk_pk_inj (rk_ite_lt (hw 1 (by omega))) (rk_ite_lt (hw 2 (by omega))) (rk_ite_lt (hu 1 (by omega))) (rk_ite_lt (hu 2 (by omega)))]
  constructor
  · rintro ⟨a, b, d⟩
    refine rk_j3 (fun h => ?_) (fun h => ?_) (fun h => ?_)
    · simpa [h] using a
    · simpa [h] using b
    · simpa [h] using d
  · intro h
    refine ⟨?_, ?_, ?_⟩
    · cases e : f 0
      · simp
      · simpa using h 0 (by omega) e
    · cases e : f 1
      · simp
      · simpa using h 1 (by omega) e
    · cases e : f 2
      · simp
      · simpa using h 2 (by omega) e
theorem rk_sel {f : Nat → Bool} {w : Nat → Nat} {k : Nat} (hk : k < 32768) (hw : ∀ j, j < 3 → w j < 32) : k &&& rk_m f = rk_v f w ↔ ∀ j, j < 3 → f j = true → rk_dg k j = w j := by
  rw [rk_mask f hk, rk_v_eq (fun j _ => rk_dg_lt k j) hw]
theorem rk_m_lt (f : Nat → Bool) : rk_m f < 32768 := rk_pk_lt (rk_ite_lt (by omega)) (rk_ite_lt (by omega)) (rk_ite_lt (by omega))
theorem rk_v_lt {f : Nat → Bool} {w : Nat → Nat} (hw : ∀ j, j < 3 → w j < 32) : rk_v f w < 32768 := rk_pk_lt (rk_ite_lt (hw 0 (by omega))) (rk_ite_lt (hw 1 (by omega))) (rk_ite_lt (hw 2 (by omega)))
theorem rk_ite_or (a b : Bool) : (if a then (31 : Nat) else 0) ||| (if b then 31 else 0) = if (a || b) then 31 else 0 := by
  cases a <;> cases b <;> rfl
theorem rk_m_or (f g : Nat → Bool) : rk_m f ||| rk_m g = rk_m (fun j => f j || g j) := by
  unfold rk_m
  rw [rk_or3 (rk_ite_lt (by omega)) (rk_ite_lt (by omega)) (rk_ite_lt (by omega)) (rk_ite_lt (by omega)), rk_ite_or, rk_ite_or, rk_ite_or]
theorem rk_v_or {f g : Nat → Bool} {w u : Nat → Nat} (hw : ∀ j, j < 3 → w j < 32) (hu : ∀ j, j < 3 → u j < 32) (hd : ∀ j, j < 3 → (f j && g j) = false) : rk_v f w ||| rk_v g u = rk_v (fun j => f j || g j) (fun j => if f j then w j else u j) := by
  have key : ∀ j, j < 3 → (if f j then w j else 0) ||| (if g j then u j else 0) = if (f j || g j) then (if f j then w j else u j) else 0 := by
    intro j hj
    have := hd j hj
    revert this
    cases f j <;> cases g j <;> simp
  unfold rk_v
  rw [rk_or3 (rk_ite_lt (hw 1 (by omega))) (rk_ite_lt (hw 2 (by omega))) (rk_ite_lt (hu 1 (by omega))) (rk_ite_lt (hu 2 (by omega))), key 0 (by omega), key 1 (by omega), key 2 (by omega)]
/-- a loop over the places, as far as place n -/
def rk_upto (f : Nat → Bool) (n : Nat) (j : Nat) : Bool := f j && decide (j < n)
theorem rk_m_0 (f : Nat → Bool) : rk_m (rk_upto f 0) = 0 := by simp [rk_m, rk_upto, rk_pk]
theorem rk_v_0 (f : Nat → Bool) (w : Nat → Nat) : rk_v (rk_upto f 0) w = 0 := by simp [rk_v, rk_upto, rk_pk]
theorem rk_m_3 (f : Nat → Bool) : rk_m (rk_upto f 3) = rk_m f := by simp [rk_m, rk_upto]
theorem rk_v_3 (f : Nat → Bool) (w : Nat → Nat) : rk_v (rk_upto f 3) w = rk_v f w := by simp [rk_v, rk_upto]
theorem rk_pos {j : Nat} (hj : j < 3) {x : Nat} : x * 2 ^ (10 - 5 * j) = rk_v (fun i => decide (i = j)) (fun _ => x) := by
  rcases (show j = 0 ∨ j = 1 ∨ j = 2 by omega) with rfl | rfl | rfl
  · simp [rk_v, rk_pk]; omega
  · simp [rk_v, rk_pk]; omega
  · simp [rk_v, rk_pk]
theorem rk_m_step {f : Nat → Bool} {j : Nat} (hj : j < 3) (h : f j = true) : rk_m (rk_upto f j) ||| 31 * 2 ^ (10 - 5 * j) = rk_m (rk_upto f (j + 1)) := by
  have e : 31 * 2 ^ (10 - 5 * j) = rk_m (fun i => decide (i = j)) := rk_pos hj
  rw [e, rk_m_or]
  congr 1
  funext i
  by_cases hi : i = j
  · subst hi
    simp [rk_upto, h]
  · simp only [rk_upto, hi, decide_false, Bool.or_false]
    congr 1
    exact decide_eq_decide.mpr (by omega)
theorem rk_m_skip {f : Nat → Bool} {j : Nat} (h : f j = false) : rk_m (rk_upto f (j + 1)) = rk_m (rk_upto f j) := by
  congr 1
  funext i
  by_cases hi : i = j
  · subst hi
    simp [rk_upto, h]
  · simp only [rk_upto]
    congr 1
    exact decide_eq_decide.mpr (by omega)
theorem rk_v_step {f : Nat → Bool} {w : Nat → Nat} {j : Nat} (hw : ∀ j, j < 3 → f j = true → w j < 32) (hj : j < 3) (h : f j = true) : rk_v (rk_upto f j) w ||| w j * 2 ^ (10 - 5 * j) = rk_v (rk_upto f (j + 1)) w := by
  have hlt : w j < 32 := hw j hj h
  have e0 : rk_v (rk_upto f j) w = rk_v (rk_upto f j) (fun i => if f i then w i else 0) := by
    unfold rk_v rk_upto
    cases g0 : f 0 <;> cases g1 : f 1 <;> cases g2 : f 2 <;> simp [g0, g1, g2]
  rw [rk_pos hj, e0, rk_v_or (fun i hi => by cases e : f i <;> simp [hw i hi, e]) (fun _ _ => hlt) (fun i _ => by
    by_cases hi : i = j
    · subst hi; simp [rk_upto]
    · simp [hi])]
  rcases (show j = 0 ∨ j = 1 ∨ j = 2 by omega) with rfl | rfl | rfl
  · simp [rk_v, rk_upto, h]
  · cases g0 : f 0 <;> simp [rk_v, rk_upto, h, g0]
  · cases g0 : f 0 <;> cases g1 : f 1 <;> simp [rk_v, rk_upto, h, g0, g1]
theorem rk_v_skip {f : Nat → Bool} {w : Nat → Nat} {j : Nat} (h : f j = false) : rk_v (rk_upto f (j + 1)) w = rk_v (rk_upto f j) w := by
  congr 1
  funext i
  by_cases hi : i = j
  · subst hi
    simp [rk_upto, h]
  · simp only [rk_upto]
    congr 1
    exact decide_eq_decide.mpr (by omega)
/-- the shifts, and a number shifted to a place -/
def rk_shift (j : Nat) : Int32 := nI (10 - 5 * j)
theorem rk_shl {j x : Nat} (hj : j < 3) (hx : x < 32) : nI x <<< (rk_shift j &&& 31) = nI (x * 2 ^ (10 - 5 * j)) := by
  rcases (show j = 0 ∨ j = 1 ∨ j = 2 by omega) with rfl | rfl | rfl
  · exact pk_shlN _ 10 (by decide) (by omega)
  · exact pk_shlN _ 5 (by decide) (by omega)
  · exact pk_shlN _ 0 (by decide) (by omega)
theorem rk_shr {j k : Nat} (hj : j < 3) (hk : k < 32768) : nI k >>> (rk_shift j &&& 31) = nI (k / 2 ^ (10 - 5 * j)) := by
  rcases (show j = 0 ∨ j = 1 ∨ j = 2 by omega) with rfl | rfl | rfl
  · exact pk_shrN (by omega) _ 10 (by decide)
  · exact pk_shrN (by omega) _ 5 (by decide)
  · exact pk_shrN (by omega) _ 0 (by decide)
end
section
/-! what a pattern becomes under an assignment v of the variables; which codes it can become -/
def rk_val (i : Nat) (v : Nat → Nat) : Nat := if i < 32 then i else v (i - 32)
def rk_inst (P : rk_Pt) (v : Nat → Nat) : Nat := rk_pk (rk_val P.1 v) (rk_val P.2.1 v) (rk_val P.2.2 v)
def rk_okV (v : Nat → Nat) : Prop := ∀ x, v x < 32
theorem rk_val_lt {i : Nat} {v : Nat → Nat} (hv : rk_okV v) : rk_val i v < 32 := by
  unfold rk_val
  split
  · assumption
  · exact hv _
theorem rk_inst_lt {P : rk_Pt} {v : Nat → Nat} (hv : rk_okV v) : rk_inst P v < 32768 := rk_pk_lt (rk_val_lt hv) (rk_val_lt hv) (rk_val_lt hv)
theorem rk_inst_dg {P : rk_Pt} {v : Nat → Nat} (hv : rk_okV v) : ∀ j, j < 3 → rk_dg (rk_inst P v) j = rk_val (rk_at P j) v := by
  refine rk_j3 ?_ ?_ ?_
  · rw [rk_dg0 (rk_inst_lt hv)]
    exact rk_pk_0 (rk_val_lt hv) (rk_val_lt hv)
  · exact rk_pk_1 (rk_val_lt hv) (rk_val_lt hv)
  · rw [rk_dg2]
    exact rk_pk_2 (rk_val_lt hv)
theorem rk_code {k : Nat} (hk : k < 32768) : k = rk_pk (rk_dg k 0) (rk_dg k 1) (rk_dg k 2) := by
  rw [rk_dg0 hk, rk_dg1, rk_dg2, rk_pk_of]
theorem rk_is_inst {P : rk_Pt} {v : Nat → Nat} {k : Nat} (hv : rk_okV v) (hk : k < 32768) : k = rk_inst P v ↔ ∀ j, j < 3 → rk_dg k j = rk_val (rk_at P j) v := by
  constructor
  · intro h
    rw [h]
    exact rk_inst_dg hv
  · intro h
    rw [rk_code hk, h 0 (by omega), h 1 (by omega), h 2 (by omega)]
    rfl
/-- x is a variable of P -/
def rk_in (P : rk_Pt) (x : Nat) : Prop := ∃ j, j < 3 ∧ rk_at P j = 32 + x
theorem rk_inst_congr {P : rk_Pt} {v w : Nat → Nat} (h : ∀ x, rk_in P x → v x = w x) : rk_inst P v = rk_inst P w := by
  have key : ∀ j, j < 3 → rk_val (rk_at P j) v = rk_val (rk_at P j) w := by
    intro j hj
    unfold rk_val
    split
    · rfl
    · exact h _ ⟨j, hj, by omega⟩
  unfold rk_inst
  rw [show rk_val P.1 v = rk_val P.1 w from key 0 (by omega), show rk_val P.2.1 v = rk_val P.2.1 w from key 1 (by omega), show rk_val P.2.2 v = rk_val P.2.2 w from key 2 (by omega)]
/-- two assignments that make the same code of P agree on its variables -/
theorem rk_inst_inj {P : rk_Pt} {v w : Nat → Nat} (hv : rk_okV v) (hw : rk_okV w) (h : rk_inst P v = rk_inst P w) {x : Nat} (hx : rk_in P x) : v x = w x := by
  obtain ⟨j, hj, e⟩ := hx
  have h1 := rk_inst_dg (P := P) hv j hj
  have h2 := rk_inst_dg (P := P) hw j hj
  rw [h, h2, e] at h1
  unfold rk_val at h1
  rw [if_neg (by omega), if_neg (by omega), Nat.add_sub_cancel_left] at h1
  exact h1.symm
/-- the code k fits P where the variables in B have the values u -/
def rk_mt (P : rk_Pt) (B : Nat → Bool) (u : Nat → Nat) (k : Nat) : Prop :=
  (∀ j, j < 3 → rk_at P j < 32 → rk_dg k j = rk_at P j) ∧ (∀ j, j < 3 → 32 ≤ rk_at P j → B (rk_at P j - 32) = true → rk_dg k j = u (rk_at P j - 32)) ∧ ∀ i j, i < 3 → j < 3 → rk_at P i = rk_at P j → rk_dg k i = rk_dg k j
theorem rk_mt_iff {P : rk_Pt} {B : Nat → Bool} {u : Nat → Nat} {k : Nat} (hk : k < 32768) (hu : ∀ x, B x = true → u x < 32) : rk_mt P B u k ↔ ∃ v, rk_okV v ∧ (∀ x, B x = true → v x = u x) ∧ rk_inst P v = k := by
  constructor
  · rintro ⟨h1, h2, h3⟩
    refine ⟨fun x => if B x then u x else if rk_at P 0 = 32 + x then rk_dg k 0 else if rk_at P 1 = 32 + x then rk_dg k 1 else if rk_at P 2 = 32 + x then rk_dg k 2 else 0, ?_, ?_, ?_⟩
    · intro x
      dsimp only
      split
      · exact hu x (by assumption)
      · split
        · exact rk_dg_lt _ _
        · split
          · exact rk_dg_lt _ _
          · split
            · exact rk_dg_lt _ _
            · omega
    · intro x hx
      simp [hx]
    · symm
      have hv : rk_okV (fun x => if B x then u x else if rk_at P 0 = 32 + x then rk_dg k 0 else if rk_at P 1 = 32 + x then rk_dg k 1 else if rk_at P 2 = 32 + x then rk_dg k 2 else 0) := by
        intro x
        dsimp only
        split
        · exact hu x (by assumption)
        · split
          · exact rk_dg_lt _ _
          · split
            · exact rk_dg_lt _ _
            · split
              · exact rk_dg_lt _ _
              · omega
      rw [rk_is_inst hv hk]
      intro j hj
      unfold rk_val
      by_cases hn : rk_at P j < 32
      · rw [if_pos hn]
        exact h1 j hj hn
      · rw [if_neg hn]
        have e : 32 + (rk_at P j - 32) = rk_at P j := by omega
        dsimp only
        rw [e]
        by_cases hB : B (rk_at P j - 32) = true
        · rw [if_pos hB]
          exact h2 j hj (by omega) hB
        · rw [if_neg hB]
          by_cases c0 : rk_at P 0 = rk_at P j
          · rw [if_pos c0]
            exact h3 j 0 hj (by omega) c0.symm
          · rw [if_neg c0]
            by_cases c1 : rk_at P 1 = rk_at P j
            · rw [if_pos c1]
              exact h3 j 1 hj (by omega) c1.symm
            · rw [if_neg c1]
              by_cases c2 : rk_at P 2 = rk_at P j
              · rw [if_pos c2]
                exact h3 j 2 hj (by omega) c2.symm
              · exfalso
                rcases (show j = 0 ∨ j = 1 ∨ j = 2 by omega) with rfl | rfl | rfl
                · exact c0 rfl
                · exact c1 rfl
                · exact c2 rfl
  · rintro ⟨v, hv, hB, rfl⟩
    refine ⟨fun j hj hn => ?_, fun j hj hn hb => ?_, fun i j hi hj e => ?_⟩
    · rw [rk_inst_dg hv j hj]
      unfold rk_val
      rw [if_pos hn]
    · rw [rk_inst_dg hv j hj, ← hB _ hb]
      unfold rk_val
      rw [if_neg (by omega)]
    · rw [rk_inst_dg hv i hi, rk_inst_dg hv j hj, e]
end
section
/-! rules, and the least set that holds what was said and what follows -/
abbrev rk_Ru : Type := List rk_Pt × rk_Pt
/-- the case v of the rule r lies in X -/
def rk_case (r : rk_Ru) (X : Nat → Prop) (v : Nat → Nat) : Prop := rk_okV v ∧ ∀ P, P ∈ r.1 → X (rk_inst P v)
def rk_closed (rs : List rk_Ru) (X : Nat → Prop) : Prop := ∀ r, r ∈ rs → ∀ v, rk_case r X v → X (rk_inst r.2 v)
def rk_lfp (said : Nat → Bool) (rs : List rk_Ru) (k : Nat) : Prop := ∀ X : Nat → Prop, (∀ j, said j = true → X j) → rk_closed rs X → X k
theorem rk_lfp_said {said : Nat → Bool} {rs : List rk_Ru} {k : Nat} (h : said k = true) : rk_lfp said rs k := fun _ h1 _ => h1 k h
theorem rk_lfp_closed {said : Nat → Bool} {rs : List rk_Ru} : rk_closed rs (rk_lfp said rs) := fun r hr v hc X h1 h2 => h2 r hr v ⟨hc.1, fun P hP => hc.2 P hP X h1 h2⟩
theorem rk_closed_sub {rs rs' : List rk_Ru} {X : Nat → Prop} (h : ∀ r, r ∈ rs → r ∈ rs') (hX : rk_closed rs' X) : rk_closed rs X := fun r hr => hX r (h r hr)
theorem rk_lfp_mono {said said' : Nat → Bool} {rs rs' : List rk_Ru} {k : Nat} (h1 : ∀ j, said j = true → said' j = true) (h2 : ∀ r, r ∈ rs → r ∈ rs') (h : rk_lfp said rs k) : rk_lfp said' rs' k :=
  fun X g1 g2 => h X (fun j hj => g1 j (h1 j hj)) (rk_closed_sub h2 g2)
theorem rk_lfp_lt {said : Nat → Bool} {rs : List rk_Ru} {k : Nat} (hs : ∀ j, said j = true → j < 32768) (h : rk_lfp said rs k) : k < 32768 :=
  h (fun j => j < 32768) hs (fun _ _ _ hc => rk_inst_lt hc.1)
/-- the row L is what holds -/
def rk_holds (said : Nat → Bool) (rs : List rk_Ru) (L : List Nat) : Prop := L.Nodup ∧ L.length ≤ 300 ∧ ∀ k, k ∈ L ↔ rk_lfp said rs k
/-- more than 300 would hold -/
def rk_much (said : Nat → Bool) (rs : List rk_Ru) : Prop := ∃ L : List Nat, L.Nodup ∧ 300 < L.length ∧ ∀ k, k ∈ L → rk_lfp said rs k
theorem rk_nodup_le : ∀ {L K : List Nat}, L.Nodup → (∀ k, k ∈ L → k ∈ K) → L.length ≤ K.length
  | [], K, _, _ => Nat.zero_le _
  | a :: L, K, hn, hs => by
    have ha : a ∈ K := hs a List.mem_cons_self
    have h1 := List.length_erase_of_mem ha
    have h2 : 0 < K.length := List.length_pos_of_mem ha
    have ih := rk_nodup_le (L := L) (K := K.erase a) (List.nodup_cons.mp hn).2 (fun k hk => (List.mem_erase_of_ne (fun e => (List.nodup_cons.mp hn).1 (by rw [← e]; exact hk))).mpr (hs k (List.mem_cons_of_mem _ hk)))
    simp only [List.length_cons]
    omega
theorem rk_not_much {said : Nat → Bool} {rs : List rk_Ru} {L : List Nat} (h : rk_holds said rs L) : ¬ rk_much said rs := by
  rintro ⟨K, h1, h2, h3⟩
  have := rk_nodup_le (L := K) (K := L) h1 (fun k hk => (h.2.2 k).mpr (h3 k hk))
  have := h.2.1
  omega
/-- two rows without repeats and with the same members are the same but for the order -/
theorem rk_perm : ∀ {L K : List Nat}, L.Nodup → K.Nodup → (∀ k, k ∈ L ↔ k ∈ K) → List.Perm L K
  | [], K, _, _, h => by
    cases K with
    | nil => exact List.Perm.refl _
    | cons b K => exact absurd ((h b).mpr List.mem_cons_self) List.not_mem_nil
  | a :: L, K, hL, hK, h => by
    have ha : a ∈ K := (h a).mp List.mem_cons_self
    have ih := rk_perm (L := L) (K := K.erase a) (List.nodup_cons.mp hL).2 (hK.erase a) (fun k => by
      by_cases e : k = a
      · subst e
        exact ⟨fun z => absurd z (List.nodup_cons.mp hL).1, fun z => absurd z (fun z => (hK.mem_erase_iff.mp z).1 rfl)⟩
      · rw [List.mem_erase_of_ne e, ← h k, List.mem_cons]
        simp [e])
    exact (List.Perm.cons a ih).trans (List.perm_cons_erase ha).symm
theorem rk_holds_perm {said : Nat → Bool} {rs : List rk_Ru} {L K : List Nat} (hL : rk_holds said rs L) (hK : rk_holds said rs K) : List.Perm L K :=
  rk_perm hL.1 hK.1 (fun k => (hL.2.2 k).trans (hK.2.2 k).symm)
end
section
/-! how many rows of triples, one for each pattern, some assignment makes -/
noncomputable def rk_if (p : Prop) (a : Nat) : Nat := @ite Nat p (Classical.propDecidable p) a 0
theorem rk_if_t {p : Prop} {a : Nat} (h : p) : rk_if p a = a := if_pos h
theorem rk_if_f {p : Prop} {a : Nat} (h : ¬ p) : rk_if p a = 0 := if_neg h
theorem rk_if_congr {p q : Prop} {a b : Nat} (h : p ↔ q) (e : p → a = b) : rk_if p a = rk_if q b := by
  by_cases hp : p
  · rw [rk_if_t hp, rk_if_t (h.mp hp), e hp]
  · rw [rk_if_f hp, rk_if_f (fun z => hp (h.mpr z))]
def rk_sum (L : List Nat) (g : Nat → Nat) : Nat := (L.map g).sum
theorem rk_sum_nil (g : Nat → Nat) : rk_sum [] g = 0 := rfl
theorem rk_sum_cons (a : Nat) (L : List Nat) (g : Nat → Nat) : rk_sum (a :: L) g = g a + rk_sum L g := by simp [rk_sum]
theorem rk_sum_app (L K : List Nat) (g : Nat → Nat) : rk_sum (L ++ K) g = rk_sum L g + rk_sum K g := by simp [rk_sum]
theorem rk_sum_congr : ∀ {L : List Nat} {g h : Nat → Nat}, (∀ k, k ∈ L → g k = h k) → rk_sum L g = rk_sum L h
  | [], _, _, _ => rfl
  | a :: L, g, h, e => by rw [rk_sum_cons, rk_sum_cons, e a List.mem_cons_self, rk_sum_congr (L := L) (fun k hk => e k (List.mem_cons_of_mem _ hk))]
theorem rk_sum_0 : ∀ {L : List Nat} {g : Nat → Nat}, (∀ k, k ∈ L → g k = 0) → rk_sum L g = 0
  | [], _, _ => rfl
  | a :: L, g, e => by rw [rk_sum_cons, e a List.mem_cons_self, rk_sum_0 (L := L) (fun k hk => e k (List.mem_cons_of_mem _ hk))]
theorem rk_sum_perm {L K : List Nat} (h : List.Perm L K) (g : Nat → Nat) : rk_sum L g = rk_sum K g := by
  induction h with
  | nil => rfl
  | cons x _ ih => rw [rk_sum_cons, rk_sum_cons, ih]
  | swap x y l => rw [rk_sum_cons, rk_sum_cons, rk_sum_cons, rk_sum_cons]; omega
  | trans _ _ h1 h2 => rw [h1, h2]
noncomputable def rk_tup (L : List Nat) : List rk_Pt → ((Nat → Nat) → Prop) → Nat
  | [], F => rk_if (∃ v, rk_okV v ∧ F v) 1
  | P :: Ps, F => rk_sum L (fun k => rk_tup L Ps (fun v => F v ∧ rk_inst P v = k))
theorem rk_tup_none {L : List Nat} : ∀ {Ps : List rk_Pt} {F : (Nat → Nat) → Prop}, (∀ v, rk_okV v → ¬ F v) → rk_tup L Ps F = 0
  | [], F, h => rk_if_f (fun ⟨v, h1, h2⟩ => h v h1 h2)
  | P :: Ps, F, h => rk_sum_0 (fun k _ => rk_tup_none (fun v h1 h2 => h v h1 h2.1))
theorem rk_tup_congr {L : List Nat} : ∀ {Ps : List rk_Pt} {F G : (Nat → Nat) → Prop},
    (∀ v, rk_okV v → F v → ∃ w, rk_okV w ∧ G w ∧ ∀ P, P ∈ Ps → ∀ x, rk_in P x → v x = w x) → (∀ v, rk_okV v → G v → ∃ w, rk_okV w ∧ F w ∧ ∀ P, P ∈ Ps → ∀ x, rk_in P x → v x = w x) → rk_tup L Ps F = rk_tup L Ps G
  | [], F, G, h1, h2 => rk_if_congr ⟨fun ⟨v, a, b⟩ => let ⟨w, c, d, _⟩ := h1 v a b; ⟨w, c, d⟩, fun ⟨v, a, b⟩ => let ⟨w, c, d, _⟩ := h2 v a b; ⟨w, c, d⟩⟩ (fun _ => rfl)
  | P :: Ps, F, G, h1, h2 => by
    refine rk_sum_congr (fun k _ => rk_tup_congr (Ps := Ps) (fun v hv hF => ?_) (fun v hv hG => ?_))
    · obtain ⟨w, a, b, d⟩ := h1 v hv hF.1
      exact ⟨w, a, ⟨b, by rw [← hF.2]; exact (rk_inst_congr (fun x hx => d P List.mem_cons_self x hx)).symm⟩, fun Q hQ => d Q (List.mem_cons_of_mem _ hQ)⟩
    · obtain ⟨w, a, b, d⟩ := h2 v hv hG.1
      exact ⟨w, a, ⟨b, by rw [← hG.2]; exact (rk_inst_congr (fun x hx => d P List.mem_cons_self x hx)).symm⟩, fun Q hQ => d Q (List.mem_cons_of_mem _ hQ)⟩
theorem rk_tup_perm {L K : List Nat} (h : List.Perm L K) : ∀ (Ps : List rk_Pt) (F : (Nat → Nat) → Prop), rk_tup L Ps F = rk_tup K Ps F
  | [], F => rfl
  | P :: Ps, F => by
    show rk_sum L (fun k => rk_tup L Ps (fun v => F v ∧ rk_inst P v = k)) = rk_sum K (fun k => rk_tup K Ps (fun v => F v ∧ rk_inst P v = k))
    rw [rk_sum_perm h]
    exact rk_sum_congr (fun k _ => rk_tup_perm h Ps _)
/-- how many cases of the rule r give the code k -/
noncomputable def rk_sup (L : List Nat) (r : rk_Ru) (k : Nat) : Nat := rk_tup L r.1 (fun v => rk_inst r.2 v = k)
noncomputable def rk_support (L : List Nat) (rs : List rk_Ru) (k : Nat) : Nat := (rs.map (fun r => rk_sup L r k)).sum
theorem rk_support_perm {L K : List Nat} (h : List.Perm L K) (rs : List rk_Ru) (k : Nat) : rk_support L rs k = rk_support K rs k := by
  unfold rk_support rk_sup
  congr 2
  funext r
  exact rk_tup_perm h _ _
end
section
/-! columns: what fits one pattern of a body, cut down to the variables that matter; joining them -/
def rk_tb (S x : Nat) : Bool := S.testBit x
/-- place j of P has a variable of the set S -/
def rk_ink (P : rk_Pt) (S : Nat → Bool) (j : Nat) : Bool := decide (32 ≤ rk_at P j) && S (rk_at P j - 32)
def rk_part (P : rk_Pt) (K : Nat → Bool) (k : Nat) : Nat := rk_v (rk_ink P K) (rk_dg k)
theorem rk_v_dg {f : Nat → Bool} {w : Nat → Nat} (hw : ∀ j, j < 3 → w j < 32) : ∀ j, j < 3 → f j = true → rk_dg (rk_v f w) j = w j := by
  have hl : ∀ j, j < 3 → (if f j then w j else 0) < 32 := fun j hj => rk_ite_lt (hw j hj)
  refine rk_j3 (fun h => ?_) (fun h => ?_) (fun h => ?_)
  · rw [rk_dg0 (rk_v_lt hw)]
    unfold rk_v
    rw [rk_pk_0 (hl 1 (by omega)) (hl 2 (by omega)), if_pos h]
  · rw [rk_dg1]
    unfold rk_v
    rw [rk_pk_1 (hl 1 (by omega)) (hl 2 (by omega)), if_pos h]
  · rw [rk_dg2]
    unfold rk_v
    rw [rk_pk_2 (hl 2 (by omega)), if_pos h]
theorem rk_part_dg {P : rk_Pt} {K : Nat → Bool} {k j : Nat} (hj : j < 3) (h : rk_ink P K j = true) : rk_dg (rk_part P K k) j = rk_dg k j := rk_v_dg (fun j _ => rk_dg_lt k j) j hj h
theorem rk_part_lt (P : rk_Pt) (K : Nat → Bool) (k : Nat) : rk_part P K k < 32768 := rk_v_lt (fun j _ => rk_dg_lt k j)
/-- a part is one with what is known -/
def rk_cons (P : rk_Pt) (S : Nat → Bool) (u : Nat → Nat) (p : Nat) : Prop := ∀ j, j < 3 → rk_ink P S j = true → rk_dg p j = u (rk_at P j - 32)
/-- the variables of S get their numbers out of p -/
def rk_bindn (P : rk_Pt) (S : Nat → Bool) (p : Nat) (u : Nat → Nat) : Nat → Nat → Nat
  | 0 => u
  | n + 1 => if rk_ink P S n then va_up (rk_bindn P S p u n) (rk_at P n - 32) (rk_dg p n) else rk_bindn P S p u n
def rk_bind (P : rk_Pt) (S : Nat → Bool) (p : Nat) (u : Nat → Nat) : Nat → Nat := rk_bindn P S p u 3
theorem rk_bindn_off {P : rk_Pt} {S : Nat → Bool} {p : Nat} {u : Nat → Nat} {x : Nat} (hx : S x = false) : ∀ n, rk_bindn P S p u n x = u x
  | 0 => rfl
  | n + 1 => by
    show (if rk_ink P S n then va_up (rk_bindn P S p u n) (rk_at P n - 32) (rk_dg p n) else rk_bindn P S p u n) x = u x
    by_cases h : rk_ink P S n = true
    · rw [if_pos h, va_up_ne _ _ (fun e => by
        unfold rk_ink at h
        rw [← e, hx] at h
        simp at h), rk_bindn_off hx n]
    · rw [if_neg h, rk_bindn_off hx n]
theorem rk_bind_off {P : rk_Pt} {S : Nat → Bool} {p : Nat} {u : Nat → Nat} {x : Nat} (hx : S x = false) : rk_bind P S p u x = u x := rk_bindn_off hx 3
/-- equal items, equal numbers -/
def rk_agr (P : rk_Pt) (S : Nat → Bool) (p : Nat) : Prop := ∀ i, i < 3 → ∀ j, j < 3 → rk_ink P S i = true → rk_at P i = rk_at P j → rk_dg p i = rk_dg p j
theorem rk_bindn_at {P : rk_Pt} {S : Nat → Bool} {p : Nat} {u : Nat → Nat} (ha : rk_agr P S p) {j : Nat} (hj : rk_ink P S j = true) : ∀ n, n ≤ 3 → j < n → rk_bindn P S p u n (rk_at P j - 32) = rk_dg p j
  | 0, _, h => absurd h (Nat.not_lt_zero j)
  | n + 1, hn, h => by
    show (if rk_ink P S n then va_up (rk_bindn P S p u n) (rk_at P n - 32) (rk_dg p n) else rk_bindn P S p u n) (rk_at P j - 32) = rk_dg p j
    have hj32 : 32 ≤ rk_at P j := by
      unfold rk_ink at hj
      simp at hj
      exact hj.1
    by_cases hi : rk_ink P S n = true
    · have hn32 : 32 ≤ rk_at P n := by
        unfold rk_ink at hi
        simp at hi
        exact hi.1
      rw [if_pos hi]
      by_cases e : rk_at P j - 32 = rk_at P n - 32
      · rw [e, va_up_self]
        exact ha n (by omega) j (by omega) hi (by omega)
      · rw [va_up_ne _ _ e]
        have hne : j ≠ n := fun z => e (by rw [z])
        exact rk_bindn_at ha hj n (by omega) (by omega)
    · rw [if_neg hi]
      have hne : j ≠ n := fun z => hi (by rw [← z]; exact hj)
      exact rk_bindn_at ha hj n (by omega) (by omega)
theorem rk_bind_at {P : rk_Pt} {S : Nat → Bool} {p : Nat} {u : Nat → Nat} (ha : rk_agr P S p) {j : Nat} (h3 : j < 3) (hj : rk_ink P S j = true) : rk_bind P S p u (rk_at P j - 32) = rk_dg p j := rk_bindn_at ha hj 3 (Nat.le_refl 3) h3
theorem rk_bindn_ok {P : rk_Pt} {S : Nat → Bool} {p : Nat} {u : Nat → Nat} (hu : rk_okV u) : ∀ n, rk_okV (rk_bindn P S p u n)
  | 0 => hu
  | n + 1 => by
    intro x
    show (if rk_ink P S n then va_up (rk_bindn P S p u n) (rk_at P n - 32) (rk_dg p n) else rk_bindn P S p u n) x < 32
    split
    · unfold va_up
      split
      · exact rk_dg_lt _ _
      · exact rk_bindn_ok hu n x
    · exact rk_bindn_ok hu n x
/-- a column: its pattern, the variables that it keeps, how many parts, the parts, how often -/
abbrev rk_Col : Type := rk_Pt × (Nat → Bool) × Nat × (Nat → Nat) × (Nat → Nat)
def rk_iot (n : Nat) : List Nat := List.range n
/-- the column c holds what of L fits its pattern, where the variables in B0 have the values u0 -/
def rk_colok (L : List Nat) (B0 : Nat → Bool) (u0 : Nat → Nat) (c : rk_Col) : Prop :=
  (∀ g : Nat → Nat, rk_sum (List.range c.2.2.1) (fun i => c.2.2.2.2 i * g (c.2.2.2.1 i)) = rk_sum L (fun k => rk_if (rk_mt c.1 B0 u0 k) (g (rk_part c.1 c.2.1 k)))) ∧ (∀ i, i < c.2.2.1 → 0 < c.2.2.2.2 i) ∧ ∀ x, c.2.1 x = true → rk_in c.1 x
noncomputable def rk_cj : List rk_Col → (Nat → Bool) → (Nat → Nat) → Nat
  | [], _, _ => 1
  | c :: cs, B, u => rk_sum (List.range c.2.2.1) (fun i => c.2.2.2.2 i * rk_if (rk_cons c.1 (fun x => c.2.1 x && B x) u (c.2.2.2.1 i)) (rk_cj cs (fun x => B x || c.2.1 x) (rk_bind c.1 (fun x => c.2.1 x && !B x) (c.2.2.2.1 i) u)))
def rk_ext (B : Nat → Bool) (u v : Nat → Nat) : Prop := ∀ x, B x = true → v x = u x
/-- variables of two columns are kept, or known from the start -/
def rk_shr2 (B0 : Nat → Bool) (c d : rk_Col) : Prop := ∀ x, rk_in c.1 x → rk_in d.1 x → (c.2.1 x = true ∨ B0 x = true) ∧ (d.2.1 x = true ∨ B0 x = true)
/-- the assignment that has k's numbers on P's variables, and else v's -/
def rk_mix (P : rk_Pt) (k : Nat) (v : Nat → Nat) (x : Nat) : Nat := if rk_at P 0 = 32 + x then rk_dg k 0 else if rk_at P 1 = 32 + x then rk_dg k 1 else if rk_at P 2 = 32 + x then rk_dg k 2 else v x
theorem rk_mix_ok {P : rk_Pt} {k : Nat} {v : Nat → Nat} (hv : rk_okV v) : rk_okV (rk_mix P k v) := by
  intro x
  unfold rk_mix
  split
  · exact rk_dg_lt _ _
  · split
    · exact rk_dg_lt _ _
    · split
      · exact rk_dg_lt _ _
      · exact hv x
theorem rk_mix_off {P : rk_Pt} {k : Nat} {v : Nat → Nat} {x : Nat} (h : ¬ rk_in P x) : rk_mix P k v x = v x := by
  unfold rk_mix
  rw [if_neg (fun e => h ⟨0, by omega, e⟩), if_neg (fun e => h ⟨1, by omega, e⟩), if_neg (fun e => h ⟨2, by omega, e⟩)]
theorem rk_mix_at {P : rk_Pt} {B : Nat → Bool} {u : Nat → Nat} {k : Nat} {v : Nat → Nat} (hm : rk_mt P B u k) {j x : Nat} (hj : j < 3) (e : rk_at P j = 32 + x) : rk_mix P k v x = rk_dg k j := by
  unfold rk_mix
  by_cases c0 : rk_at P 0 = 32 + x
  · rw [if_pos c0]
    exact hm.2.2 0 j (by omega) hj (by omega)
  · rw [if_neg c0]
    by_cases c1 : rk_at P 1 = 32 + x
    · rw [if_pos c1]
      exact hm.2.2 1 j (by omega) hj (by omega)
    · rw [if_neg c1]
      by_cases c2 : rk_at P 2 = 32 + x
      · rw [if_pos c2]
        exact hm.2.2 2 j (by omega) hj (by omega)
      · exfalso
        rcases (show j = 0 ∨ j = 1 ∨ j = 2 by omega) with rfl | rfl | rfl
        · exact c0 e
        · exact c1 e
        · exact c2 e
theorem rk_mix_inst {P : rk_Pt} {B : Nat → Bool} {u : Nat → Nat} {k : Nat} {v : Nat → Nat} (hk : k < 32768) (hm : rk_mt P B u k) (hv : rk_okV v) : rk_inst P (rk_mix P k v) = k := by
  symm
  rw [rk_is_inst (rk_mix_ok hv) hk]
  intro j hj
  unfold rk_val
  by_cases hn : rk_at P j < 32
  · rw [if_pos hn]
    exact hm.1 j hj hn
  · rw [if_neg hn]
    exact (rk_mix_at hm hj (by omega)).symm
theorem rk_dg_inst {P : rk_Pt} {v : Nat → Nat} {k j x : Nat} (hv : rk_okV v) (h : rk_inst P v = k) (hj : j < 3) (e : rk_at P j = 32 + x) : rk_dg k j = v x := by
  rw [← h, rk_inst_dg hv j hj]
  unfold rk_val
  rw [if_neg (by omega), e, Nat.add_sub_cancel_left]
theorem rk_ink_of {P : rk_Pt} {S : Nat → Bool} {j x : Nat} (e : rk_at P j = 32 + x) (h : S x = true) : rk_ink P S j = true := by
  unfold rk_ink
  rw [e, Nat.add_sub_cancel_left, h]
  simp
theorem rk_ink_spec {P : rk_Pt} {S : Nat → Bool} {j : Nat} (h : rk_ink P S j = true) : rk_at P j = 32 + (rk_at P j - 32) ∧ S (rk_at P j - 32) = true := by
  unfold rk_ink at h
  simp at h
  exact ⟨by omega, h.2⟩
theorem rk_part_agr {P : rk_Pt} {B : Nat → Bool} {u : Nat → Nat} {K S : Nat → Bool} {k : Nat} (hm : rk_mt P B u k) (hS : ∀ x, S x = true → K x = true) : rk_agr P S (rk_part P K k) := by
  intro i hi j hj h e
  have h1 := rk_ink_spec h
  have hK : rk_ink P K i = true := rk_ink_of h1.1 (hS _ h1.2)
  have hK2 : rk_ink P K j = true := rk_ink_of (by rw [← e]; exact h1.1) (hS _ h1.2)
  rw [rk_part_dg hi hK, rk_part_dg hj hK2]
  exact hm.2.2 i j hi hj e
/-- one step of a join: with the triple k at the first column -/
theorem rk_step {P : rk_Pt} {K B0 B : Nat → Bool} {u0 u : Nat → Nat} {k : Nat} (hk : k < 32768) (hu : rk_okV u) (h0 : ∀ x, B0 x = true → B x = true ∧ u0 x = u x) (hK : ∀ x, K x = true → rk_in P x) (hH : ∀ x, rk_in P x → B x = true → B0 x = true ∨ K x = true) :
    (∀ v, rk_okV v → rk_ext B u v → rk_inst P v = k → rk_mt P B0 u0 k ∧ rk_cons P (fun x => K x && B x) u (rk_part P K k) ∧ rk_ext (fun x => B x || K x) (rk_bind P (fun x => K x && !B x) (rk_part P K k) u) v) ∧
    (rk_mt P B0 u0 k → rk_cons P (fun x => K x && B x) u (rk_part P K k) → ∀ v, rk_okV v → rk_ext (fun x => B x || K x) (rk_bind P (fun x => K x && !B x) (rk_part P K k) u) v → rk_okV (rk_mix P k v) ∧ rk_ext B u (rk_mix P k v) ∧ rk_inst P (rk_mix P k v) = k ∧ ∀ x, (rk_in P x → K x = true ∨ B x = true) → v x = rk_mix P k v x) := by
  constructor
  · intro v hv he hi
    have hm : rk_mt P B0 u0 k := (rk_mt_iff hk (fun x hx => by rw [(h0 x hx).2]; exact hu x)).mpr ⟨v, hv, fun x hx => by rw [he x (h0 x hx).1, (h0 x hx).2], hi⟩
    refine ⟨hm, fun j hj h => ?_, fun x hx => ?_⟩
    · obtain ⟨e, hs⟩ := rk_ink_spec h
      simp at hs
      rw [rk_part_dg hj (rk_ink_of e hs.1), rk_dg_inst hv hi hj e, he _ hs.2]
    · by_cases hB : B x = true
      · rw [rk_bind_off (by simp [hB]), he x hB]
      · have hKx : K x = true := by
          simp at hx
          rcases hx with z | z
          · exact absurd z hB
          · exact z
        obtain ⟨j, hj, e⟩ := hK x hKx
        have hB' : B x = false := by simpa using hB
        have hink : rk_ink P (fun x => K x && !B x) j = true := rk_ink_of e (by simp [hKx, hB'])
        have hb := rk_bind_at (u := u) (rk_part_agr (S := fun x => K x && !B x) hm (fun y hy => by simp at hy; exact hy.1)) hj hink
        rw [e, Nat.add_sub_cancel_left] at hb
        rw [hb, rk_part_dg hj (rk_ink_of e hKx), rk_dg_inst hv hi hj e]
  · intro hm hc v hv he
    have known : ∀ j x, j < 3 → rk_at P j = 32 + x → B x = true → rk_dg k j = u x := by
      intro j x hj e hB
      rcases hH x ⟨j, hj, e⟩ hB with z | z
      · have := hm.2.1 j hj (by omega) (by rw [e, Nat.add_sub_cancel_left]; exact z)
        rw [this, e, Nat.add_sub_cancel_left, (h0 x z).2]
      · have h1 := hc j hj (rk_ink_of e (by simp [z, hB]))
        rw [rk_part_dg hj (rk_ink_of e z), e, Nat.add_sub_cancel_left] at h1
        exact h1
    refine ⟨rk_mix_ok hv, fun x hB => ?_, rk_mix_inst hk hm hv, fun x hx => ?_⟩
    · by_cases hin : rk_in P x
      · obtain ⟨j, hj, e⟩ := hin
        rw [rk_mix_at hm hj e, known j x hj e hB]
      · rw [rk_mix_off hin, he x (by simp [hB]), rk_bind_off (by simp [hB])]
    · by_cases hin : rk_in P x
      · obtain ⟨j, hj, e⟩ := id hin
        rw [rk_mix_at hm hj e]
        by_cases hB : B x = true
        · rw [he x (by simp [hB]), rk_bind_off (by simp [hB]), known j x hj e hB]
        · have hKx : K x = true := by
            rcases hx hin with z | z
            · exact z
            · exact absurd z hB
          have hB' : B x = false := by simpa using hB
          have hink : rk_ink P (fun x => K x && !B x) j = true := rk_ink_of e (by simp [hKx, hB'])
          have hb := rk_bind_at (u := u) (rk_part_agr (S := fun x => K x && !B x) hm (fun y hy => by simp at hy; exact hy.1)) hj hink
          rw [e, Nat.add_sub_cancel_left] at hb
          rw [he x (by simp [hKx]), hb, rk_part_dg hj (rk_ink_of e hKx)]
      · rw [rk_mix_off hin]
theorem rk_bind_ok {P : rk_Pt} {S : Nat → Bool} {p : Nat} {u : Nat → Nat} (hu : rk_okV u) : rk_okV (rk_bind P S p u) := rk_bindn_ok hu 3
/-- the count of a join is how many rows of triples there are -/
theorem rk_cj_tup {L : List Nat} (hL : ∀ k, k ∈ L → k < 32768) {B0 : Nat → Bool} {u0 : Nat → Nat} : ∀ {cs : List rk_Col} {B : Nat → Bool} {u : Nat → Nat}, rk_okV u → (∀ x, B0 x = true → B x = true ∧ u0 x = u x) → (∀ c, c ∈ cs → rk_colok L B0 u0 c) → cs.Pairwise (rk_shr2 B0) → (∀ c, c ∈ cs → ∀ x, rk_in c.1 x → B x = true → B0 x = true ∨ c.2.1 x = true) →
    rk_cj cs B u = rk_tup L (cs.map (fun c => c.1)) (rk_ext B u)
  | [], B, u, hu, _, _, _, _ => (rk_if_t ⟨u, hu, fun _ _ => rfl⟩).symm
  | c :: cs, B, u, hu, h0, hc, hp, hH => by
    obtain ⟨hs, -, hK⟩ := hc c List.mem_cons_self
    have hp1 := (List.pairwise_cons.mp hp).1
    have hp2 := (List.pairwise_cons.mp hp).2
    show rk_sum (List.range c.2.2.1) (fun i => c.2.2.2.2 i * rk_if (rk_cons c.1 (fun x => c.2.1 x && B x) u (c.2.2.2.1 i)) (rk_cj cs (fun x => B x || c.2.1 x) (rk_bind c.1 (fun x => c.2.1 x && !B x) (c.2.2.2.1 i) u))) = rk_sum L (fun k => rk_tup L (cs.map (fun c => c.1)) (fun v => rk_ext B u v ∧ rk_inst c.1 v = k))
    rw [hs (fun p => rk_if (rk_cons c.1 (fun x => c.2.1 x && B x) u p) (rk_cj cs (fun x => B x || c.2.1 x) (rk_bind c.1 (fun x => c.2.1 x && !B x) p u)))]
    refine rk_sum_congr (fun k hk => ?_)
    obtain ⟨s1, s2⟩ := rk_step (K := c.2.1) (hL k hk) hu h0 hK (hH c List.mem_cons_self)
    by_cases hm : rk_mt c.1 B0 u0 k
    · rw [rk_if_t hm]
      by_cases hcn : rk_cons c.1 (fun x => c.2.1 x && B x) u (rk_part c.1 c.2.1 k)
      · rw [rk_if_t hcn, rk_cj_tup hL (rk_bind_ok hu) (fun x hx => ⟨by simp [(h0 x hx).1], by rw [rk_bind_off (by simp [(h0 x hx).1])]; exact (h0 x hx).2⟩) (fun d hd => hc d (List.mem_cons_of_mem _ hd)) hp2 (fun d hd x hx hB => ?_)]
        · refine rk_tup_congr (fun v hv he => ?_) (fun v hv he => ⟨v, hv, (s1 v hv he.1 he.2).2.2, fun _ _ _ _ => rfl⟩)
          obtain ⟨t1, t2, t3, t4⟩ := s2 hm hcn v hv he
          refine ⟨rk_mix c.1 k v, t1, ⟨t2, t3⟩, fun P hP x hx => t4 x (fun hin => ?_)⟩
          obtain ⟨d, hd, rfl⟩ := List.mem_map.mp hP
          rcases (hp1 d hd x hin hx).1 with z | z
          · exact Or.inl z
          · exact Or.inr (h0 x z).1
        · by_cases hB1 : B x = true
          · exact hH d (List.mem_cons_of_mem _ hd) x hx hB1
          · have hKx : c.2.1 x = true := by
              simp at hB
              rcases hB with z | z
              · exact absurd z hB1
              · exact z
            exact ((hp1 d hd x (hK x hKx) hx).2).symm
      · rw [rk_if_f hcn, rk_tup_none (fun v hv hF => hcn (s1 v hv hF.1 hF.2).2.1)]
    · rw [rk_if_f hm, rk_tup_none (fun v hv hF => hm (s1 v hv hF.1 hF.2).1)]
end
section
/-! the heads that a join gives -/
theorem rk_sum_pos : ∀ {L : List Nat} {g : Nat → Nat}, 0 < rk_sum L g ↔ ∃ k, k ∈ L ∧ 0 < g k
  | [], g => by simp [rk_sum]
  | a :: L, g => by
    rw [rk_sum_cons]
    constructor
    · intro h
      by_cases ha : 0 < g a
      · exact ⟨a, List.mem_cons_self, ha⟩
      · obtain ⟨k, h1, h2⟩ := (rk_sum_pos (L := L) (g := g)).mp (by omega)
        exact ⟨k, List.mem_cons_of_mem _ h1, h2⟩
    · rintro ⟨k, h1, h2⟩
      rcases List.mem_cons.mp h1 with rfl | h
      · omega
      · have := (rk_sum_pos (L := L) (g := g)).mpr ⟨k, h, h2⟩
        omega
theorem rk_if_pos1 {p : Prop} : 0 < rk_if p 1 ↔ p := by
  by_cases h : p
  · rw [rk_if_t h]
    simp [h]
  · rw [rk_if_f h]
    simp [h]
theorem rk_col_of {L : List Nat} {B0 : Nat → Bool} {u0 : Nat → Nat} {c : rk_Col} (h : rk_colok L B0 u0 c) {i : Nat} (hi : i < c.2.2.1) : ∃ k, k ∈ L ∧ rk_mt c.1 B0 u0 k ∧ rk_part c.1 c.2.1 k = c.2.2.2.1 i := by
  have h1 := h.1 (fun p => rk_if (p = c.2.2.2.1 i) 1)
  have h2 : 0 < rk_sum (List.range c.2.2.1) (fun j => c.2.2.2.2 j * rk_if (c.2.2.2.1 j = c.2.2.2.1 i) 1) := rk_sum_pos.mpr ⟨i, List.mem_range.mpr hi, by rw [rk_if_t rfl, Nat.mul_one]; exact h.2.1 i hi⟩
  rw [h1] at h2
  obtain ⟨k, hk, h3⟩ := rk_sum_pos.mp h2
  by_cases hm : rk_mt c.1 B0 u0 k
  · rw [rk_if_t hm] at h3
    exact ⟨k, hk, hm, rk_if_pos1.mp h3⟩
  · rw [rk_if_f hm] at h3
    exact absurd h3 (Nat.lt_irrefl 0)
theorem rk_col_at {L : List Nat} {B0 : Nat → Bool} {u0 : Nat → Nat} {c : rk_Col} (h : rk_colok L B0 u0 c) {k : Nat} (hk : k ∈ L) (hm : rk_mt c.1 B0 u0 k) : ∃ i, i < c.2.2.1 ∧ c.2.2.2.1 i = rk_part c.1 c.2.1 k := by
  have h1 := h.1 (fun p => rk_if (p = rk_part c.1 c.2.1 k) 1)
  have h2 : 0 < rk_sum L (fun j => rk_if (rk_mt c.1 B0 u0 j) (rk_if (rk_part c.1 c.2.1 j = rk_part c.1 c.2.1 k) 1)) := rk_sum_pos.mpr ⟨k, hk, by rw [rk_if_t hm, rk_if_t rfl]; exact Nat.one_pos⟩
  rw [← h1] at h2
  obtain ⟨i, hi, h3⟩ := rk_sum_pos.mp h2
  refine ⟨i, List.mem_range.mp hi, ?_⟩
  by_cases e : c.2.2.2.1 i = rk_part c.1 c.2.1 k
  · exact e
  · rw [rk_if_f e] at h3
    simp at h3
def rk_hd (L : List Nat) (hd : rk_Pt) (cs : List rk_Col) (B : Nat → Bool) (u : Nat → Nat) (z : Nat) : Prop :=
  ∃ v, rk_okV v ∧ rk_ext B u v ∧ (∀ c, c ∈ cs → rk_inst c.1 v ∈ L) ∧ rk_inst hd v = z
theorem rk_hd_step {L : List Nat} (hL : ∀ k, k ∈ L → k < 32768) {hd : rk_Pt} {B0 : Nat → Bool} {u0 : Nat → Nat} {c : rk_Col} {cs : List rk_Col} {B : Nat → Bool} {u : Nat → Nat} (hu : rk_okV u) (h0 : ∀ x, B0 x = true → B x = true ∧ u0 x = u x) (hc : rk_colok L B0 u0 c) (hp : ∀ d, d ∈ cs → rk_shr2 B0 c d) (hH : ∀ x, rk_in c.1 x → B x = true → B0 x = true ∨ c.2.1 x = true) (hh : ∀ x, rk_in hd x → rk_in c.1 x → c.2.1 x = true ∨ B x = true) (z : Nat) :
    rk_hd L hd (c :: cs) B u z ↔ ∃ i, i < c.2.2.1 ∧ rk_cons c.1 (fun x => c.2.1 x && B x) u (c.2.2.2.1 i) ∧ rk_hd L hd cs (fun x => B x || c.2.1 x) (rk_bind c.1 (fun x => c.2.1 x && !B x) (c.2.2.2.1 i) u) z := by
  constructor
  · rintro ⟨v, hv, he, hi, hz⟩
    have hk : rk_inst c.1 v ∈ L := hi c List.mem_cons_self
    obtain ⟨s1, -⟩ := rk_step (K := c.2.1) (hL _ hk) hu h0 hc.2.2 hH
    obtain ⟨a1, a2, a3⟩ := s1 v hv he rfl
    obtain ⟨i, b1, b2⟩ := rk_col_at hc hk a1
    exact ⟨i, b1, by rw [b2]; exact a2, v, hv, by rw [b2]; exact a3, fun d hd => hi d (List.mem_cons_of_mem _ hd), hz⟩
  · rintro ⟨i, hi, hcn, v, hv, he, hr, hz⟩
    obtain ⟨k, hk, hm, hpk⟩ := rk_col_of hc hi
    rw [← hpk] at hcn he
    obtain ⟨-, s2⟩ := rk_step (K := c.2.1) (hL _ hk) hu h0 hc.2.2 hH
    obtain ⟨t1, t2, t3, t4⟩ := s2 hm hcn v hv he
    refine ⟨rk_mix c.1 k v, t1, t2, fun d hd => ?_, ?_⟩
    · rcases List.mem_cons.mp hd with rfl | h
      · rw [t3]
        exact hk
      · rw [← rk_inst_congr (v := v) (fun x hx => t4 x (fun hin => ?_))]
        · exact hr d h
        · rcases (hp d h x hin hx).1 with y | y
          · exact Or.inl y
          · exact Or.inr (h0 x y).1
    · rw [← hz]
      exact (rk_inst_congr (fun x hx => t4 x (fun hin => hh x hx hin))).symm
/-- with no column left there is one head, if its variables are known -/
theorem rk_hd_nil {L : List Nat} {hd : rk_Pt} {B : Nat → Bool} {u : Nat → Nat} (hu : rk_okV u) (hk : ∀ x, rk_in hd x → B x = true) (z : Nat) : rk_hd L hd [] B u z ↔ z = rk_inst hd u := by
  constructor
  · rintro ⟨v, hv, he, -, hz⟩
    rw [← hz]
    exact rk_inst_congr (fun x hx => he x (hk x hx))
  · intro h
    exact ⟨u, hu, fun _ _ => rfl, fun c hc => absurd hc List.not_mem_nil, h.symm⟩
/-- a head whose variables are known is one code -/
theorem rk_hd_known {L : List Nat} {hd : rk_Pt} {cs : List rk_Col} {B : Nat → Bool} {u : Nat → Nat} (hk : ∀ x, rk_in hd x → B x = true) {z : Nat} (h : rk_hd L hd cs B u z) : z = rk_inst hd u := by
  obtain ⟨v, hv, he, -, hz⟩ := h
  rw [← hz]
  exact rk_inst_congr (fun x hx => he x (hk x hx))
/-! rules: which variables of a pattern stand elsewhere too; the closing argument -/
def rk_nth (r : rk_Ru) (i : Nat) : rk_Pt := r.1.getD i (0, 0, 0)
def rk_shd (r : rk_Ru) (i x : Nat) : Prop := rk_in (rk_nth r i) x ∧ (rk_in r.2 x ∨ ∃ j, j < r.1.length ∧ j ≠ i ∧ rk_in (rk_nth r j) x)
theorem rk_nth_mem {r : rk_Ru} {i : Nat} (h : i < r.1.length) : rk_nth r i ∈ r.1 := by
  unfold rk_nth
  rw [List.getD_eq_getElem?_getD, List.getElem?_eq_getElem h]
  exact List.getElem_mem h
theorem rk_mem_nth {r : rk_Ru} {P : rk_Pt} (h : P ∈ r.1) : ∃ i, i < r.1.length ∧ rk_nth r i = P := by
  obtain ⟨i, hi, e⟩ := List.getElem_of_mem h
  refine ⟨i, hi, ?_⟩
  unfold rk_nth
  rw [List.getD_eq_getElem?_getD, List.getElem?_eq_getElem hi]
  exact e
/-- the cases of r with the newest of S at place i have their heads in X, or S without the newest has as good a one -/
def rk_drv (r : rk_Ru) (i : Nat) (S S1 : Nat → Prop) (X : Nat → Prop) : Prop :=
  ∀ v, rk_okV v → ¬ S (rk_inst (rk_nth r i) v) → (∀ j, j < r.1.length → S1 (rk_inst (rk_nth r j) v)) → X (rk_inst r.2 v) ∨ ∃ w, rk_okV w ∧ S (rk_inst (rk_nth r i) w) ∧ ∀ x, rk_shd r i x → w x = v x
theorem rk_drv_mono {r : rk_Ru} {i : Nat} {S S1 X Y : Nat → Prop} (h : rk_drv r i S S1 X) (hXY : ∀ k, X k → Y k) : rk_drv r i S S1 Y := fun v a b d => (h v a b d).imp (hXY _) id
theorem rk_reach {r : rk_Ru} {S S1 X : Nat → Prop} (hS1 : ∀ k, S k → S1 k) (hprev : ∀ v, rk_case r S v → X (rk_inst r.2 v)) (hd : ∀ i, i < r.1.length → rk_drv r i S S1 X) : ∀ v, rk_case r S1 v → X (rk_inst r.2 v) := by
  have key : ∀ n j, r.1.length - j = n → j ≤ r.1.length → ∀ v, rk_okV v → (∀ i, i < j → S (rk_inst (rk_nth r i) v)) → (∀ i, i < r.1.length → S1 (rk_inst (rk_nth r i) v)) → X (rk_inst r.2 v) := by
    intro n
    induction n with
    | zero =>
      intro j h1 h2 v hv ha _
      refine hprev v ⟨hv, fun P hP => ?_⟩
      obtain ⟨i, hi, rfl⟩ := rk_mem_nth hP
      exact ha i (by omega)
    | succ n ih =>
      intro j h1 h2 v hv ha hb
      by_cases hj : S (rk_inst (rk_nth r j) v)
      · refine ih (j + 1) (by omega) (by omega) v hv (fun i hi => ?_) hb
        by_cases e : i = j
        · rw [e]
          exact hj
        · exact ha i (by omega)
      · rcases hd j (by omega) v hv hj hb with h | ⟨w, hw, hS, hx⟩
        · exact h
        · have hm : rk_mt (rk_nth r j) (fun _ => false) w (rk_inst (rk_nth r j) w) := (rk_mt_iff (rk_inst_lt hw) (fun x hx => by cases hx)).mpr ⟨w, hw, (fun x hx => by cases hx), rfl⟩
          obtain ⟨u, eu⟩ : ∃ u, u = rk_mix (rk_nth r j) (rk_inst (rk_nth r j) w) v := ⟨_, rfl⟩
          have hu1 : ∀ x, rk_in (rk_nth r j) x → u x = w x := fun x ⟨q, hq, e⟩ => by
            rw [eu, rk_mix_at hm hq e, rk_dg_inst hw rfl hq e]
          have hu2 : ∀ x, ¬ rk_in (rk_nth r j) x → u x = v x := fun x h => by
            rw [eu, rk_mix_off h]
          have hok : rk_okV u := fun x => by
            by_cases h : rk_in (rk_nth r j) x
            · rw [hu1 x h]
              exact hw x
            · rw [hu2 x h]
              exact hv x
          have e1 : rk_inst (rk_nth r j) u = rk_inst (rk_nth r j) w := rk_inst_congr hu1
          have e2 : ∀ i, i < r.1.length → i ≠ j → rk_inst (rk_nth r i) u = rk_inst (rk_nth r i) v := fun i hi hne => rk_inst_congr (fun x hin => by
            by_cases h : rk_in (rk_nth r j) x
            · rw [hu1 x h]
              exact hx x ⟨h, Or.inr ⟨i, hi, hne, hin⟩⟩
            · exact hu2 x h)
          have e3 : rk_inst r.2 u = rk_inst r.2 v := rk_inst_congr (fun x hin => by
            by_cases h : rk_in (rk_nth r j) x
            · rw [hu1 x h]
              exact hx x ⟨h, Or.inl hin⟩
            · exact hu2 x h)
          rw [← e3]
          refine ih (j + 1) (by omega) (by omega) u hok (fun i hi => ?_) (fun i hi => ?_)
          · by_cases e : i = j
            · rw [e, e1]
              exact hS
            · rw [e2 i (by omega) e]
              exact ha i (by omega)
          · by_cases e : i = j
            · rw [e, e1]
              exact hS1 _ hS
            · rw [e2 i hi e]
              exact hb i hi
  intro v hc
  exact key _ 0 rfl (Nat.zero_le _) v hc.1 (fun i hi => absurd hi (Nat.not_lt_zero i)) (fun i hi => hc.2 _ (rk_nth_mem hi))
end
section
/-! filling a column: parts, how often, and where each part stands -/
def rk_nf (f : Nat → Nat) : Nat → Int32 := fun j => nI (f j)
theorem rk_nf_upd (f : Nat → Nat) (k x : Nat) : upd (rk_nf f) k (nI x) = rk_nf (va_up f k x) := by
  funext j
  by_cases h : j = k
  · subst h
    rw [pk_us]
    show nI x = nI (va_up f j x j)
    rw [va_up_self]
  · rw [pk_un h]
    show nI (f j) = nI (va_up f k x j)
    rw [va_up_ne _ _ h]
theorem rk_nf_0 : (fun _ => 0 : Nat → Int32) = rk_nf (fun _ => 0) := by
  funext j
  exact nI_0.symm
def rk_place (a : Bool) (p : Nat) : Nat := (if a then (p / 32 ||| p % 32) else p) % 1024
theorem rk_place_lt (a : Bool) (p : Nat) : rk_place a p < 1024 := Nat.mod_lt _ (by omega)
theorem rk_v_div {f : Nat → Bool} {w : Nat → Nat} (hw : ∀ j, j < 3 → w j < 32) : rk_v f w / 32 = 32 * (if f 0 then w 0 else 0) + (if f 1 then w 1 else 0) := by
  have h2 := rk_ite_lt (b := f 2) (hw 2 (by omega))
  unfold rk_v rk_pk
  omega
theorem rk_v_mod {f : Nat → Bool} {w : Nat → Nat} (hw : ∀ j, j < 3 → w j < 32) : rk_v f w % 32 = if f 2 then w 2 else 0 := by
  have h2 := rk_ite_lt (b := f 2) (hw 2 (by omega))
  unfold rk_v rk_pk
  omega
theorem rk_place_v {f : Nat → Bool} {w : Nat → Nat} (hw : ∀ j, j < 3 → w j < 32) (h : f 0 = false ∨ f 1 = false ∨ f 2 = false) : rk_place (f 0) (rk_v f w) = if f 0 then 32 * w 0 + (if f 1 then w 1 else 0) + (if f 2 then w 2 else 0) else 32 * (if f 1 then w 1 else 0) + (if f 2 then w 2 else 0) := by
  have h0 := hw 0 (by omega)
  have h1 := hw 1 (by omega)
  have h2 := hw 2 (by omega)
  unfold rk_place
  cases e0 : f 0
  · simp only [Bool.false_eq_true, if_false]
    unfold rk_v rk_pk
    rw [e0]
    have g1 := rk_ite_lt (b := f 1) h1
    have g2 := rk_ite_lt (b := f 2) h2
    simp only [Bool.false_eq_true, if_false]
    omega
  · simp only [if_true]
    rw [rk_v_div hw, rk_v_mod hw, e0]
    simp only [if_true]
    have g1 := rk_ite_lt (b := f 1) h1
    have g2 := rk_ite_lt (b := f 2) h2
    have ho : (32 * w 0 + (if f 1 then w 1 else 0)) ||| (if f 2 then w 2 else 0) = 32 * w 0 + ((if f 1 then w 1 else 0) ||| (if f 2 then w 2 else 0)) := by
      have := rk_or5 (a := w 0) (c := 0) g1 g2
      simpa using this
    rw [ho]
    rcases h with z | z | z
    · rw [e0] at z
      cases z
    · rw [z]
      simp
      omega
    · rw [z]
      simp
      omega
theorem rk_place_inj {f : Nat → Bool} {w u : Nat → Nat} (hw : ∀ j, j < 3 → w j < 32) (hu : ∀ j, j < 3 → u j < 32) (h : f 0 = false ∨ f 1 = false ∨ f 2 = false) (e : rk_place (f 0) (rk_v f w) = rk_place (f 0) (rk_v f u)) : rk_v f w = rk_v f u := by
  rw [rk_place_v hw h, rk_place_v hu h] at e
  have a0 := hw 0 (by omega)
  have a1 := hw 1 (by omega)
  have a2 := hw 2 (by omega)
  have b0 := hu 0 (by omega)
  have b1 := hu 1 (by omega)
  have b2 := hu 2 (by omega)
  unfold rk_v rk_pk
  revert e h
  cases f 0 <;> cases f 1 <;> cases f 2 <;> simp <;> omega
theorem rk_all_iff (f : Nat → Bool) : rk_m f = 32767 ↔ ¬ (f 0 = false ∨ f 1 = false ∨ f 2 = false) := by
  unfold rk_m
  cases f 0 <;> cases f 1 <;> cases f 2 <;> decide
theorem rk_first_iff (f : Nat → Bool) : rk_m f / 1024 = 0 ↔ f 0 = false := by
  unfold rk_m
  cases f 0 <;> cases f 1 <;> cases f 2 <;> decide
/-- the state of filling, when the parts S have come -/
def rk_fi (f : Nat → Bool) (n : Nat) (pr tm pl : Nat → Nat) (S : List Nat) : Prop :=
  n ≤ S.length ∧ (∀ g : Nat → Nat, rk_sum (List.range n) (fun j => tm j * g (pr j)) = rk_sum S g) ∧ (∀ j, j < n → 0 < tm j ∧ pr j ∈ S) ∧ (∀ q, pl q = 0 ∨ ∃ j, j < n ∧ q = rk_place (f 0) (pr j)) ∧ ((f 0 = false ∨ f 1 = false ∨ f 2 = false) → ∀ j, j < n → pl (rk_place (f 0) (pr j)) = j + 1)
theorem rk_fi_0 {f : Nat → Bool} {pr tm pl : Nat → Nat} (hpl : ∀ q, pl q = 0) : rk_fi f 0 pr tm pl [] :=
  ⟨Nat.le_refl 0, fun g => rfl, fun j h => absurd h (Nat.not_lt_zero j), fun q => Or.inl (hpl q), fun _ j h => absurd h (Nat.not_lt_zero j)⟩
theorem rk_range_sum (n : Nat) (g : Nat → Nat) : rk_sum (List.range (n + 1)) g = rk_sum (List.range n) g + g n := by
  rw [List.range_succ, rk_sum_app]
  simp [rk_sum]
theorem rk_fi_add {f : Nat → Bool} {n : Nat} {pr tm pl : Nat → Nat} {S : List Nat} (h : rk_fi f n pr tm pl S) (x : Nat) (hx : (f 0 = false ∨ f 1 = false ∨ f 2 = false) → pl (rk_place (f 0) x) = 0) : rk_fi f (n + 1) (va_up pr n x) (va_up tm n 1) (va_up pl (rk_place (f 0) x) (n + 1)) (S ++ [x]) := by
  obtain ⟨h1, h2, h3, h4, h5⟩ := h
  have old : ∀ j, j < n → va_up pr n x j = pr j ∧ va_up tm n 1 j = tm j := fun j hj => ⟨va_up_ne _ _ (by omega), va_up_ne _ _ (by omega)⟩
  refine ⟨by simp; omega, fun g => ?_, fun j hj => ?_, fun q => ?_, fun ha j hj => ?_⟩
  · rw [rk_range_sum, rk_sum_app, va_up_self, va_up_self, ← h2 g]
    rw [rk_sum_congr (g := fun j => va_up tm n 1 j * g (va_up pr n x j)) (h := fun j => tm j * g (pr j)) (fun j hj => by rw [(old j (List.mem_range.mp hj)).1, (old j (List.mem_range.mp hj)).2])]
    simp [rk_sum]
  · by_cases e : j = n
    · subst e
      rw [va_up_self, va_up_self]
      exact ⟨Nat.one_pos, by simp⟩
    · have hj' : j < n := by omega
      rw [(old j hj').1, (old j hj').2]
      exact ⟨(h3 j hj').1, List.mem_append_left _ (h3 j hj').2⟩
  · by_cases e : q = rk_place (f 0) x
    · exact Or.inr ⟨n, by omega, by rw [va_up_self]; exact e⟩
    · rw [va_up_ne _ _ e]
      rcases h4 q with z | ⟨j, hj, z⟩
      · exact Or.inl z
      · exact Or.inr ⟨j, by omega, by rw [(old j hj).1]; exact z⟩
  · by_cases e : j = n
    · subst e
      rw [va_up_self, va_up_self]
    · have hj' : j < n := by omega
      rw [(old j hj').1]
      have hne : rk_place (f 0) (pr j) ≠ rk_place (f 0) x := fun z => by
        have := h5 ha j hj'
        rw [z, hx ha] at this
        omega
      rw [va_up_ne _ _ hne]
      exact h5 ha j hj'
theorem rk_fi_more {f : Nat → Bool} {n : Nat} {pr tm pl : Nat → Nat} {S : List Nat} (h : rk_fi f n pr tm pl S) {j : Nat} (hj : j < n) : rk_fi f n pr (va_up tm j (tm j + 1)) pl (S ++ [pr j]) := by
  obtain ⟨h1, h2, h3, h4, h5⟩ := h
  refine ⟨by simp; omega, fun g => ?_, fun i hi => ?_, h4, h5⟩
  · rw [rk_sum_app, ← h2 g]
    have key : ∀ m, rk_sum (List.range m) (fun i => va_up tm j (tm j + 1) i * g (pr i)) = rk_sum (List.range m) (fun i => tm i * g (pr i)) + if j < m then g (pr j) else 0 := by
      intro m
      induction m with
      | zero => rfl
      | succ m ih =>
        rw [rk_range_sum, rk_range_sum, ih]
        by_cases e : m = j
        · subst e
          rw [va_up_self, if_neg (Nat.lt_irrefl m), if_pos (Nat.lt_succ_self m), Nat.add_mul, Nat.one_mul]
          omega
        · rw [va_up_ne _ _ e]
          by_cases h : j < m
          · rw [if_pos h, if_pos (by omega)]
            omega
          · rw [if_neg h, if_neg (by omega)]
            omega
    rw [key n, if_pos hj]
    simp [rk_sum]
  · refine ⟨?_, List.mem_append_left _ (h3 i hi).2⟩
    by_cases e : i = j
    · subst e
      rw [va_up_self]
      omega
    · rw [va_up_ne _ _ e]
      exact (h3 i hi).1
end
section
/-! sets of variables as masks -/
def rk_bits (P : rk_Pt) (j : Nat) : Nat := if rk_at P j < 32 then 0 else 2 ^ (rk_at P j - 32)
def rk_slots (P : rk_Pt) (j : Nat) : Nat := if rk_at P j < 32 then 0 else rk_at P j - 32
def rk_varsn (P : rk_Pt) : Nat → Nat
  | 0 => 0
  | n + 1 => rk_varsn P n ||| rk_bits P n
def rk_vars (P : rk_Pt) : Nat := rk_varsn P 3
theorem rk_bits_tb {P : rk_Pt} {j x : Nat} : (rk_bits P j).testBit x = true ↔ rk_at P j = 32 + x := by
  unfold rk_bits
  split
  · simp
    omega
  · rw [Nat.testBit_two_pow]
    simp
    omega
theorem rk_varsn_tb {P : rk_Pt} {x : Nat} : ∀ n, (rk_varsn P n).testBit x = true ↔ ∃ j, j < n ∧ rk_at P j = 32 + x
  | 0 => by simp [rk_varsn]
  | n + 1 => by
    show (rk_varsn P n ||| rk_bits P n).testBit x = true ↔ _
    rw [Nat.testBit_or, Bool.or_eq_true, rk_varsn_tb n, rk_bits_tb]
    constructor
    · rintro (⟨j, h1, h2⟩ | h)
      · exact ⟨j, by omega, h2⟩
      · exact ⟨n, by omega, h⟩
    · rintro ⟨j, h1, h2⟩
      by_cases e : j = n
      · subst e
        exact Or.inr h2
      · exact Or.inl ⟨j, by omega, h2⟩
theorem rk_vars_tb {P : rk_Pt} {x : Nat} : (rk_vars P).testBit x = true ↔ rk_in P x := rk_varsn_tb 3
theorem rk_bits_lt {P : rk_Pt} (hP : rk_okP P) {j : Nat} (hj : j < 3) : rk_bits P j < 256 := by
  unfold rk_bits
  split
  · omega
  · have h := hP j hj
    have : 2 ^ (rk_at P j - 32) ≤ 2 ^ 7 := Nat.pow_le_pow_right (by omega) (by omega)
    omega
theorem rk_slots_lt {P : rk_Pt} (hP : rk_okP P) {j : Nat} (hj : j < 3) : rk_slots P j < 8 := by
  have h := hP j hj
  unfold rk_slots
  split <;> omega
theorem rk_or_lt {a b : Nat} (ha : a < 256) (hb : b < 256) : a ||| b < 256 := Nat.or_lt_two_pow (n := 8) ha hb
theorem rk_and_lt {a b : Nat} (hb : b < 256) : a &&& b < 256 := Nat.and_lt_two_pow (n := 8) a hb
theorem rk_varsn_lt {P : rk_Pt} (hP : rk_okP P) : ∀ n, n ≤ 3 → rk_varsn P n < 256
  | 0, _ => by show (0 : Nat) < 256; omega
  | n + 1, h => rk_or_lt (rk_varsn_lt hP n (by omega)) (rk_bits_lt hP (by omega))
theorem rk_vars_lt {P : rk_Pt} (hP : rk_okP P) : rk_vars P < 256 := rk_varsn_lt hP 3 (Nat.le_refl 3)
/-- a place's bit against a mask -/
theorem rk_bits_and {P : rk_Pt} {S j : Nat} : rk_bits P j &&& S = 0 ↔ rk_ink P (rk_tb S) j = false := by
  unfold rk_bits rk_ink rk_tb
  by_cases h : rk_at P j < 32
  · rw [if_pos h, Nat.zero_and]
    simp
    omega
  · rw [if_neg h]
    constructor
    · intro e
      have : (2 ^ (rk_at P j - 32) &&& S).testBit (rk_at P j - 32) = false := by rw [e]; simp
      rw [Nat.testBit_and, Nat.testBit_two_pow] at this
      simp at this
      simp [this]
    · intro e
      apply Nat.eq_of_testBit_eq
      intro i
      rw [Nat.testBit_and, Nat.testBit_two_pow]
      by_cases hi : rk_at P j - 32 = i
      · rw [← hi]
        simp at e
        simp [e (by omega)]
      · simp [hi]
def rk_an (a b : Nat) : Nat := a ^^^ (a &&& b)
theorem rk_an_tb (a b x : Nat) : (rk_an a b).testBit x = (a.testBit x && !b.testBit x) := by
  unfold rk_an
  rw [Nat.testBit_xor, Nat.testBit_and]
  cases a.testBit x <;> cases b.testBit x <;> rfl
theorem rk_an_lt {a b : Nat} (ha : a < 256) : rk_an a b < 256 := Nat.xor_lt_two_pow (n := 8) ha (Nat.lt_of_le_of_lt Nat.and_le_left ha)
theorem rk_an_i (a b : Nat) : nI a &&& (nI b ^^^ (-1)) = nI (rk_an a b) := by
  apply Int32.toBitVec_inj.1
  show BitVec.ofNat 32 a &&& (BitVec.ofNat 32 b ^^^ (-1 : Int32).toBitVec) = BitVec.ofNat 32 (rk_an a b)
  apply BitVec.eq_of_getLsbD_eq
  intro i hi
  have hm : (-1 : Int32).toBitVec.getLsbD i = true := b_m1 i hi
  rw [BitVec.getLsbD_and, BitVec.getLsbD_xor, hm, BitVec.getLsbD_ofNat, BitVec.getLsbD_ofNat, BitVec.getLsbD_ofNat, rk_an_tb]
  simp [hi]
theorem rk_an_0 {a b : Nat} : rk_an a b = 0 ↔ ∀ x, a.testBit x = true → b.testBit x = true := by
  constructor
  · intro h x hx
    have := rk_an_tb a b x
    rw [h, hx] at this
    simpa using this
  · intro h
    apply Nat.eq_of_testBit_eq
    intro x
    rw [rk_an_tb]
    cases e : a.testBit x
    · simp
    · simp [h x e]
theorem rk_nI0 {x : Nat} (h : x < 2 ^ 31) : nI x = 0 ↔ x = 0 := by
  rw [← nI_0, nI_eq h (by omega)]
/-! the variables of a rule that stand elsewhere too -/
def rk_elsen (r : rk_Ru) (i : Nat) : Nat → Nat
  | 0 => rk_vars r.2
  | n + 1 => rk_elsen r i n ||| (if n = i then 0 else rk_vars (rk_nth r n))
def rk_shm (r : rk_Ru) (i : Nat) : Nat := rk_vars (rk_nth r i) &&& rk_elsen r i r.1.length
theorem rk_elsen_tb {r : rk_Ru} {i x : Nat} : ∀ n, (rk_elsen r i n).testBit x = true ↔ rk_in r.2 x ∨ ∃ j, j < n ∧ j ≠ i ∧ rk_in (rk_nth r j) x
  | 0 => by
    show (rk_vars r.2).testBit x = true ↔ _
    rw [rk_vars_tb]
    simp
  | n + 1 => by
    show (rk_elsen r i n ||| (if n = i then 0 else rk_vars (rk_nth r n))).testBit x = true ↔ _
    rw [Nat.testBit_or, Bool.or_eq_true, rk_elsen_tb n]
    by_cases e : n = i
    · rw [if_pos e]
      simp only [Nat.zero_testBit, Bool.false_eq_true, or_false]
      constructor
      · rintro (h | ⟨j, h1, h2⟩)
        · exact Or.inl h
        · exact Or.inr ⟨j, by omega, h2⟩
      · rintro (h | ⟨j, h1, h2, h3⟩)
        · exact Or.inl h
        · exact Or.inr ⟨j, by omega, h2, h3⟩
    · rw [if_neg e, rk_vars_tb]
      constructor
      · rintro ((h | ⟨j, h1, h2⟩) | h)
        · exact Or.inl h
        · exact Or.inr ⟨j, by omega, h2⟩
        · exact Or.inr ⟨n, by omega, e, h⟩
      · rintro (h | ⟨j, h1, h2, h3⟩)
        · exact Or.inl (Or.inl h)
        · by_cases e2 : j = n
          · subst e2
            exact Or.inr h3
          · exact Or.inl (Or.inr ⟨j, by omega, h2, h3⟩)
theorem rk_shm_tb {r : rk_Ru} {i x : Nat} : (rk_shm r i).testBit x = true ↔ rk_shd r i x := by
  unfold rk_shm rk_shd
  rw [Nat.testBit_and, Bool.and_eq_true, rk_vars_tb, rk_elsen_tb]
def rk_okR (r : rk_Ru) : Prop := 0 < r.1.length ∧ r.1.length ≤ 3 ∧ (∀ P, P ∈ r.1 → rk_okP P) ∧ rk_okP r.2 ∧ ∀ x, rk_in r.2 x → ∃ P, P ∈ r.1 ∧ rk_in P x
end
section
/-! one triple at one place of a body: what the join of the other places gives -/
/-- the columns of all places of r but i, as far as place n -/
def rk_cols (r : rk_Ru) (i : Nat) (cf : Nat → rk_Col) : Nat → List rk_Col
  | 0 => []
  | n + 1 => rk_cols r i cf n ++ (if n = i then [] else [cf n])
theorem rk_cols_mem {r : rk_Ru} {i : Nat} {cf : Nat → rk_Col} {c : rk_Col} : ∀ {n : Nat}, c ∈ rk_cols r i cf n ↔ ∃ j, j < n ∧ j ≠ i ∧ c = cf j
  | 0 => by simp [rk_cols]
  | n + 1 => by
    show c ∈ rk_cols r i cf n ++ (if n = i then [] else [cf n]) ↔ _
    rw [List.mem_append, rk_cols_mem (n := n)]
    by_cases e : n = i
    · rw [if_pos e]
      simp only [List.not_mem_nil, or_false]
      constructor
      · rintro ⟨j, h1, h2⟩
        exact ⟨j, by omega, h2⟩
      · rintro ⟨j, h1, h2, h3⟩
        exact ⟨j, by omega, h2, h3⟩
    · rw [if_neg e, List.mem_singleton]
      constructor
      · rintro (⟨j, h1, h2⟩ | h)
        · exact ⟨j, by omega, h2⟩
        · exact ⟨n, by omega, e, h⟩
      · rintro ⟨j, h1, h2, h3⟩
        by_cases e2 : j = n
        · subst e2
          exact Or.inr h3
        · exact Or.inl ⟨j, by omega, h2, h3⟩
theorem rk_cols_pw {r : rk_Ru} {i : Nat} {cf : Nat → rk_Col} {Rl : rk_Col → rk_Col → Prop} : ∀ {n : Nat}, (∀ a b, a < b → b < n → a ≠ i → b ≠ i → Rl (cf a) (cf b)) → (rk_cols r i cf n).Pairwise Rl
  | 0, _ => List.Pairwise.nil
  | n + 1, h => by
    show (rk_cols r i cf n ++ (if n = i then [] else [cf n])).Pairwise Rl
    rw [List.pairwise_append]
    refine ⟨rk_cols_pw (fun a b h1 h2 => h a b h1 (by omega)), ?_, ?_⟩
    · split
      · exact List.Pairwise.nil
      · exact List.pairwise_singleton _ _
    · intro x hx y hy
      obtain ⟨j, h1, h2, rfl⟩ := rk_cols_mem.mp hx
      by_cases e : n = i
      · rw [if_pos e] at hy
        exact absurd hy List.not_mem_nil
      · rw [if_neg e] at hy
        rw [List.mem_singleton.mp hy]
        exact h j n h1 (Nat.lt_succ_self n) h2 e
/-- column j of the rule r, where the variables in the mask b are known from the start -/
def rk_iscol (r : rk_Ru) (b j : Nat) (c : rk_Col) : Prop := c.1 = rk_nth r j ∧ c.2.1 = rk_tb (rk_an (rk_shm r j) b)
theorem rk_shr2_of {r : rk_Ru} {b i j : Nat} {c d : rk_Col} (hc : rk_iscol r b i c) (hd : rk_iscol r b j d) (hi : i < r.1.length) (hj : j < r.1.length) (hne : i ≠ j) : rk_shr2 (rk_tb b) c d := by
  intro x h1 h2
  rw [hc.1] at h1
  rw [hd.1] at h2
  have e1 : (rk_shm r i).testBit x = true := rk_shm_tb.mpr ⟨h1, Or.inr ⟨j, hj, Ne.symm hne, h2⟩⟩
  have e2 : (rk_shm r j).testBit x = true := rk_shm_tb.mpr ⟨h2, Or.inr ⟨i, hi, hne, h1⟩⟩
  rw [hc.2, hd.2]
  unfold rk_tb
  rw [rk_an_tb, rk_an_tb, e1, e2]
  cases b.testBit x <;> simp
theorem rk_iscol_in {r : rk_Ru} {b j : Nat} {c : rk_Col} (hc : rk_iscol r b j c) {x : Nat} (h : c.2.1 x = true) : rk_in c.1 x := by
  rw [hc.2] at h
  unfold rk_tb at h
  rw [rk_an_tb] at h
  simp at h
  rw [hc.1]
  exact (rk_shm_tb.mp h.1).1
/-- with the code q at place i: the heads of the join are the heads of the cases -/
theorem rk_hd_cases {L : List Nat} {r : rk_Ru} {i q : Nat} {cf : Nat → rk_Col} {u : Nat → Nat} (hq : q < 32768) (hi : i < r.1.length) (hcf : ∀ j, j < r.1.length → j ≠ i → rk_iscol r (rk_shm r i) j (cf j)) (hm : rk_mt (rk_nth r i) (fun _ => false) u q) (hu : ∀ j x, j < 3 → rk_at (rk_nth r i) j = 32 + x → rk_tb (rk_shm r i) x = true → u x = rk_dg q j) (z : Nat) :
    rk_hd L r.2 (rk_cols r i cf r.1.length) (rk_tb (rk_shm r i)) u z ↔ ∃ v, rk_okV v ∧ rk_inst (rk_nth r i) v = q ∧ (∀ j, j < r.1.length → j ≠ i → rk_inst (rk_nth r j) v ∈ L) ∧ rk_inst r.2 v = z := by
  constructor
  · rintro ⟨v, hv, he, hr, hz⟩
    have hin : ∀ x, rk_in (rk_nth r i) x → rk_shd r i x → rk_mix (rk_nth r i) q v x = v x := by
      rintro x ⟨j, hj, e⟩ hs
      have hb : rk_tb (rk_shm r i) x = true := rk_shm_tb.mpr hs
      rw [rk_mix_at hm hj e, he x hb, hu j x hj e hb]
    refine ⟨rk_mix (rk_nth r i) q v, rk_mix_ok hv, rk_mix_inst hq hm hv, fun j hj hne => ?_, ?_⟩
    · have h1 := hr (cf j) (rk_cols_mem.mpr ⟨j, hj, hne, rfl⟩)
      rw [(hcf j hj hne).1] at h1
      rw [rk_inst_congr (w := v) (fun x hx => ?_)]
      · exact h1
      · by_cases hx2 : rk_in (rk_nth r i) x
        · exact hin x hx2 ⟨hx2, Or.inr ⟨j, hj, hne, hx⟩⟩
        · exact rk_mix_off hx2
    · rw [← hz]
      refine rk_inst_congr (fun x hx => ?_)
      by_cases hx2 : rk_in (rk_nth r i) x
      · exact hin x hx2 ⟨hx2, Or.inl hx⟩
      · exact rk_mix_off hx2
  · rintro ⟨v, hv, hvq, hr, hz⟩
    refine ⟨v, hv, fun x hx => ?_, fun c hc => ?_, hz⟩
    · obtain ⟨j, hj, e⟩ := (rk_shm_tb.mp hx).1
      rw [hu j x hj e hx]
      exact (rk_dg_inst hv hvq hj e).symm
    · obtain ⟨j, h1, h2, rfl⟩ := rk_cols_mem.mp hc
      rw [(hcf j h1 h2).1]
      exact hr j h1 h2
end
section
/-! rows for arrays of natural numbers; the static table of shifts; frozen cells beside an overlay -/
section RW1
variable {p : Program} {l : Launch} {e : Env} {R : Room} {s : State} {m : MethodId} {args : Array Value} {below : List Frame} {meth : Method} {c : Code} {H : Heap} {locs : List Loc} {cells slots : Nat} {Q : State → Prop}
variable {cc : ByteArray} {pc nL : Nat} {ls : Array Slot} {rest : List Value} {D : va_G} {cl : List vw_C} {A : Nat → Prop} {a : Nat} {tys : List (ClassId × FieldType)} {M : mw_M} {Ts : List Cond} {own : String}
theorem mw_nald (J : CallFix p m c cc nL s args Ts own) (hK : va_K D cl tys s) (hP : mw_P D cl M A H) (t0 : Nat) {cA : ClassId} {n k : Nat} {f : Nat → Nat} (ha : M a = some (.inl (cA, n, .inl (rk_nf f)))) (ht : tys[t0]? = some (cA, .int)) (hk : k < n) (hn : n < 2 ^ 31) (hdg : decode cc pc = .ok (.iaload, 1))
    (kk : W p l e R s m args below meth c H locs cells slots Q (F0 m (pc + 1) ls (.int (nI (f k)) :: rest))) : W p l e R s m args below meth c H locs cells slots Q (F0 m pc ls (.int (nI k) :: .ref a :: rest)) :=
  mw_ialdN J hK hP t0 ha ht hk hn hdg kk
theorem mw_nast (J : CallFix p m c cc nL s args Ts own) (hK : va_K D cl tys s) (hP : mw_P D cl M A H) (hS : va_S A s.heap H locs) (t0 : Nat) {cA : ClassId} {n k x : Nat} {f : Nat → Nat} (ha : M a = some (.inl (cA, n, .inl (rk_nf f)))) (ht : tys[t0]? = some (cA, .int)) (hk : k < n) (hn : n < 2 ^ 31) (hdg : decode cc pc = .ok (.iastore, 1))
    (kk : ∀ (H1 : Heap) (locs1 : List Loc), mw_P D cl (va_up M a (some (.inl (cA, n, .inl (rk_nf (va_up f k x)))))) A H1 → va_S A s.heap H1 locs1 → W p l e R s m args below meth c H1 locs1 cells slots Q (F0 m (pc + 1) ls rest)) : W p l e R s m args below meth c H locs cells slots Q (F0 m pc ls (.int (nI x) :: .int (nI k) :: .ref a :: rest)) :=
  mw_iastN J hK hP hS t0 ha ht hk hn hdg (by rw [rk_nf_upd]; exact kk)
end RW1
/-- the table of shifts -/
def rk_sht (j : Nat) : Value := .int (rk_shift j)
abbrev k_g (tS : Nat) : mw_G := ([("RuleKeeper", "SHIFTS", "[I", tS, 3, rk_sht)], ["RuleKeeper$Column", "RuleKeeper$Pattern", "RuleKeeper$Rule"], [("RuleKeeper$Pattern", 18, "RuleKeeper", "SHIFTS", "[I", "RuleKeeper")])
abbrev k_tys (cI cZ cP cR cC : ClassId) : List (ClassId × FieldType) := [(cI, .int), (cZ, .boolean), (cP, .object "RuleKeeper$Pattern"), (cR, .object "RuleKeeper$Rule"), (cC, .object "RuleKeeper$Column")]
/-- a cell beside the overlay -/
theorem mw_ov_fr {M : mw_M} {ad : Nat → Nat} {c : Nat → va_E} {n q : Nat} {e : va_E} (hn : ∀ i, i < n → M (ad i) = none) (h : M q = some e) : mw_ov M ad c n q = some e := by
  rw [mw_ov_off (fun i hi z => by rw [← z, hn i hi] at h; cases h)]
  exact h
end
section
/-! Marks: a set of codes, a bit for each -/
set_option maxHeartbeats 4000000 in
set_option maxRecDepth 100000 in
theorem c_Mk_has (l : Launch) (D : va_G) (cI cZ cP cR cC : ClassId) (tS : Nat) (sz : Nat) (M : mw_M) (a b : Nat) (w : Nat → Int32) (S : Nat → Bool) (k : Nat) (hk : k < 32768) (hW : rk_W w S) (h0 : M a = some (.inr (0, [.ref b]))) (h1 : M b = some (.inl (cI, 1024, .inl w))) :
    Met l y_Mk_has (.code y_Mk_has b_Mk_has 2 (some .boolean) :: gw) ({ frames := 0, cells := 0, slots := 0, locals := 0 }) (va_Pc [.ref a, .int (nI k)] (mw_B D k_cl (k_tys cI cZ cP cR cC) (k_g tS) M sz)) (va_Qi (fun (r : Int32) (M1 : mw_M) => M1 = M ∧ r = if S k = true then 1 else 0) (mw_E D k_cl M sz) (mw_A M sz)) 0 0 (mw_A M sz) := by
  refine mw_met (by decide) rfl (Nat.le_of_ble_eq_true rfl) ?_
  intro p e s m below meth c hsz J hr hlk hnm hK hZ hP hS hA ls hl
  subst hsz
  have hx := J.1
  have hb := J.2.1
  have hts := J.2.2.2.2
  have hl : lv_has ls 2 [(0, .ref a), (1, .int (nI k))] := hl
  refine lv_aload_n hx hb d_Mk_has_0 rfl (lv_at hl 0 rfl) ?_
  refine mw_get (v := .ref b) (ci := 0) (C := R_Mk) (T := T_Mk) (N := 1) J i_Mk hK hP h0 rfl 0 (by decide) (hts _ k_36) (fun _ h9 => h9) rfl d_Mk_has_1 ?_
  refine lv_iload_n hx hb d_Mk_has_4 rfl (lv_at hl 1 rfl) ?_
  refine lv_iconst (v := 5) hx hb d_Mk_has_5 (by decide) ?_
  refine lv_ishr hx hb d_Mk_has_6 ?_
  refine mw_top (x' := nI (k / 32)) (rk_shr5 (by omega)) ?_
  refine lv_sipush (v := 1023) hx hb d_Mk_has_7 (by decide) ?_
  refine lv_iand hx hb d_Mk_has_10 ?_
  refine mw_top (x' := nI (k / 32)) (rk_word hk) ?_
  refine mw_ialdN (k := (k / 32)) J hK hP 0 h1 rfl (by omega) (by omega) d_Mk_has_11 ?_
  refine lv_iconst (v := 1) hx hb d_Mk_has_12 (by decide) ?_
  refine lv_iload_n hx hb d_Mk_has_13 rfl (lv_at hl 1 rfl) ?_
  refine lv_bipush (v := 31) hx hb d_Mk_has_14 (by decide) ?_
  refine lv_iand hx hb d_Mk_has_16 ?_
  refine mw_top (x' := nI (k % 32)) (rk_and31 (by omega)) ?_
  refine lv_ishl hx hb d_Mk_has_17 ?_
  refine lv_iand hx hb d_Mk_has_18 ?_
  refine lv_if_eq (tgt := 26) hx hb d_Mk_has_19 (by decide) (fun c_19 => ?_) (fun c_19 => ?_)
  · have e : S k = false := (rk_W_has hW hk).mp c_19
    refine lv_iconst (v := 0) hx hb d_Mk_has_26 (by decide) ?_
    exact mw_zret J hr hlk rfl hP hS d_Mk_has_27 (⟨rfl, by rw [e]; rfl⟩)
  · have e : S k = true := by
      cases z : S k
      · exact absurd ((rk_W_has hW hk).mpr z) c_19
      · rfl
    refine lv_iconst (v := 1) hx hb d_Mk_has_22 (by decide) ?_
    refine lv_goto (tgt := 27) hx hb d_Mk_has_23 (by decide) ?_
    exact mw_zret J hr hlk rfl hP hS d_Mk_has_27 (⟨rfl, by rw [e]; rfl⟩)

set_option maxHeartbeats 4000000 in
set_option maxRecDepth 100000 in
theorem c_Mk_put (l : Launch) (D : va_G) (cI cZ cP cR cC : ClassId) (tS : Nat) (sz : Nat) (M : mw_M) (a b : Nat) (w : Nat → Int32) (S : Nat → Bool) (k : Nat) (hk : k < 32768) (hW : rk_W w S) (h0 : M a = some (.inr (0, [.ref b]))) (h1 : M b = some (.inl (cI, 1024, .inl w))) :
    Met l y_Mk_put (.code y_Mk_put b_Mk_put 2 none :: gw) ({ frames := 0, cells := 0, slots := 0, locals := 0 }) (va_Pc [.ref a, .int (nI k)] (mw_B D k_cl (k_tys cI cZ cP cR cC) (k_g tS) M sz)) (va_Qv (fun (M1 : mw_M) => ∃ w1, rk_W w1 (va_up S k true) ∧ M1 = va_up M b (some (.inl (cI, 1024, .inl w1)))) (mw_E D k_cl M sz) (mw_A M sz)) 0 0 (mw_A M sz) := by
  refine mw_met (by decide) rfl (Nat.le_of_ble_eq_true rfl) ?_
  intro p e s m below meth c hsz J hr hlk hnm hK hZ hP hS hA ls hl
  subst hsz
  have hx := J.1
  have hb := J.2.1
  have hts := J.2.2.2.2
  have hl : lv_has ls 2 [(0, .ref a), (1, .int (nI k))] := hl
  have hne : b ≠ a := mw_ne h1 h0 (by simp)
  refine lv_aload_n hx hb d_Mk_put_0 rfl (lv_at hl 0 rfl) ?_
  refine mw_get (v := .ref b) (ci := 0) (C := R_Mk) (T := T_Mk) (N := 1) J i_Mk hK hP h0 rfl 0 (by decide) (hts _ k_36) (fun _ h9 => h9) rfl d_Mk_put_1 ?_
  refine lv_iload_n hx hb d_Mk_put_4 rfl (lv_at hl 1 rfl) ?_
  refine lv_iconst (v := 5) hx hb d_Mk_put_5 (by decide) ?_
  refine lv_ishr hx hb d_Mk_put_6 ?_
  refine mw_top (x' := nI (k / 32)) (rk_shr5 (by omega)) ?_
  refine lv_sipush (v := 1023) hx hb d_Mk_put_7 (by decide) ?_
  refine lv_iand hx hb d_Mk_put_10 ?_
  refine mw_top (x' := nI (k / 32)) (rk_word hk) ?_
  refine lv_dup2_11 hx hb d_Mk_put_11 rfl rfl ?_
  refine mw_ialdN (k := (k / 32)) J hK hP 0 h1 rfl (by omega) (by omega) d_Mk_put_12 ?_
  refine lv_iconst (v := 1) hx hb d_Mk_put_13 (by decide) ?_
  refine lv_iload_n hx hb d_Mk_put_14 rfl (lv_at hl 1 rfl) ?_
  refine lv_bipush (v := 31) hx hb d_Mk_put_15 (by decide) ?_
  refine lv_iand hx hb d_Mk_put_17 ?_
  refine mw_top (x' := nI (k % 32)) (rk_and31 (by omega)) ?_
  refine lv_ishl hx hb d_Mk_put_18 ?_
  refine lv_ior hx hb d_Mk_put_19 ?_
  refine mw_iastN (k := (k / 32)) J hK hP hS 0 h1 rfl (by omega) (by omega) d_Mk_put_20 (fun H locs hP hS => ?_)
  have hP : mw_P D k_cl (va_up M b (some (.inl (cI, 1024, .inl (upd w (k / 32) ((w (k / 32)) ||| (1 <<< ((nI (k % 32)) &&& 31)))))))) _ H := hP
  exact mw_vret J hr hlk hP hS d_Mk_put_21 (⟨_, rk_W_put hW hk, rfl⟩)

set_option maxHeartbeats 4000000 in
set_option maxRecDepth 100000 in
theorem c_Mk_drop (l : Launch) (D : va_G) (cI cZ cP cR cC : ClassId) (tS : Nat) (sz : Nat) (M : mw_M) (a b : Nat) (w : Nat → Int32) (S : Nat → Bool) (k : Nat) (hk : k < 32768) (hW : rk_W w S) (h0 : M a = some (.inr (0, [.ref b]))) (h1 : M b = some (.inl (cI, 1024, .inl w))) :
    Met l y_Mk_drop (.code y_Mk_drop b_Mk_drop 2 none :: gw) ({ frames := 0, cells := 0, slots := 0, locals := 0 }) (va_Pc [.ref a, .int (nI k)] (mw_B D k_cl (k_tys cI cZ cP cR cC) (k_g tS) M sz)) (va_Qv (fun (M1 : mw_M) => ∃ w1, rk_W w1 (va_up S k false) ∧ M1 = va_up M b (some (.inl (cI, 1024, .inl w1)))) (mw_E D k_cl M sz) (mw_A M sz)) 0 0 (mw_A M sz) := by
  refine mw_met (by decide) rfl (Nat.le_of_ble_eq_true rfl) ?_
  intro p e s m below meth c hsz J hr hlk hnm hK hZ hP hS hA ls hl
  subst hsz
  have hx := J.1
  have hb := J.2.1
  have hts := J.2.2.2.2
  have hl : lv_has ls 2 [(0, .ref a), (1, .int (nI k))] := hl
  have hne : b ≠ a := mw_ne h1 h0 (by simp)
  refine lv_aload_n hx hb d_Mk_drop_0 rfl (lv_at hl 0 rfl) ?_
  refine mw_get (v := .ref b) (ci := 0) (C := R_Mk) (T := T_Mk) (N := 1) J i_Mk hK hP h0 rfl 0 (by decide) (hts _ k_36) (fun _ h9 => h9) rfl d_Mk_drop_1 ?_
  refine lv_iload_n hx hb d_Mk_drop_4 rfl (lv_at hl 1 rfl) ?_
  refine lv_iconst (v := 5) hx hb d_Mk_drop_5 (by decide) ?_
  refine lv_ishr hx hb d_Mk_drop_6 ?_
  refine mw_top (x' := nI (k / 32)) (rk_shr5 (by omega)) ?_
  refine lv_sipush (v := 1023) hx hb d_Mk_drop_7 (by decide) ?_
  refine lv_iand hx hb d_Mk_drop_10 ?_
  refine mw_top (x' := nI (k / 32)) (rk_word hk) ?_
  refine lv_dup2_11 hx hb d_Mk_drop_11 rfl rfl ?_
  refine mw_ialdN (k := (k / 32)) J hK hP 0 h1 rfl (by omega) (by omega) d_Mk_drop_12 ?_
  refine lv_iconst (v := 1) hx hb d_Mk_drop_13 (by decide) ?_
  refine lv_iload_n hx hb d_Mk_drop_14 rfl (lv_at hl 1 rfl) ?_
  refine lv_bipush (v := 31) hx hb d_Mk_drop_15 (by decide) ?_
  refine lv_iand hx hb d_Mk_drop_17 ?_
  refine mw_top (x' := nI (k % 32)) (rk_and31 (by omega)) ?_
  refine lv_ishl hx hb d_Mk_drop_18 ?_
  refine lv_iconst (v := (-1)) hx hb d_Mk_drop_19 (by decide) ?_
  refine lv_ixor hx hb d_Mk_drop_20 ?_
  refine lv_iand hx hb d_Mk_drop_21 ?_
  refine mw_iastN (k := (k / 32)) J hK hP hS 0 h1 rfl (by omega) (by omega) d_Mk_drop_22 (fun H locs hP hS => ?_)
  have hP : mw_P D k_cl (va_up M b (some (.inl (cI, 1024, .inl (upd w (k / 32) ((w (k / 32)) &&& ((1 <<< ((nI (k % 32)) &&& 31)) ^^^ (-1)))))))) _ H := hP
  exact mw_vret J hr hlk hP hS d_Mk_drop_23 (⟨_, rk_W_drop hW hk, rfl⟩)
end
section
/-! patterns as they stand in cells -/
def rk_num (P : rk_Pt) (j : Nat) : Bool := decide (rk_at P j < 32)
def rk_eqi (P : rk_Pt) (i j : Nat) : Int32 := if rk_at P i = rk_at P j then 1 else 0
theorem rk_eqi_0 {P : rk_Pt} {i j : Nat} (h : rk_eqi P i j = 0) : ¬ rk_at P i = rk_at P j := fun e => by
  unfold rk_eqi at h
  rw [if_pos e] at h
  exact absurd h (by decide)
theorem rk_eqi_1 {P : rk_Pt} {i j : Nat} (h : ¬ rk_eqi P i j = 0) : rk_at P i = rk_at P j := Classical.byContradiction fun e => h (by
  unfold rk_eqi
  rw [if_neg e])
/-- the fields of a pattern whose arrays stand at b and q -/
def k_pf (P : rk_Pt) (b q : Nat) : List Value := [.ref b, .ref q, .int (nI (rk_vars P)), .int (nI (rk_m (rk_num P))), .int (nI (rk_v (rk_num P) (rk_at P))), .int (rk_eqi P 0 1), .int (rk_eqi P 0 2), .int (rk_eqi P 1 2)]
/-- the pattern P stands at a -/
def k_pat (cI : ClassId) (M : mw_M) (a : Nat) (P : rk_Pt) : Prop :=
  rk_okP P ∧ ∃ (b q : Nat) (fb fq : Nat → Nat), M a = some (.inr (2, k_pf P b q)) ∧ M b = some (.inl (cI, 3, .inl (rk_nf fb))) ∧ M q = some (.inl (cI, 3, .inl (rk_nf fq))) ∧ (∀ j, j < 3 → fb j = rk_bits P j) ∧ ∀ j, j < 3 → fq j = rk_slots P j
theorem k_pat_mono {cI : ClassId} {M M1 : mw_M} {a : Nat} {P : rk_Pt} (h : k_pat cI M a P) (hM : ∀ q e, M q = some e → M1 q = some e) : k_pat cI M1 a P := by
  obtain ⟨h0, b, q, fb, fq, h1, h2, h3, h4⟩ := h
  exact ⟨h0, b, q, fb, fq, hM _ _ h1, hM _ _ h2, hM _ _ h3, h4⟩
theorem va_uu {M : mw_M} {a : Nat} {x y : Option va_E} : va_up (va_up M a x) a y = va_up M a y := by
  funext q
  by_cases h : q = a
  · rw [h, va_up_self, va_up_self]
  · rw [va_up_ne _ _ h, va_up_ne _ _ h, va_up_ne _ _ h]
theorem va_up_id {M : mw_M} {a : Nat} {x : Option va_E} (h : M a = x) : va_up M a x = M := by
  funext q
  by_cases e : q = a
  · rw [e, va_up_self, h]
  · rw [va_up_ne _ _ e]
def rk_agP (P : rk_Pt) (k : Nat) : Prop := ∀ i j, i < 3 → j < 3 → rk_at P i = rk_at P j → rk_dg k i = rk_dg k j
theorem rk_agP_of {P : rk_Pt} {k : Nat} (h1 : rk_at P 0 = rk_at P 1 → rk_dg k 0 = rk_dg k 1) (h2 : rk_at P 0 = rk_at P 2 → rk_dg k 0 = rk_dg k 2) (h3 : rk_at P 1 = rk_at P 2 → rk_dg k 1 = rk_dg k 2) : rk_agP P k := by
  intro i j hi hj e
  rcases (show i = 0 ∨ i = 1 ∨ i = 2 by omega) with rfl | rfl | rfl <;> rcases (show j = 0 ∨ j = 1 ∨ j = 2 by omega) with rfl | rfl | rfl
  · rfl
  · exact h1 e
  · exact h2 e
  · exact (h1 e.symm).symm
  · rfl
  · exact h3 e
  · exact (h2 e.symm).symm
  · exact (h3 e.symm).symm
  · rfl
theorem rk_num_lt {P : rk_Pt} : rk_v (rk_num P) (rk_at P) < 32768 := by
  have e : rk_v (rk_num P) (rk_at P) = rk_v (rk_num P) (fun j => if rk_num P j then rk_at P j else 0) := by
    unfold rk_v
    cases g0 : rk_num P 0 <;> cases g1 : rk_num P 1 <;> cases g2 : rk_num P 2 <;> simp [g0, g1, g2]
  rw [e]
  refine rk_v_lt (fun j hj => ?_)
  unfold rk_num
  by_cases h : rk_at P j < 32
  · simp [h]
  · simp [h]
theorem rk_num_sel {P : rk_Pt} {k : Nat} (hk : k < 32768) : k &&& rk_m (rk_num P) = rk_v (rk_num P) (rk_at P) ↔ ∀ j, j < 3 → rk_at P j < 32 → rk_dg k j = rk_at P j := by
  have e : rk_v (rk_num P) (rk_at P) = rk_v (rk_num P) (fun j => if rk_num P j then rk_at P j else 0) := by
    unfold rk_v
    cases g0 : rk_num P 0 <;> cases g1 : rk_num P 1 <;> cases g2 : rk_num P 2 <;> simp [g0, g1, g2]
  rw [e, rk_sel hk (fun j hj => by
    unfold rk_num
    by_cases h : rk_at P j < 32
    · simp [h]
    · simp [h])]
  constructor
  · intro h j hj hn
    have := h j hj (by simp [rk_num, hn])
    simpa [rk_num, hn] using this
  · intro h j hj hn
    have hn' : rk_at P j < 32 := by simpa [rk_num] using hn
    simpa [rk_num, hn'] using h j hj hn'
def rk_fits (P : rk_Pt) (k : Nat) : Prop := rk_mt P (fun _ => false) (fun _ => 0) k
theorem rk_fits_iff {P : rk_Pt} {k : Nat} (hk : k < 32768) : rk_fits P k ↔ k &&& rk_m (rk_num P) = rk_v (rk_num P) (rk_at P) ∧ rk_agP P k := by
  rw [rk_num_sel hk]
  constructor
  · rintro ⟨h1, -, h3⟩
    exact ⟨h1, h3⟩
  · rintro ⟨h1, h3⟩
    exact ⟨h1, (fun j hj h h' => by cases h'), h3⟩

set_option maxHeartbeats 4000000 in
set_option maxRecDepth 100000 in
theorem c_Pt_agrees (l : Launch) (D : va_G) (cI cZ cP cR cC : ClassId) (tS : Nat) (sz : Nat) (M : mw_M) (a : Nat) (P : rk_Pt) (hp : k_pat cI M a P) (k : Nat) (hk : k < 32768) :
    Met l y_Pt_agrees (.code y_Pt_agrees b_Pt_agrees 5 (some .boolean) :: gw) ({ frames := 0, cells := 0, slots := 0, locals := 0 }) (va_Pc [.ref a, .int (nI k)] (mw_B D k_cl (k_tys cI cZ cP cR cC) (k_g tS) M sz)) (va_Qi (fun (r : Int32) (M1 : mw_M) => M1 = M ∧ ((r = 1 ∧ rk_agP P k) ∨ (r = 0 ∧ ¬ rk_agP P k))) (mw_E D k_cl M sz) (mw_A M sz)) 0 0 (mw_A M sz) := by
  refine mw_met (by decide) rfl (Nat.le_of_ble_eq_true rfl) ?_
  intro p e s m below meth c hsz J hr hlk hnm hK hZ hP hS hA ls hl
  subst hsz
  have hx := J.1
  have hb := J.2.1
  have hts := J.2.2.2.2
  have hl : lv_has ls 5 [(0, .ref a), (1, .int (nI k))] := hl
  obtain ⟨hok, b, q, fb, fq, h1, h2, h3, hfb, hfq⟩ := hp
  refine lv_iload_n hx hb d_Pt_agrees_0 rfl (lv_at hl 1 rfl) ?_
  refine lv_bipush (v := 10) hx hb d_Pt_agrees_1 (by decide) ?_
  refine lv_ishr hx hb d_Pt_agrees_3 ?_
  refine mw_top (x' := nI (rk_dg k 0)) (by rw [rk_dg0 hk]; exact rk_shr10 (by omega)) ?_
  refine lv_istore_n (lv' := [(2, .int (nI (rk_dg k 0))), (0, .ref a), (1, .int (nI k))]) hx hb d_Pt_agrees_4 rfl hl (by decide) rfl (fun ls hl => ?_)
  refine lv_iload_n hx hb d_Pt_agrees_5 rfl (lv_at hl 2 rfl) ?_
  refine lv_iconst (v := 5) hx hb d_Pt_agrees_6 (by decide) ?_
  refine lv_ishr hx hb d_Pt_agrees_7 ?_
  refine mw_top (x' := nI (k / 32)) (rk_shr5 (by omega)) ?_
  refine lv_bipush (v := 31) hx hb d_Pt_agrees_8 (by decide) ?_
  refine lv_iand hx hb d_Pt_agrees_10 ?_
  refine mw_top (x' := nI (rk_dg k 1)) (rk_and31 (by omega)) ?_
  refine lv_istore_n (lv' := [(3, .int (nI (rk_dg k 1))), (2, .int (nI (rk_dg k 0))), (0, .ref a), (1, .int (nI k))]) hx hb d_Pt_agrees_11 rfl hl (by decide) rfl (fun ls hl => ?_)
  refine lv_iload_n hx hb d_Pt_agrees_12 rfl (lv_at hl 3 rfl) ?_
  refine lv_bipush (v := 31) hx hb d_Pt_agrees_13 (by decide) ?_
  refine lv_iand hx hb d_Pt_agrees_15 ?_
  refine mw_top (x' := nI (rk_dg k 2)) (by rw [rk_dg2]; exact rk_and31 (by omega)) ?_
  refine lv_istore (lv' := [(4, .int (nI (rk_dg k 2))), (3, .int (nI (rk_dg k 1))), (2, .int (nI (rk_dg k 0))), (0, .ref a), (1, .int (nI k))]) hx hb d_Pt_agrees_16 hl (by decide) rfl (fun ls hl => ?_)
  refine lv_aload_n hx hb d_Pt_agrees_18 rfl (lv_at hl 3 rfl) ?_
  refine mw_get (v := .int (rk_eqi P 0 1)) (ci := 2) (C := R_Pt) (T := T_Pt) (N := 8) J i_Pt hK hP h1 rfl 5 (by decide) (hts _ k_84) (fun _ h9 => h9) rfl d_Pt_agrees_19 ?_
  refine lv_if_eq (tgt := 30) hx hb d_Pt_agrees_22 (by decide) (fun c_22 => ?_) (fun c_22 => ?_)
  · have g01 : rk_at P 0 = rk_at P 1 → rk_dg k 0 = rk_dg k 1 := fun z => absurd z (rk_eqi_0 c_22)
    refine lv_aload_n hx hb d_Pt_agrees_30 rfl (lv_at hl 3 rfl) ?_
    refine mw_get (v := .int (rk_eqi P 0 2)) (ci := 2) (C := R_Pt) (T := T_Pt) (N := 8) J i_Pt hK hP h1 rfl 6 (by decide) (hts _ k_85) (fun _ h9 => h9) rfl d_Pt_agrees_31 ?_
    refine lv_if_eq (tgt := 43) hx hb d_Pt_agrees_34 (by decide) (fun c_34 => ?_) (fun c_34 => ?_)
    · have g02 : rk_at P 0 = rk_at P 2 → rk_dg k 0 = rk_dg k 2 := fun z => absurd z (rk_eqi_0 c_34)
      refine lv_aload_n hx hb d_Pt_agrees_43 rfl (lv_at hl 3 rfl) ?_
      refine mw_get (v := .int (rk_eqi P 1 2)) (ci := 2) (C := R_Pt) (T := T_Pt) (N := 8) J i_Pt hK hP h1 rfl 7 (by decide) (hts _ k_86) (fun _ h9 => h9) rfl d_Pt_agrees_44 ?_
      refine lv_if_eq (tgt := 56) hx hb d_Pt_agrees_47 (by decide) (fun c_47 => ?_) (fun c_47 => ?_)
      · have g12 : rk_at P 1 = rk_at P 2 → rk_dg k 1 = rk_dg k 2 := fun z => absurd z (rk_eqi_0 c_47)
        refine lv_iconst (v := 1) hx hb d_Pt_agrees_56 (by decide) ?_
        refine lv_goto (tgt := 61) hx hb d_Pt_agrees_57 (by decide) ?_
        exact mw_zret J hr hlk rfl hP hS d_Pt_agrees_61 (⟨rfl, Or.inl ⟨rfl, rk_agP_of g01 g02 g12⟩⟩)
      · refine lv_iload_n hx hb d_Pt_agrees_50 rfl (lv_at hl 1 rfl) ?_
        refine lv_iload hx hb d_Pt_agrees_51 (lv_at hl 0 rfl) ?_
        refine lv_icmp_ne (tgt := 60) hx hb d_Pt_agrees_53 (by decide) (fun c_53 => ?_) (fun c_53 => ?_)
        · have c_53 : ¬ ((rk_dg k 1) = (rk_dg k 2)) := fun z => c_53 ((nI_eq (Nat.lt_trans (rk_dg_lt k 1) (by decide)) (Nat.lt_trans (rk_dg_lt k 2) (by decide))).mpr z)
          have hn : ¬ rk_agP P k := fun z => c_53 (z 1 2 (by omega) (by omega) (rk_eqi_1 c_47))
          refine lv_iconst (v := 0) hx hb d_Pt_agrees_60 (by decide) ?_
          exact mw_zret J hr hlk rfl hP hS d_Pt_agrees_61 (⟨rfl, Or.inr ⟨rfl, hn⟩⟩)
        · have c_53 : (rk_dg k 1) = (rk_dg k 2) := (nI_eq (Nat.lt_trans (rk_dg_lt k 1) (by decide)) (Nat.lt_trans (rk_dg_lt k 2) (by decide))).mp c_53
          have g12 : rk_at P 1 = rk_at P 2 → rk_dg k 1 = rk_dg k 2 := fun _ => c_53
          refine lv_iconst (v := 1) hx hb d_Pt_agrees_56 (by decide) ?_
          refine lv_goto (tgt := 61) hx hb d_Pt_agrees_57 (by decide) ?_
          exact mw_zret J hr hlk rfl hP hS d_Pt_agrees_61 (⟨rfl, Or.inl ⟨rfl, rk_agP_of g01 g02 g12⟩⟩)
    · refine lv_iload_n hx hb d_Pt_agrees_37 rfl (lv_at hl 2 rfl) ?_
      refine lv_iload hx hb d_Pt_agrees_38 (lv_at hl 0 rfl) ?_
      refine lv_icmp_ne (tgt := 60) hx hb d_Pt_agrees_40 (by decide) (fun c_40 => ?_) (fun c_40 => ?_)
      · have c_40 : ¬ ((rk_dg k 0) = (rk_dg k 2)) := fun z => c_40 ((nI_eq (Nat.lt_trans (rk_dg_lt k 0) (by decide)) (Nat.lt_trans (rk_dg_lt k 2) (by decide))).mpr z)
        have hn : ¬ rk_agP P k := fun z => c_40 (z 0 2 (by omega) (by omega) (rk_eqi_1 c_34))
        refine lv_iconst (v := 0) hx hb d_Pt_agrees_60 (by decide) ?_
        exact mw_zret J hr hlk rfl hP hS d_Pt_agrees_61 (⟨rfl, Or.inr ⟨rfl, hn⟩⟩)
      · have c_40 : (rk_dg k 0) = (rk_dg k 2) := (nI_eq (Nat.lt_trans (rk_dg_lt k 0) (by decide)) (Nat.lt_trans (rk_dg_lt k 2) (by decide))).mp c_40
        have g02 : rk_at P 0 = rk_at P 2 → rk_dg k 0 = rk_dg k 2 := fun _ => c_40
        refine lv_aload_n hx hb d_Pt_agrees_43 rfl (lv_at hl 3 rfl) ?_
        refine mw_get (v := .int (rk_eqi P 1 2)) (ci := 2) (C := R_Pt) (T := T_Pt) (N := 8) J i_Pt hK hP h1 rfl 7 (by decide) (hts _ k_86) (fun _ h9 => h9) rfl d_Pt_agrees_44 ?_
        refine lv_if_eq (tgt := 56) hx hb d_Pt_agrees_47 (by decide) (fun c_47 => ?_) (fun c_47 => ?_)
        · have g12 : rk_at P 1 = rk_at P 2 → rk_dg k 1 = rk_dg k 2 := fun z => absurd z (rk_eqi_0 c_47)
          refine lv_iconst (v := 1) hx hb d_Pt_agrees_56 (by decide) ?_
          refine lv_goto (tgt := 61) hx hb d_Pt_agrees_57 (by decide) ?_
          exact mw_zret J hr hlk rfl hP hS d_Pt_agrees_61 (⟨rfl, Or.inl ⟨rfl, rk_agP_of g01 g02 g12⟩⟩)
        · refine lv_iload_n hx hb d_Pt_agrees_50 rfl (lv_at hl 1 rfl) ?_
          refine lv_iload hx hb d_Pt_agrees_51 (lv_at hl 0 rfl) ?_
          refine lv_icmp_ne (tgt := 60) hx hb d_Pt_agrees_53 (by decide) (fun c_53 => ?_) (fun c_53 => ?_)
          · have c_53 : ¬ ((rk_dg k 1) = (rk_dg k 2)) := fun z => c_53 ((nI_eq (Nat.lt_trans (rk_dg_lt k 1) (by decide)) (Nat.lt_trans (rk_dg_lt k 2) (by decide))).mpr z)
            have hn : ¬ rk_agP P k := fun z => c_53 (z 1 2 (by omega) (by omega) (rk_eqi_1 c_47))
            refine lv_iconst (v := 0) hx hb d_Pt_agrees_60 (by decide) ?_
            exact mw_zret J hr hlk rfl hP hS d_Pt_agrees_61 (⟨rfl, Or.inr ⟨rfl, hn⟩⟩)
          · have c_53 : (rk_dg k 1) = (rk_dg k 2) := (nI_eq (Nat.lt_trans (rk_dg_lt k 1) (by decide)) (Nat.lt_trans (rk_dg_lt k 2) (by decide))).mp c_53
            have g12 : rk_at P 1 = rk_at P 2 → rk_dg k 1 = rk_dg k 2 := fun _ => c_53
            refine lv_iconst (v := 1) hx hb d_Pt_agrees_56 (by decide) ?_
            refine lv_goto (tgt := 61) hx hb d_Pt_agrees_57 (by decide) ?_
            exact mw_zret J hr hlk rfl hP hS d_Pt_agrees_61 (⟨rfl, Or.inl ⟨rfl, rk_agP_of g01 g02 g12⟩⟩)
  · refine lv_iload_n hx hb d_Pt_agrees_25 rfl (lv_at hl 2 rfl) ?_
    refine lv_iload_n hx hb d_Pt_agrees_26 rfl (lv_at hl 1 rfl) ?_
    refine lv_icmp_ne (tgt := 60) hx hb d_Pt_agrees_27 (by decide) (fun c_27 => ?_) (fun c_27 => ?_)
    · have c_27 : ¬ ((rk_dg k 0) = (rk_dg k 1)) := fun z => c_27 ((nI_eq (Nat.lt_trans (rk_dg_lt k 0) (by decide)) (Nat.lt_trans (rk_dg_lt k 1) (by decide))).mpr z)
      have hn : ¬ rk_agP P k := fun z => c_27 (z 0 1 (by omega) (by omega) (rk_eqi_1 c_22))
      refine lv_iconst (v := 0) hx hb d_Pt_agrees_60 (by decide) ?_
      exact mw_zret J hr hlk rfl hP hS d_Pt_agrees_61 (⟨rfl, Or.inr ⟨rfl, hn⟩⟩)
    · have c_27 : (rk_dg k 0) = (rk_dg k 1) := (nI_eq (Nat.lt_trans (rk_dg_lt k 0) (by decide)) (Nat.lt_trans (rk_dg_lt k 1) (by decide))).mp c_27
      have g01 : rk_at P 0 = rk_at P 1 → rk_dg k 0 = rk_dg k 1 := fun _ => c_27
      refine lv_aload_n hx hb d_Pt_agrees_30 rfl (lv_at hl 3 rfl) ?_
      refine mw_get (v := .int (rk_eqi P 0 2)) (ci := 2) (C := R_Pt) (T := T_Pt) (N := 8) J i_Pt hK hP h1 rfl 6 (by decide) (hts _ k_85) (fun _ h9 => h9) rfl d_Pt_agrees_31 ?_
      refine lv_if_eq (tgt := 43) hx hb d_Pt_agrees_34 (by decide) (fun c_34 => ?_) (fun c_34 => ?_)
      · have g02 : rk_at P 0 = rk_at P 2 → rk_dg k 0 = rk_dg k 2 := fun z => absurd z (rk_eqi_0 c_34)
        refine lv_aload_n hx hb d_Pt_agrees_43 rfl (lv_at hl 3 rfl) ?_
        refine mw_get (v := .int (rk_eqi P 1 2)) (ci := 2) (C := R_Pt) (T := T_Pt) (N := 8) J i_Pt hK hP h1 rfl 7 (by decide) (hts _ k_86) (fun _ h9 => h9) rfl d_Pt_agrees_44 ?_
        refine lv_if_eq (tgt := 56) hx hb d_Pt_agrees_47 (by decide) (fun c_47 => ?_) (fun c_47 => ?_)
        · have g12 : rk_at P 1 = rk_at P 2 → rk_dg k 1 = rk_dg k 2 := fun z => absurd z (rk_eqi_0 c_47)
          refine lv_iconst (v := 1) hx hb d_Pt_agrees_56 (by decide) ?_
          refine lv_goto (tgt := 61) hx hb d_Pt_agrees_57 (by decide) ?_
          exact mw_zret J hr hlk rfl hP hS d_Pt_agrees_61 (⟨rfl, Or.inl ⟨rfl, rk_agP_of g01 g02 g12⟩⟩)
        · refine lv_iload_n hx hb d_Pt_agrees_50 rfl (lv_at hl 1 rfl) ?_
          refine lv_iload hx hb d_Pt_agrees_51 (lv_at hl 0 rfl) ?_
          refine lv_icmp_ne (tgt := 60) hx hb d_Pt_agrees_53 (by decide) (fun c_53 => ?_) (fun c_53 => ?_)
          · have c_53 : ¬ ((rk_dg k 1) = (rk_dg k 2)) := fun z => c_53 ((nI_eq (Nat.lt_trans (rk_dg_lt k 1) (by decide)) (Nat.lt_trans (rk_dg_lt k 2) (by decide))).mpr z)
            have hn : ¬ rk_agP P k := fun z => c_53 (z 1 2 (by omega) (by omega) (rk_eqi_1 c_47))
            refine lv_iconst (v := 0) hx hb d_Pt_agrees_60 (by decide) ?_
            exact mw_zret J hr hlk rfl hP hS d_Pt_agrees_61 (⟨rfl, Or.inr ⟨rfl, hn⟩⟩)
          · have c_53 : (rk_dg k 1) = (rk_dg k 2) := (nI_eq (Nat.lt_trans (rk_dg_lt k 1) (by decide)) (Nat.lt_trans (rk_dg_lt k 2) (by decide))).mp c_53
            have g12 : rk_at P 1 = rk_at P 2 → rk_dg k 1 = rk_dg k 2 := fun _ => c_53
            refine lv_iconst (v := 1) hx hb d_Pt_agrees_56 (by decide) ?_
            refine lv_goto (tgt := 61) hx hb d_Pt_agrees_57 (by decide) ?_
            exact mw_zret J hr hlk rfl hP hS d_Pt_agrees_61 (⟨rfl, Or.inl ⟨rfl, rk_agP_of g01 g02 g12⟩⟩)
      · refine lv_iload_n hx hb d_Pt_agrees_37 rfl (lv_at hl 2 rfl) ?_
        refine lv_iload hx hb d_Pt_agrees_38 (lv_at hl 0 rfl) ?_
        refine lv_icmp_ne (tgt := 60) hx hb d_Pt_agrees_40 (by decide) (fun c_40 => ?_) (fun c_40 => ?_)
        · have c_40 : ¬ ((rk_dg k 0) = (rk_dg k 2)) := fun z => c_40 ((nI_eq (Nat.lt_trans (rk_dg_lt k 0) (by decide)) (Nat.lt_trans (rk_dg_lt k 2) (by decide))).mpr z)
          have hn : ¬ rk_agP P k := fun z => c_40 (z 0 2 (by omega) (by omega) (rk_eqi_1 c_34))
          refine lv_iconst (v := 0) hx hb d_Pt_agrees_60 (by decide) ?_
          exact mw_zret J hr hlk rfl hP hS d_Pt_agrees_61 (⟨rfl, Or.inr ⟨rfl, hn⟩⟩)
        · have c_40 : (rk_dg k 0) = (rk_dg k 2) := (nI_eq (Nat.lt_trans (rk_dg_lt k 0) (by decide)) (Nat.lt_trans (rk_dg_lt k 2) (by decide))).mp c_40
          have g02 : rk_at P 0 = rk_at P 2 → rk_dg k 0 = rk_dg k 2 := fun _ => c_40
          refine lv_aload_n hx hb d_Pt_agrees_43 rfl (lv_at hl 3 rfl) ?_
          refine mw_get (v := .int (rk_eqi P 1 2)) (ci := 2) (C := R_Pt) (T := T_Pt) (N := 8) J i_Pt hK hP h1 rfl 7 (by decide) (hts _ k_86) (fun _ h9 => h9) rfl d_Pt_agrees_44 ?_
          refine lv_if_eq (tgt := 56) hx hb d_Pt_agrees_47 (by decide) (fun c_47 => ?_) (fun c_47 => ?_)
          · have g12 : rk_at P 1 = rk_at P 2 → rk_dg k 1 = rk_dg k 2 := fun z => absurd z (rk_eqi_0 c_47)
            refine lv_iconst (v := 1) hx hb d_Pt_agrees_56 (by decide) ?_
            refine lv_goto (tgt := 61) hx hb d_Pt_agrees_57 (by decide) ?_
            exact mw_zret J hr hlk rfl hP hS d_Pt_agrees_61 (⟨rfl, Or.inl ⟨rfl, rk_agP_of g01 g02 g12⟩⟩)
          · refine lv_iload_n hx hb d_Pt_agrees_50 rfl (lv_at hl 1 rfl) ?_
            refine lv_iload hx hb d_Pt_agrees_51 (lv_at hl 0 rfl) ?_
            refine lv_icmp_ne (tgt := 60) hx hb d_Pt_agrees_53 (by decide) (fun c_53 => ?_) (fun c_53 => ?_)
            · have c_53 : ¬ ((rk_dg k 1) = (rk_dg k 2)) := fun z => c_53 ((nI_eq (Nat.lt_trans (rk_dg_lt k 1) (by decide)) (Nat.lt_trans (rk_dg_lt k 2) (by decide))).mpr z)
              have hn : ¬ rk_agP P k := fun z => c_53 (z 1 2 (by omega) (by omega) (rk_eqi_1 c_47))
              refine lv_iconst (v := 0) hx hb d_Pt_agrees_60 (by decide) ?_
              exact mw_zret J hr hlk rfl hP hS d_Pt_agrees_61 (⟨rfl, Or.inr ⟨rfl, hn⟩⟩)
            · have c_53 : (rk_dg k 1) = (rk_dg k 2) := (nI_eq (Nat.lt_trans (rk_dg_lt k 1) (by decide)) (Nat.lt_trans (rk_dg_lt k 2) (by decide))).mp c_53
              have g12 : rk_at P 1 = rk_at P 2 → rk_dg k 1 = rk_dg k 2 := fun _ => c_53
              refine lv_iconst (v := 1) hx hb d_Pt_agrees_56 (by decide) ?_
              refine lv_goto (tgt := 61) hx hb d_Pt_agrees_57 (by decide) ?_
              exact mw_zret J hr hlk rfl hP hS d_Pt_agrees_61 (⟨rfl, Or.inl ⟨rfl, rk_agP_of g01 g02 g12⟩⟩)

set_option maxHeartbeats 4000000 in
set_option maxRecDepth 100000 in
theorem c_Pt_fits (l : Launch) (D : va_G) (cI cZ cP cR cC : ClassId) (tS : Nat) (sz : Nat) (M : mw_M) (a : Nat) (P : rk_Pt) (hp : k_pat cI M a P) (k : Nat) (hk : k < 32768) :
    Met l y_Pt_fits (.code y_Pt_fits b_Pt_fits 2 (some .boolean) :: gw) ({ frames := 1, cells := 0, slots := 0, locals := 24 }) (va_Pc [.ref a, .int (nI k)] (mw_B D k_cl (k_tys cI cZ cP cR cC) (k_g tS) M sz)) (va_Qi (fun (r : Int32) (M1 : mw_M) => M1 = M ∧ ((r = 1 ∧ rk_fits P k) ∨ (r = 0 ∧ ¬ rk_fits P k))) (mw_E D k_cl M sz) (mw_A M sz)) 0 0 (mw_A M sz) := by
  refine mw_met (by decide) rfl (Nat.le_of_ble_eq_true rfl) ?_
  intro p e s m below meth c hsz J hr hlk hnm hK hZ hP hS hA ls hl
  subst hsz
  have hx := J.1
  have hb := J.2.1
  have hts := J.2.2.2.2
  have hl : lv_has ls 2 [(0, .ref a), (1, .int (nI k))] := hl
  have hp0 := hp
  obtain ⟨hok, b, q, fb, fq, h1, h2, h3, hfb, hfq⟩ := hp
  refine lv_iload_n hx hb d_Pt_fits_0 rfl (lv_at hl 1 rfl) ?_
  refine lv_aload_n hx hb d_Pt_fits_1 rfl (lv_at hl 0 rfl) ?_
  refine mw_get (v := .int (nI (rk_m (rk_num P)))) (ci := 2) (C := R_Pt) (T := T_Pt) (N := 8) J i_Pt hK hP h1 rfl 3 (by decide) (hts _ k_78) (fun _ h9 => h9) rfl d_Pt_fits_2 ?_
  refine lv_iand hx hb d_Pt_fits_5 ?_
  refine mw_top (x' := nI (k &&& rk_m (rk_num P))) (nx_and _ _) ?_
  refine lv_aload_n hx hb d_Pt_fits_6 rfl (lv_at hl 0 rfl) ?_
  refine mw_get (v := .int (nI (rk_v (rk_num P) (rk_at P)))) (ci := 2) (C := R_Pt) (T := T_Pt) (N := 8) J i_Pt hK hP h1 rfl 4 (by decide) (hts _ k_81) (fun _ h9 => h9) rfl d_Pt_fits_7 ?_
  refine lv_icmp_ne (tgt := 25) hx hb d_Pt_fits_10 (by decide) (fun c_10 => ?_) (fun c_10 => ?_)
  · have c_10 : ¬ ((k &&& rk_m (rk_num P)) = (rk_v (rk_num P) (rk_at P))) := fun z => c_10 ((nI_eq (Nat.lt_of_le_of_lt Nat.and_le_left (by omega)) (Nat.lt_trans rk_num_lt (by decide))).mpr z)
    have hn : ¬ rk_fits P k := fun z => c_10 ((rk_fits_iff hk).mp z).1
    refine lv_iconst (v := 0) hx hb d_Pt_fits_25 (by decide) ?_
    exact mw_zret J hr hlk rfl hP hS d_Pt_fits_26 (⟨rfl, Or.inr ⟨rfl, hn⟩⟩)
  · have c_10 : (k &&& rk_m (rk_num P)) = (rk_v (rk_num P) (rk_at P)) := (nI_eq (Nat.lt_of_le_of_lt Nat.and_le_left (by omega)) (Nat.lt_trans rk_num_lt (by decide))).mp c_10
    refine lv_aload_n hx hb d_Pt_fits_13 rfl (lv_at hl 0 rfl) ?_
    refine lv_iload_n hx hb d_Pt_fits_14 rfl (lv_at hl 1 rfl) ?_
    refine mw_afterI hP hS hA (mw_runV (As := [.int (nI k)]) (rest := []) J hK hZ hP hS hA h1 rfl (c_Pt_agrees l D cI cZ cP cR cC tS _ M a P hp0 k hk) (cwV 1 hts (mw_gV k_239 k_240 k_241 k_6 k_242) rfl rfl rfl (by decide +kernel) ⟨Nat.le_of_ble_eq_true rfl, Nat.le_of_ble_eq_true rfl⟩) rfl hl.1 rfl (Nat.le_of_ble_eq_true rfl) d_Pt_fits_15 ⟨Nat.le_of_ble_eq_true rfl, Nat.le_of_ble_eq_true rfl⟩) (fun r M1 H locs hw hP hS => ?_)
    obtain ⟨rfl, hw⟩ := hw
    refine lv_if_eq (tgt := 25) hx hb d_Pt_fits_18 (by decide) (fun c_18 => ?_) (fun c_18 => ?_)
    · have hn : ¬ rk_fits P k := fun z => by
        rcases hw with ⟨h, _⟩ | ⟨_, h⟩
        · rw [h] at c_18
          exact absurd c_18 (by decide)
        · exact h ((rk_fits_iff hk).mp z).2
      refine lv_iconst (v := 0) hx hb d_Pt_fits_25 (by decide) ?_
      exact mw_zret J hr hlk rfl hP hS d_Pt_fits_26 (⟨rfl, Or.inr ⟨rfl, hn⟩⟩)
    · have hy : rk_fits P k := (rk_fits_iff hk).mpr ⟨c_10, by
        rcases hw with ⟨_, h⟩ | ⟨h, _⟩
        · exact h
        · exact absurd h c_18⟩
      refine lv_iconst (v := 1) hx hb d_Pt_fits_21 (by decide) ?_
      refine lv_goto (tgt := 26) hx hb d_Pt_fits_22 (by decide) ?_
      exact mw_zret J hr hlk rfl hP hS d_Pt_fits_26 (⟨rfl, Or.inl ⟨rfl, hy⟩⟩)

set_option maxHeartbeats 4000000 in
set_option maxRecDepth 100000 in
theorem c_Pt_maskOf (l : Launch) (D : va_G) (cI cZ cP cR cC : ClassId) (tS : Nat) (sz : Nat) (M : mw_M) (a : Nat) (P : rk_Pt) (hp : k_pat cI M a P) (S : Nat) (hS8 : S < 256) :
    Met l y_Pt_maskOf (.code y_Pt_maskOf b_Pt_maskOf 4 (some .int) :: gw) ({ frames := 0, cells := 0, slots := 0, locals := 0 }) (va_Pc [.ref a, .int (nI S)] (mw_B D k_cl (k_tys cI cZ cP cR cC) (k_g tS) M sz)) (va_Qi (fun (r : Int32) (M1 : mw_M) => M1 = M ∧ r = nI (rk_m (rk_ink P (rk_tb S)))) (mw_E D k_cl M sz) (mw_A M sz)) 0 0 (mw_A M sz) := by
  refine mw_met (by decide) rfl (Nat.le_of_ble_eq_true rfl) ?_
  intro p e s m below meth c hsz J hr hlk hnm hK hZ hP hS hA ls hl
  subst hsz
  have hx := J.1
  have hb := J.2.1
  have hts := J.2.2.2.2
  have hl : lv_has ls 4 [(0, .ref a), (1, .int (nI S))] := hl
  obtain ⟨hok, b, q, fb, fq, h1, h2, h3, hfb, hfq⟩ := hp
  refine lv_iconst (v := 0) hx hb d_Pt_maskOf_0 (by decide) ?_
  refine mw_top (x' := nI (rk_m (rk_upto (rk_ink P (rk_tb S)) 0))) (by rw [rk_m_0, nI_0]) ?_
  refine lv_istore_n (lv' := [(2, .int (nI (rk_m (rk_upto (rk_ink P (rk_tb S)) 0)))), (0, .ref a), (1, .int (nI S))]) hx hb d_Pt_maskOf_1 rfl hl (by decide) rfl (fun ls hl => ?_)
  refine lv_iconst (v := 0) hx hb d_Pt_maskOf_2 (by decide) ?_
  refine mw_top (x' := nI 0) nI_0.symm ?_
  refine lv_istore_n (lv' := [(3, .int (nI 0)), (2, .int (nI (rk_m (rk_upto (rk_ink P (rk_tb S)) 0)))), (0, .ref a), (1, .int (nI S))]) hx hb d_Pt_maskOf_3 rfl hl (by decide) rfl (fun ls hl => ?_)
  refine mw_loop (W' := fun H locs ls => W p l e _ s m _ below meth c H locs _ _ _ (F0 m 4 ls [])) 3 (fun i H locs ls => lv_has ls 4 [(0, .ref a), (1, .int (nI S)), (2, .int (nI (rk_m (rk_upto (rk_ink P (rk_tb S)) i)))), (3, .int (nI i))] ∧ mw_P D k_cl M (mw_A M s.heap.size) H ∧ va_S (mw_A M s.heap.size) s.heap H locs) ?_ 3 0 (by omega) (by omega) _ _ _ ⟨lv_sub hl [2, 3, 1, 0] rfl, hP, hS⟩
  intro i H locs ls hi_4 hI ih_4
  obtain ⟨hl, hP, hS⟩ := hI
  refine lv_iload_n hx hb d_Pt_maskOf_4 rfl (lv_at hl 3 rfl) ?_
  refine lv_iconst (v := 3) hx hb d_Pt_maskOf_5 (by decide) ?_
  refine mw_top (x' := nI 3) rfl ?_
  refine lv_icmp_ge (tgt := 37) hx hb d_Pt_maskOf_6 (by decide) (fun c_6 => ?_) (fun c_6 => ?_)
  · have c_6 : 3 ≤ i := (nI_leI (by omega) (by omega)).mp c_6
    refine lv_iload_n hx hb d_Pt_maskOf_37 rfl (lv_at hl 2 rfl) ?_
    exact mw_iret J hr hlk hP hS d_Pt_maskOf_38 (⟨rfl, by rw [show i = 3 by omega, rk_m_3]⟩)
  · have c_6 : ¬ (3 ≤ i) := fun z => c_6 ((nI_leI (by omega) (by omega)).mpr z)
    refine lv_aload_n hx hb d_Pt_maskOf_9 rfl (lv_at hl 0 rfl) ?_
    refine mw_get (v := .ref b) (ci := 2) (C := R_Pt) (T := T_Pt) (N := 8) J i_Pt hK hP h1 rfl 0 (by decide) (hts _ k_72) (fun _ h9 => h9) rfl d_Pt_maskOf_10 ?_
    refine lv_iload_n hx hb d_Pt_maskOf_13 rfl (lv_at hl 3 rfl) ?_
    refine mw_nald (k := i) J hK hP 0 h2 rfl (by omega) (by omega) d_Pt_maskOf_14 ?_
    refine lv_iload_n hx hb d_Pt_maskOf_15 rfl (lv_at hl 1 rfl) ?_
    refine lv_iand hx hb d_Pt_maskOf_16 ?_
    refine mw_top (x' := nI (rk_bits P i &&& S)) (by rw [hfb i (by omega), nx_and]) ?_
    refine lv_if_eq (tgt := 31) hx hb d_Pt_maskOf_17 (by decide) (fun c_17 => ?_) (fun c_17 => ?_)
    · have hf : rk_ink P (rk_tb S) i = false := rk_bits_and.mp ((rk_nI0 (Nat.lt_of_le_of_lt Nat.and_le_right (by omega))).mp c_17)
      refine lv_iinc (v := nI (i + 1)) (lv' := [(3, .int (nI (i + 1))), (0, .ref a), (1, .int (nI S)), (2, .int (nI (rk_m (rk_upto (rk_ink P (rk_tb S)) i))))]) hx hb d_Pt_maskOf_31 hl (k := 3) rfl (nI_1 i) (by decide) rfl (fun ls hl => ?_)
      refine lv_goto (tgt := 4) hx hb d_Pt_maskOf_34 (by decide) ?_
      exact ih_4 _ _ _ (by omega) ⟨(by rw [rk_m_skip hf]; exact lv_sub hl [1, 2, 3, 0] rfl), hP, hS⟩
    · have hf : rk_ink P (rk_tb S) i = true := by
        cases z : rk_ink P (rk_tb S) i
        · exact absurd ((rk_nI0 (Nat.lt_of_le_of_lt Nat.and_le_right (by omega))).mpr (rk_bits_and.mpr z)) c_17
        · rfl
      refine lv_iload_n hx hb d_Pt_maskOf_20 rfl (lv_at hl 2 rfl) ?_
      refine lv_bipush (v := 31) hx hb d_Pt_maskOf_21 (by decide) ?_
      refine mw_top (x' := nI 31) rfl ?_
      refine mw_getsN J hZ hS List.mem_cons_self List.mem_cons_self (fun _ h9 => h9) d_Pt_maskOf_23 ?_
      refine lv_iload_n hx hb d_Pt_maskOf_26 rfl (lv_at hl 3 rfl) ?_
      refine mw_ti (v := .int (rk_shift i)) J hZ hS List.mem_cons_self (vp_in_nI (by omega) (by omega)) (by rw [nI_clamp (by omega)]; rfl) d_Pt_maskOf_27 ?_
      refine lv_ishl hx hb d_Pt_maskOf_28 ?_
      refine mw_top (x' := nI (31 * 2 ^ (10 - 5 * i))) (rk_shl (by omega) (by omega)) ?_
      refine lv_ior hx hb d_Pt_maskOf_29 ?_
      refine mw_top (x' := nI (rk_m (rk_upto (rk_ink P (rk_tb S)) (i + 1)))) (by rw [nx_or, rk_m_step (by omega) hf]) ?_
      refine lv_istore_n (lv' := [(2, .int (nI (rk_m (rk_upto (rk_ink P (rk_tb S)) (i + 1))))), (0, .ref a), (1, .int (nI S)), (3, .int (nI i))]) hx hb d_Pt_maskOf_30 rfl hl (by decide) rfl (fun ls hl => ?_)
      refine lv_iinc (v := nI (i + 1)) (lv' := [(3, .int (nI (i + 1))), (2, .int (nI (rk_m (rk_upto (rk_ink P (rk_tb S)) (i + 1))))), (0, .ref a), (1, .int (nI S))]) hx hb d_Pt_maskOf_31 hl (k := 3) rfl (nI_1 i) (by decide) rfl (fun ls hl => ?_)
      refine lv_goto (tgt := 4) hx hb d_Pt_maskOf_34 (by decide) ?_
      exact ih_4 _ _ _ (by omega) ⟨lv_sub hl [2, 3, 1, 0] rfl, hP, hS⟩

set_option maxHeartbeats 4000000 in
set_option maxRecDepth 100000 in
theorem c_Pt_filled (l : Launch) (D : va_G) (cI cZ cP cR cC : ClassId) (tS : Nat) (sz : Nat) (M : mw_M) (a : Nat) (P : rk_Pt) (hp : k_pat cI M a P) (S : Nat) (hS8 : S < 256) (v : Nat) (u : Nat → Nat) (hu : rk_okV u) (hv : M v = some (.inl (cI, 8, .inl (rk_nf u)))) :
    Met l y_Pt_filled (.code y_Pt_filled b_Pt_filled 5 (some .int) :: gw) ({ frames := 0, cells := 0, slots := 0, locals := 0 }) (va_Pc [.ref a, .int (nI S), .ref v] (mw_B D k_cl (k_tys cI cZ cP cR cC) (k_g tS) M sz)) (va_Qi (fun (r : Int32) (M1 : mw_M) => M1 = M ∧ r = nI (rk_v (rk_ink P (rk_tb S)) (fun j => u (rk_at P j - 32)))) (mw_E D k_cl M sz) (mw_A M sz)) 0 0 (mw_A M sz) := by
  refine mw_met (by decide) rfl (Nat.le_of_ble_eq_true rfl) ?_
  intro p e s m below meth c hsz J hr hlk hnm hK hZ hP hS hA ls hl
  subst hsz
  have hx := J.1
  have hb := J.2.1
  have hts := J.2.2.2.2
  have hl : lv_has ls 5 [(0, .ref a), (1, .int (nI S)), (2, .ref v)] := hl
  obtain ⟨hok, b, q, fb, fq, h1, h2, h3, hfb, hfq⟩ := hp
  refine lv_iconst (v := 0) hx hb d_Pt_filled_0 (by decide) ?_
  refine mw_top (x' := nI (rk_v (rk_upto (rk_ink P (rk_tb S)) 0) (fun j => u (rk_at P j - 32)))) (by rw [rk_v_0, nI_0]) ?_
  refine lv_istore_n (lv' := [(3, .int (nI (rk_v (rk_upto (rk_ink P (rk_tb S)) 0) (fun j => u (rk_at P j - 32))))), (0, .ref a), (1, .int (nI S)), (2, .ref v)]) hx hb d_Pt_filled_1 rfl hl (by decide) rfl (fun ls hl => ?_)
  refine lv_iconst (v := 0) hx hb d_Pt_filled_2 (by decide) ?_
  refine mw_top (x' := nI 0) nI_0.symm ?_
  refine lv_istore (lv' := [(4, .int (nI 0)), (3, .int (nI (rk_v (rk_upto (rk_ink P (rk_tb S)) 0) (fun j => u (rk_at P j - 32))))), (0, .ref a), (1, .int (nI S)), (2, .ref v)]) hx hb d_Pt_filled_3 hl (by decide) rfl (fun ls hl => ?_)
  refine mw_loop (W' := fun H locs ls => W p l e _ s m _ below meth c H locs _ _ _ (F0 m 5 ls [])) 3 (fun i H locs ls => lv_has ls 5 [(0, .ref a), (1, .int (nI S)), (2, .ref v), (3, .int (nI (rk_v (rk_upto (rk_ink P (rk_tb S)) i) (fun j => u (rk_at P j - 32))))), (4, .int (nI i))] ∧ mw_P D k_cl M (mw_A M s.heap.size) H ∧ va_S (mw_A M s.heap.size) s.heap H locs) ?_ 3 0 (by omega) (by omega) _ _ _ ⟨lv_sub hl [2, 3, 4, 1, 0] rfl, hP, hS⟩
  intro i H locs ls hi_5 hI ih_5
  obtain ⟨hl, hP, hS⟩ := hI
  refine lv_iload hx hb d_Pt_filled_5 (lv_at hl 4 rfl) ?_
  refine lv_iconst (v := 3) hx hb d_Pt_filled_7 (by decide) ?_
  refine mw_top (x' := nI 3) rfl ?_
  refine lv_icmp_ge (tgt := 48) hx hb d_Pt_filled_8 (by decide) (fun c_8 => ?_) (fun c_8 => ?_)
  · have c_8 : 3 ≤ i := (nI_leI (by omega) (by omega)).mp c_8
    refine lv_iload_n hx hb d_Pt_filled_48 rfl (lv_at hl 3 rfl) ?_
    exact mw_iret J hr hlk hP hS d_Pt_filled_49 (⟨rfl, by rw [show i = 3 by omega, rk_v_3]⟩)
  · have c_8 : ¬ (3 ≤ i) := fun z => c_8 ((nI_leI (by omega) (by omega)).mpr z)
    refine lv_aload_n hx hb d_Pt_filled_11 rfl (lv_at hl 0 rfl) ?_
    refine mw_get (v := .ref b) (ci := 2) (C := R_Pt) (T := T_Pt) (N := 8) J i_Pt hK hP h1 rfl 0 (by decide) (hts _ k_72) (fun _ h9 => h9) rfl d_Pt_filled_12 ?_
    refine lv_iload hx hb d_Pt_filled_15 (lv_at hl 4 rfl) ?_
    refine mw_nald (k := i) J hK hP 0 h2 rfl (by omega) (by omega) d_Pt_filled_17 ?_
    refine lv_iload_n hx hb d_Pt_filled_18 rfl (lv_at hl 1 rfl) ?_
    refine lv_iand hx hb d_Pt_filled_19 ?_
    refine mw_top (x' := nI (rk_bits P i &&& S)) (by rw [hfb i (by omega), nx_and]) ?_
    refine lv_if_eq (tgt := 42) hx hb d_Pt_filled_20 (by decide) (fun c_20 => ?_) (fun c_20 => ?_)
    · have hf : rk_ink P (rk_tb S) i = false := rk_bits_and.mp ((rk_nI0 (Nat.lt_of_le_of_lt Nat.and_le_right (by omega))).mp c_20)
      refine lv_iinc (v := nI (i + 1)) (lv' := [(4, .int (nI (i + 1))), (0, .ref a), (1, .int (nI S)), (2, .ref v), (3, .int (nI (rk_v (rk_upto (rk_ink P (rk_tb S)) i) (fun j => u (rk_at P j - 32)))))]) hx hb d_Pt_filled_42 hl (k := 4) rfl (nI_1 i) (by decide) rfl (fun ls hl => ?_)
      refine lv_goto (tgt := 5) hx hb d_Pt_filled_45 (by decide) ?_
      exact ih_5 _ _ _ (by omega) ⟨(by rw [rk_v_skip hf]; exact lv_sub hl [1, 2, 3, 4, 0] rfl), hP, hS⟩
    · have hf : rk_ink P (rk_tb S) i = true := by
        cases z : rk_ink P (rk_tb S) i
        · exact absurd ((rk_nI0 (Nat.lt_of_le_of_lt Nat.and_le_right (by omega))).mpr (rk_bits_and.mpr z)) c_20
        · rfl
      have hsl : fq i = rk_at P i - 32 := by
        rw [hfq i (by omega)]
        unfold rk_slots
        rw [if_neg (by have := (rk_ink_spec hf).1; omega)]
      have hs8 : fq i < 8 := by
        rw [hfq i (by omega)]
        exact rk_slots_lt hok (by omega)
      refine lv_iload_n hx hb d_Pt_filled_23 rfl (lv_at hl 3 rfl) ?_
      refine lv_aload_n hx hb d_Pt_filled_24 rfl (lv_at hl 2 rfl) ?_
      refine lv_aload_n hx hb d_Pt_filled_25 rfl (lv_at hl 0 rfl) ?_
      refine mw_get (v := .ref q) (ci := 2) (C := R_Pt) (T := T_Pt) (N := 8) J i_Pt hK hP h1 rfl 1 (by decide) (hts _ k_73) (fun _ h9 => h9) rfl d_Pt_filled_26 ?_
      refine lv_iload hx hb d_Pt_filled_29 (lv_at hl 4 rfl) ?_
      refine mw_nald (k := i) J hK hP 0 h3 rfl (by omega) (by omega) d_Pt_filled_31 ?_
      refine mw_nald (k := (fq i)) J hK hP 0 hv rfl hs8 (by omega) d_Pt_filled_32 ?_
      refine mw_getsN J hZ hS List.mem_cons_self List.mem_cons_self (fun _ h9 => h9) d_Pt_filled_33 ?_
      refine lv_iload hx hb d_Pt_filled_36 (lv_at hl 4 rfl) ?_
      refine mw_ti (v := .int (rk_shift i)) J hZ hS List.mem_cons_self (vp_in_nI (by omega) (by omega)) (by rw [nI_clamp (by omega)]; rfl) d_Pt_filled_38 ?_
      refine lv_ishl hx hb d_Pt_filled_39 ?_
      refine mw_top (x' := nI (u (rk_at P i - 32) * 2 ^ (10 - 5 * i))) (by rw [hsl]; exact rk_shl (by omega) (hu _)) ?_
      refine lv_ior hx hb d_Pt_filled_40 ?_
      refine mw_top (x' := nI (rk_v (rk_upto (rk_ink P (rk_tb S)) (i + 1)) (fun j => u (rk_at P j - 32)))) (by rw [nx_or, rk_v_step (w := fun j => u (rk_at P j - 32)) (fun j _ _ => hu _) (by omega) hf]) ?_
      refine lv_istore_n (lv' := [(3, .int (nI (rk_v (rk_upto (rk_ink P (rk_tb S)) (i + 1)) (fun j => u (rk_at P j - 32))))), (0, .ref a), (1, .int (nI S)), (2, .ref v), (4, .int (nI i))]) hx hb d_Pt_filled_41 rfl hl (by decide) rfl (fun ls hl => ?_)
      refine lv_iinc (v := nI (i + 1)) (lv' := [(4, .int (nI (i + 1))), (3, .int (nI (rk_v (rk_upto (rk_ink P (rk_tb S)) (i + 1)) (fun j => u (rk_at P j - 32))))), (0, .ref a), (1, .int (nI S)), (2, .ref v)]) hx hb d_Pt_filled_42 hl (k := 4) rfl (nI_1 i) (by decide) rfl (fun ls hl => ?_)
      refine lv_goto (tgt := 5) hx hb d_Pt_filled_45 (by decide) ?_
      exact ih_5 _ _ _ (by omega) ⟨lv_sub hl [2, 3, 4, 1, 0] rfl, hP, hS⟩

set_option maxHeartbeats 4000000 in
set_option maxRecDepth 100000 in
theorem c_Pt_bind (l : Launch) (D : va_G) (cI cZ cP cR cC : ClassId) (tS : Nat) (sz : Nat) (M : mw_M) (a : Nat) (P : rk_Pt) (hp : k_pat cI M a P) (k : Nat) (hk : k < 32768) (S : Nat) (hS8 : S < 256) (v : Nat) (u : Nat → Nat) (hu : rk_okV u) (hv : M v = some (.inl (cI, 8, .inl (rk_nf u)))) :
    Met l y_Pt_bind (.code y_Pt_bind b_Pt_bind 5 none :: gw) ({ frames := 0, cells := 0, slots := 0, locals := 0 }) (va_Pc [.ref a, .int (nI k), .int (nI S), .ref v] (mw_B D k_cl (k_tys cI cZ cP cR cC) (k_g tS) M sz)) (va_Qv (fun (M1 : mw_M) => M1 = va_up M v (some (.inl (cI, 8, .inl (rk_nf (rk_bind P (rk_tb S) k u)))))) (mw_E D k_cl M sz) (mw_A M sz)) 0 0 (mw_A M sz) := by
  refine mw_met (by decide) rfl (Nat.le_of_ble_eq_true rfl) ?_
  intro p e s m below meth c hsz J hr hlk hnm hK hZ hP hS hA ls hl
  subst hsz
  have hx := J.1
  have hb := J.2.1
  have hts := J.2.2.2.2
  have hl : lv_has ls 5 [(0, .ref a), (1, .int (nI k)), (2, .int (nI S)), (3, .ref v)] := hl
  obtain ⟨hok, b, q, fb, fq, h1, h2, h3, hfb, hfq⟩ := hp
  have hva : v ≠ a := mw_ne hv h1 (by simp)
  have hvb : v ≠ b := mw_ne hv h2 (by simp)
  have hvq : v ≠ q := mw_ne hv h3 (by simp)
  have hP : mw_P D k_cl (va_up M v (some (.inl (cI, 8, .inl (rk_nf (rk_bindn P (rk_tb S) k u 0)))))) (mw_A M s.heap.size) s.heap := by
    rw [show va_up M v (some (.inl (cI, 8, .inl (rk_nf (rk_bindn P (rk_tb S) k u 0))))) = M from va_up_id hv]
    exact hP
  refine lv_iconst (v := 0) hx hb d_Pt_bind_0 (by decide) ?_
  refine mw_top (x' := nI 0) nI_0.symm ?_
  refine lv_istore (lv' := [(4, .int (nI 0)), (0, .ref a), (1, .int (nI k)), (2, .int (nI S)), (3, .ref v)]) hx hb d_Pt_bind_1 hl (by decide) rfl (fun ls hl => ?_)
  refine mw_loop (W' := fun H locs ls => W p l e _ s m _ below meth c H locs _ _ _ (F0 m 3 ls [])) 3 (fun i H locs ls => lv_has ls 5 [(0, .ref a), (1, .int (nI k)), (2, .int (nI S)), (3, .ref v), (4, .int (nI i))] ∧ mw_P D k_cl (va_up M v (some (.inl (cI, 8, .inl (rk_nf (rk_bindn P (rk_tb S) k u i)))))) (mw_A M s.heap.size) H ∧ va_S (mw_A M s.heap.size) s.heap H locs) ?_ 3 0 (by omega) (by omega) _ _ _ ⟨lv_sub hl [1, 2, 3, 4, 0] rfl, hP, hS⟩
  intro i H locs ls hi_3 hI ih_3
  obtain ⟨hl, hP, hS⟩ := hI
  refine lv_iload hx hb d_Pt_bind_3 (lv_at hl 4 rfl) ?_
  refine lv_iconst (v := 3) hx hb d_Pt_bind_5 (by decide) ?_
  refine mw_top (x' := nI 3) rfl ?_
  refine lv_icmp_ge (tgt := 47) hx hb d_Pt_bind_6 (by decide) (fun c_6 => ?_) (fun c_6 => ?_)
  · have c_6 : 3 ≤ i := (nI_leI (by omega) (by omega)).mp c_6
    exact mw_vret J hr hlk hP hS d_Pt_bind_47 (by rw [show i = 3 by omega]; rfl)
  · have c_6 : ¬ (3 ≤ i) := fun z => c_6 ((nI_leI (by omega) (by omega)).mpr z)
    refine lv_aload_n hx hb d_Pt_bind_9 rfl (lv_at hl 0 rfl) ?_
    refine mw_get (v := .ref b) (ci := 2) (C := R_Pt) (T := T_Pt) (N := 8) J i_Pt hK hP ((va_up_ne _ _ (Ne.symm hva)).trans h1) rfl 0 (by decide) (hts _ k_72) (fun _ h9 => h9) rfl d_Pt_bind_10 ?_
    refine lv_iload hx hb d_Pt_bind_13 (lv_at hl 4 rfl) ?_
    refine mw_nald (k := i) J hK hP 0 ((va_up_ne _ _ (Ne.symm hvb)).trans h2) rfl (by omega) (by omega) d_Pt_bind_15 ?_
    refine lv_iload_n hx hb d_Pt_bind_16 rfl (lv_at hl 2 rfl) ?_
    refine lv_iand hx hb d_Pt_bind_17 ?_
    refine mw_top (x' := nI (rk_bits P i &&& S)) (by rw [hfb i (by omega), nx_and]) ?_
    refine lv_if_eq (tgt := 41) hx hb d_Pt_bind_18 (by decide) (fun c_18 => ?_) (fun c_18 => ?_)
    · have hf : rk_ink P (rk_tb S) i = false := rk_bits_and.mp ((rk_nI0 (Nat.lt_of_le_of_lt Nat.and_le_right (by omega))).mp c_18)
      rw [show rk_bindn P (rk_tb S) k u i = rk_bindn P (rk_tb S) k u (i + 1) from (if_neg (by rw [hf]; decide)).symm] at hP
      refine lv_iinc (v := nI (i + 1)) (lv' := [(4, .int (nI (i + 1))), (0, .ref a), (1, .int (nI k)), (2, .int (nI S)), (3, .ref v)]) hx hb d_Pt_bind_41 hl (k := 4) rfl (nI_1 i) (by decide) rfl (fun ls hl => ?_)
      refine lv_goto (tgt := 3) hx hb d_Pt_bind_44 (by decide) ?_
      exact ih_3 _ _ _ (by omega) ⟨lv_sub hl [1, 2, 3, 4, 0] rfl, hP, hS⟩
    · have hf : rk_ink P (rk_tb S) i = true := by
        cases z : rk_ink P (rk_tb S) i
        · exact absurd ((rk_nI0 (Nat.lt_of_le_of_lt Nat.and_le_right (by omega))).mpr (rk_bits_and.mpr z)) c_18
        · rfl
      have hsl : fq i = rk_at P i - 32 := by
        rw [hfq i (by omega)]
        unfold rk_slots
        rw [if_neg (by have := (rk_ink_spec hf).1; omega)]
      have hs8 : fq i < 8 := by
        rw [hfq i (by omega)]
        exact rk_slots_lt hok (by omega)
      refine lv_aload_n hx hb d_Pt_bind_21 rfl (lv_at hl 3 rfl) ?_
      refine lv_aload_n hx hb d_Pt_bind_22 rfl (lv_at hl 0 rfl) ?_
      refine mw_get (v := .ref q) (ci := 2) (C := R_Pt) (T := T_Pt) (N := 8) J i_Pt hK hP ((va_up_ne _ _ (Ne.symm hva)).trans h1) rfl 1 (by decide) (hts _ k_73) (fun _ h9 => h9) rfl d_Pt_bind_23 ?_
      refine lv_iload hx hb d_Pt_bind_26 (lv_at hl 4 rfl) ?_
      refine mw_nald (k := i) J hK hP 0 ((va_up_ne _ _ (Ne.symm hvq)).trans h3) rfl (by omega) (by omega) d_Pt_bind_28 ?_
      refine lv_iload_n hx hb d_Pt_bind_29 rfl (lv_at hl 1 rfl) ?_
      refine mw_getsN J hZ hS List.mem_cons_self List.mem_cons_self (fun _ h9 => h9) d_Pt_bind_30 ?_
      refine lv_iload hx hb d_Pt_bind_33 (lv_at hl 4 rfl) ?_
      refine mw_ti (v := .int (rk_shift i)) J hZ hS List.mem_cons_self (vp_in_nI (by omega) (by omega)) (by rw [nI_clamp (by omega)]; rfl) d_Pt_bind_35 ?_
      refine lv_ishr hx hb d_Pt_bind_36 ?_
      refine mw_top (x' := nI (k / 2 ^ (10 - 5 * i))) (rk_shr (by omega) hk) ?_
      refine lv_bipush (v := 31) hx hb d_Pt_bind_37 (by decide) ?_
      refine lv_iand hx hb d_Pt_bind_39 ?_
      refine mw_top (x' := nI (rk_dg k i)) (rk_and31 (Nat.lt_of_le_of_lt (Nat.div_le_self _ _) (by omega))) ?_
      refine mw_nast (k := (fq i)) (x := (rk_dg k i)) J hK hP hS 0 (va_up_self _ _ _) rfl hs8 (by omega) d_Pt_bind_40 (fun H locs hP hS => ?_)
      have hP : mw_P D k_cl (va_up (va_up M v (some (.inl (cI, 8, .inl (rk_nf (rk_bindn P (rk_tb S) k u i)))))) v (some (.inl (cI, 8, .inl (rk_nf (va_up (rk_bindn P (rk_tb S) k u i) (fq i) (rk_dg k i))))))) _ H := hP
      rw [va_uu] at hP
      rw [show va_up (rk_bindn P (rk_tb S) k u i) (fq i) (rk_dg k i) = rk_bindn P (rk_tb S) k u (i + 1) from by rw [hsl]; exact (if_pos hf).symm] at hP
      refine lv_iinc (v := nI (i + 1)) (lv' := [(4, .int (nI (i + 1))), (0, .ref a), (1, .int (nI k)), (2, .int (nI S)), (3, .ref v)]) hx hb d_Pt_bind_41 hl (k := 4) rfl (nI_1 i) (by decide) rfl (fun ls hl => ?_)
      refine lv_goto (tgt := 3) hx hb d_Pt_bind_44 (by decide) ?_
      exact ih_3 _ _ _ (by omega) ⟨lv_sub hl [1, 2, 3, 4, 0] rfl, hP, hS⟩
end
section
/-! the making of a pattern -/
theorem rk_iv_hi : ∀ i, i < 40 → (0 ≤ rk_iv i ↔ i < 32) := by decide +kernel
theorem rk_iv_cmp {P : rk_Pt} (h : rk_okP P) {i j : Nat} (hi : i < 3) (hj : j < 3) : rk_iv (rk_at P i) = rk_iv (rk_at P j) ↔ rk_at P i = rk_at P j := rk_iv_inj _ (h i hi) _ (h j hj)
theorem rk_varsn_skip {P : rk_Pt} {i : Nat} (h : rk_at P i < 32) : rk_varsn P (i + 1) = rk_varsn P i := by
  show rk_varsn P i ||| rk_bits P i = rk_varsn P i
  unfold rk_bits
  rw [if_pos h, Nat.or_zero]
theorem rk_next {f g : Nat → Nat} {i x : Nat} (h : ∀ j, j < 3 → f j = if j < i then g j else 0) (hx : x = g i) : ∀ j, j < 3 → va_up f i x j = if j < i + 1 then g j else 0 := by
  intro j hj
  by_cases e : j = i
  · subst e
    rw [va_up_self, if_pos (Nat.lt_succ_self j), hx]
  · rw [va_up_ne _ _ e, h j hj]
    by_cases h2 : j < i
    · rw [if_pos h2, if_pos (by omega)]
    · rw [if_neg h2, if_neg (by omega)]
theorem rk_next0 {f g : Nat → Nat} {i : Nat} (h : ∀ j, j < 3 → f j = if j < i then g j else 0) (hx : g i = 0) : ∀ j, j < 3 → f j = if j < i + 1 then g j else 0 := by
  intro j hj
  rw [h j hj]
  by_cases e : j = i
  · subst e
    rw [if_neg (Nat.lt_irrefl j), if_pos (Nat.lt_succ_self j), hx]
  · by_cases h2 : j < i
    · rw [if_pos h2, if_pos (by omega)]
    · rw [if_neg h2, if_neg (by omega)]

set_option maxHeartbeats 4000000 in
set_option maxRecDepth 100000 in
theorem c_Pt_init (l : Launch) (D : va_G) (cI cZ cP cR cC : ClassId) (tS : Nat) (sz : Nat) (M : mw_M) (a : Nat) (P : rk_Pt) (hok : rk_okP P) (h0 : M a = some (.inr (2, [.null, .null, .int 0, .int 0, .int 0, .int 0, .int 0, .int 0]))) :
    Met l y_Pt_init (.code y_Pt_init b_Pt_init 9 none :: gw) ({ frames := 1, cells := 3, slots := 9, locals := 12 }) (va_Pc [.ref a, .int (rk_iv (rk_at P 0)), .int (rk_iv (rk_at P 1)), .int (rk_iv (rk_at P 2))] (mw_B D k_cl (k_tys cI cZ cP cR cC) (k_g tS) M sz)) (va_Qv (fun (M1 : mw_M) => k_pat cI M1 a P ∧ ∀ z e, z ≠ a → M z = some e → M1 z = some e) (mw_E D k_cl M sz) (mw_A M sz)) 3 9 (mw_A M sz) := by
  refine mw_met (by decide) rfl (Nat.le_of_ble_eq_true rfl) ?_
  intro p e s m below meth c hsz J hr hlk hnm hK hZ hP hS hA ls hl
  subst hsz
  have hx := J.1
  have hb := J.2.1
  have hts := J.2.2.2.2
  have hl : lv_has ls 9 [(0, .ref a), (1, .int (rk_iv (rk_at P 0))), (2, .int (rk_iv (rk_at P 1))), (3, .int (rk_iv (rk_at P 2)))] := hl
  have hk : ∀ z e, z ≠ a → M z = some e → M z = some e := fun _ _ _ h => h
  have hz_a : ∀ z e, z ≠ a → M z = some e → z ≠ a := fun _ _ h _ => h
  refine lv_aload_n hx hb d_Pt_init_0 rfl (lv_at hl 0 rfl) ?_
  refine W.objInit hx hb J.2.2.2.1 (hts _ k_69) (hts _ k_16) (hts _ k_17) rfl (by rw [J.2.2.1]; exact hl.1) rfl d_Pt_init_1 (Nat.le_of_ble_eq_true rfl) (Nat.le_of_ble_eq_true rfl) ?_
  refine W.eq (g2 := F0 m 4 ls []) rfl ?_
  refine lv_iconst (v := 3) hx hb d_Pt_init_4 (by decide) ?_
  refine mw_newi (N' := 3) J (hts _ k_40) hK hP hS hA 0 rfl (by decide) (by decide) (by decide) (Nat.le_of_ble_eq_true rfl) (Nat.le_of_ble_eq_true rfl) d_Pt_init_5 (fun it H hitn hP hS => ?_)
  have ne_it_a : it ≠ a := fun z => by rw [z, h0] at hitn; cases hitn
  have hz_it : ∀ z e, z ≠ a → M z = some e → z ≠ it := fun z e hz he h => by rw [← h, hk z e hz he] at hitn; cases hitn
  have hk : ∀ z e, z ≠ a → M z = some e → (va_up M it (some (.inl (cI, 3, .inl (fun _ => 0))))) z = some e := fun z e hz he => (va_up_ne _ _ (hz_it z e hz he)).trans (hk z e hz he)
  refine lv_dup hx hb d_Pt_init_7 rfl ?_
  refine lv_iconst (v := 0) hx hb d_Pt_init_8 (by decide) ?_
  refine mw_top (x' := nI 0) nI_0.symm ?_
  refine lv_iload_n hx hb d_Pt_init_9 rfl (lv_at hl 1 rfl) ?_
  refine mw_iastN (k := 0) J hK hP hS 0 (va_up_self _ _ _) rfl (by decide) (by decide) d_Pt_init_10 (fun H locs hP hS => ?_)
  have hk : ∀ z e, z ≠ a → M z = some e → (va_up (va_up M it (some (.inl (cI, 3, .inl (fun _ => 0))))) it (some (.inl (cI, 3, .inl (upd (fun _ => 0) 0 (rk_iv (rk_at P 0))))))) z = some e := fun z e hz he => (va_up_ne _ _ (hz_it z e hz he)).trans (hk z e hz he)
  have hP : mw_P D k_cl (va_up (va_up M it (some (.inl (cI, 3, .inl (fun _ => 0))))) it (some (.inl (cI, 3, .inl (upd (fun _ => 0) 0 (rk_iv (rk_at P 0))))))) _ H := hP
  refine lv_dup hx hb d_Pt_init_11 rfl ?_
  refine lv_iconst (v := 1) hx hb d_Pt_init_12 (by decide) ?_
  refine mw_top (x' := nI 1) rfl ?_
  refine lv_iload_n hx hb d_Pt_init_13 rfl (lv_at hl 2 rfl) ?_
  refine mw_iastN (k := 1) J hK hP hS 0 (va_up_self _ _ _) rfl (by decide) (by decide) d_Pt_init_14 (fun H locs hP hS => ?_)
  have hk : ∀ z e, z ≠ a → M z = some e → (va_up (va_up (va_up M it (some (.inl (cI, 3, .inl (fun _ => 0))))) it (some (.inl (cI, 3, .inl (upd (fun _ => 0) 0 (rk_iv (rk_at P 0))))))) it (some (.inl (cI, 3, .inl (upd (upd (fun _ => 0) 0 (rk_iv (rk_at P 0))) 1 (rk_iv (rk_at P 1))))))) z = some e := fun z e hz he => (va_up_ne _ _ (hz_it z e hz he)).trans (hk z e hz he)
  have hP : mw_P D k_cl (va_up (va_up (va_up M it (some (.inl (cI, 3, .inl (fun _ => 0))))) it (some (.inl (cI, 3, .inl (upd (fun _ => 0) 0 (rk_iv (rk_at P 0))))))) it (some (.inl (cI, 3, .inl (upd (upd (fun _ => 0) 0 (rk_iv (rk_at P 0))) 1 (rk_iv (rk_at P 1))))))) _ H := hP
  refine lv_dup hx hb d_Pt_init_15 rfl ?_
  refine lv_iconst (v := 2) hx hb d_Pt_init_16 (by decide) ?_
  refine mw_top (x' := nI 2) rfl ?_
  refine lv_iload_n hx hb d_Pt_init_17 rfl (lv_at hl 3 rfl) ?_
  refine mw_iastN (k := 2) J hK hP hS 0 (va_up_self _ _ _) rfl (by decide) (by decide) d_Pt_init_18 (fun H locs hP hS => ?_)
  have hk : ∀ z e, z ≠ a → M z = some e → (va_up (va_up (va_up (va_up M it (some (.inl (cI, 3, .inl (fun _ => 0))))) it (some (.inl (cI, 3, .inl (upd (fun _ => 0) 0 (rk_iv (rk_at P 0))))))) it (some (.inl (cI, 3, .inl (upd (upd (fun _ => 0) 0 (rk_iv (rk_at P 0))) 1 (rk_iv (rk_at P 1))))))) it (some (.inl (cI, 3, .inl (upd (upd (upd (fun _ => 0) 0 (rk_iv (rk_at P 0))) 1 (rk_iv (rk_at P 1))) 2 (rk_iv (rk_at P 2))))))) z = some e := fun z e hz he => (va_up_ne _ _ (hz_it z e hz he)).trans (hk z e hz he)
  have hP : mw_P D k_cl (va_up (va_up (va_up (va_up M it (some (.inl (cI, 3, .inl (fun _ => 0))))) it (some (.inl (cI, 3, .inl (upd (fun _ => 0) 0 (rk_iv (rk_at P 0))))))) it (some (.inl (cI, 3, .inl (upd (upd (fun _ => 0) 0 (rk_iv (rk_at P 0))) 1 (rk_iv (rk_at P 1))))))) it (some (.inl (cI, 3, .inl (upd (upd (upd (fun _ => 0) 0 (rk_iv (rk_at P 0))) 1 (rk_iv (rk_at P 1))) 2 (rk_iv (rk_at P 2))))))) _ H := hP
  refine lv_astore (lv' := [(4, .ref it), (0, .ref a), (1, .int (rk_iv (rk_at P 0))), (2, .int (rk_iv (rk_at P 1))), (3, .int (rk_iv (rk_at P 2)))]) hx hb d_Pt_init_19 hl (by decide) rfl (fun ls hl => ?_)
  refine lv_aload_n hx hb d_Pt_init_21 rfl (lv_at hl 1 rfl) ?_
  refine lv_iconst (v := 3) hx hb d_Pt_init_22 (by decide) ?_
  refine mw_newi (N' := 3) J (hts _ k_40) hK hP hS hA 0 rfl (by decide) (by decide) (by decide) (Nat.le_of_ble_eq_true rfl) (Nat.le_of_ble_eq_true rfl) d_Pt_init_23 (fun b H hbn hP hS => ?_)
  have ne_b_a : b ≠ a := fun z => by rw [z, ((va_up_ne _ _ (Ne.symm ne_it_a)).trans ((va_up_ne _ _ (Ne.symm ne_it_a)).trans ((va_up_ne _ _ (Ne.symm ne_it_a)).trans ((va_up_ne _ _ (Ne.symm ne_it_a)).trans h0))))] at hbn; cases hbn
  have ne_b_it : b ≠ it := fun z => by rw [z, (va_up_self _ _ _)] at hbn; cases hbn
  have hz_b : ∀ z e, z ≠ a → M z = some e → z ≠ b := fun z e hz he h => by rw [← h, hk z e hz he] at hbn; cases hbn
  have hk : ∀ z e, z ≠ a → M z = some e → (va_up (va_up (va_up (va_up (va_up M it (some (.inl (cI, 3, .inl (fun _ => 0))))) it (some (.inl (cI, 3, .inl (upd (fun _ => 0) 0 (rk_iv (rk_at P 0))))))) it (some (.inl (cI, 3, .inl (upd (upd (fun _ => 0) 0 (rk_iv (rk_at P 0))) 1 (rk_iv (rk_at P 1))))))) it (some (.inl (cI, 3, .inl (upd (upd (upd (fun _ => 0) 0 (rk_iv (rk_at P 0))) 1 (rk_iv (rk_at P 1))) 2 (rk_iv (rk_at P 2))))))) b (some (.inl (cI, 3, .inl (fun _ => 0))))) z = some e := fun z e hz he => (va_up_ne _ _ (hz_b z e hz he)).trans (hk z e hz he)
  rw [rk_nf_0] at hP
  have hP : mw_P D k_cl (va_up (va_up (va_up (va_up (va_up M it (some (.inl (cI, 3, .inl (fun _ => 0))))) it (some (.inl (cI, 3, .inl (upd (fun _ => 0) 0 (rk_iv (rk_at P 0))))))) it (some (.inl (cI, 3, .inl (upd (upd (fun _ => 0) 0 (rk_iv (rk_at P 0))) 1 (rk_iv (rk_at P 1))))))) it (some (.inl (cI, 3, .inl (upd (upd (upd (fun _ => 0) 0 (rk_iv (rk_at P 0))) 1 (rk_iv (rk_at P 1))) 2 (rk_iv (rk_at P 2))))))) b (some (.inl (cI, 3, .inl (rk_nf (fun _ => 0)))))) _ H := hP
  have hk : ∀ z e, z ≠ a → M z = some e → (va_up (va_up (va_up (va_up (va_up M it (some (.inl (cI, 3, .inl (fun _ => 0))))) it (some (.inl (cI, 3, .inl (upd (fun _ => 0) 0 (rk_iv (rk_at P 0))))))) it (some (.inl (cI, 3, .inl (upd (upd (fun _ => 0) 0 (rk_iv (rk_at P 0))) 1 (rk_iv (rk_at P 1))))))) it (some (.inl (cI, 3, .inl (upd (upd (upd (fun _ => 0) 0 (rk_iv (rk_at P 0))) 1 (rk_iv (rk_at P 1))) 2 (rk_iv (rk_at P 2))))))) b (some (.inl (cI, 3, .inl (rk_nf (fun _ => 0)))))) z = some e := by rw [← rk_nf_0]; exact hk
  refine mw_putF (v := .ref b) (ty := .array .int) (ci := 2) (C := R_Pt) (T := T_Pt) (N := 8) J i_Pt t_Pt o_Pt n_Pt hK hP hS ((va_up_ne _ _ (Ne.symm ne_b_a)).trans ((va_up_ne _ _ (Ne.symm ne_it_a)).trans ((va_up_ne _ _ (Ne.symm ne_it_a)).trans ((va_up_ne _ _ (Ne.symm ne_it_a)).trans ((va_up_ne _ _ (Ne.symm ne_it_a)).trans h0))))) rfl 0 (by decide) (hts _ k_72) (fun _ h9 => h9) rfl hnm rfl rfl rfl rfl (Nat.le_of_ble_eq_true rfl) d_Pt_init_25 (fun H locs hP hS => ?_)
  have hk : ∀ z e, z ≠ a → M z = some e → (va_up (va_up (va_up (va_up (va_up (va_up M it (some (.inl (cI, 3, .inl (fun _ => 0))))) it (some (.inl (cI, 3, .inl (upd (fun _ => 0) 0 (rk_iv (rk_at P 0))))))) it (some (.inl (cI, 3, .inl (upd (upd (fun _ => 0) 0 (rk_iv (rk_at P 0))) 1 (rk_iv (rk_at P 1))))))) it (some (.inl (cI, 3, .inl (upd (upd (upd (fun _ => 0) 0 (rk_iv (rk_at P 0))) 1 (rk_iv (rk_at P 1))) 2 (rk_iv (rk_at P 2))))))) b (some (.inl (cI, 3, .inl (rk_nf (fun _ => 0)))))) a (some (.inr (2, [.ref b, .null, .int 0, .int 0, .int 0, .int 0, .int 0, .int 0])))) z = some e := fun z e hz he => (va_up_ne _ _ (hz_a z e hz he)).trans (hk z e hz he)
  have hP : mw_P D k_cl (va_up (va_up (va_up (va_up (va_up (va_up M it (some (.inl (cI, 3, .inl (fun _ => 0))))) it (some (.inl (cI, 3, .inl (upd (fun _ => 0) 0 (rk_iv (rk_at P 0))))))) it (some (.inl (cI, 3, .inl (upd (upd (fun _ => 0) 0 (rk_iv (rk_at P 0))) 1 (rk_iv (rk_at P 1))))))) it (some (.inl (cI, 3, .inl (upd (upd (upd (fun _ => 0) 0 (rk_iv (rk_at P 0))) 1 (rk_iv (rk_at P 1))) 2 (rk_iv (rk_at P 2))))))) b (some (.inl (cI, 3, .inl (rk_nf (fun _ => 0)))))) a (some (.inr (2, [.ref b, .null, .int 0, .int 0, .int 0, .int 0, .int 0, .int 0])))) _ H := hP
  refine lv_aload_n hx hb d_Pt_init_28 rfl (lv_at hl 1 rfl) ?_
  refine lv_iconst (v := 3) hx hb d_Pt_init_29 (by decide) ?_
  refine mw_newi (N' := 3) J (hts _ k_40) hK hP hS hA 0 rfl (by decide) (by decide) (by decide) (Nat.le_of_ble_eq_true rfl) (Nat.le_of_ble_eq_true rfl) d_Pt_init_30 (fun q H hqn hP hS => ?_)
  have ne_q_a : q ≠ a := fun z => by rw [z, (va_up_self _ _ _)] at hqn; cases hqn
  have ne_q_it : q ≠ it := fun z => by rw [z, ((va_up_ne _ _ ne_it_a).trans ((va_up_ne _ _ (Ne.symm ne_b_it)).trans (va_up_self _ _ _)))] at hqn; cases hqn
  have ne_q_b : q ≠ b := fun z => by rw [z, ((va_up_ne _ _ ne_b_a).trans (va_up_self _ _ _))] at hqn; cases hqn
  have hz_q : ∀ z e, z ≠ a → M z = some e → z ≠ q := fun z e hz he h => by rw [← h, hk z e hz he] at hqn; cases hqn
  have hk : ∀ z e, z ≠ a → M z = some e → (va_up (va_up (va_up (va_up (va_up (va_up (va_up M it (some (.inl (cI, 3, .inl (fun _ => 0))))) it (some (.inl (cI, 3, .inl (upd (fun _ => 0) 0 (rk_iv (rk_at P 0))))))) it (some (.inl (cI, 3, .inl (upd (upd (fun _ => 0) 0 (rk_iv (rk_at P 0))) 1 (rk_iv (rk_at P 1))))))) it (some (.inl (cI, 3, .inl (upd (upd (upd (fun _ => 0) 0 (rk_iv (rk_at P 0))) 1 (rk_iv (rk_at P 1))) 2 (rk_iv (rk_at P 2))))))) b (some (.inl (cI, 3, .inl (rk_nf (fun _ => 0)))))) a (some (.inr (2, [.ref b, .null, .int 0, .int 0, .int 0, .int 0, .int 0, .int 0])))) q (some (.inl (cI, 3, .inl (fun _ => 0))))) z = some e := fun z e hz he => (va_up_ne _ _ (hz_q z e hz he)).trans (hk z e hz he)
  rw [rk_nf_0] at hP
  have hP : mw_P D k_cl (va_up (va_up (va_up (va_up (va_up (va_up (va_up M it (some (.inl (cI, 3, .inl (fun _ => 0))))) it (some (.inl (cI, 3, .inl (upd (fun _ => 0) 0 (rk_iv (rk_at P 0))))))) it (some (.inl (cI, 3, .inl (upd (upd (fun _ => 0) 0 (rk_iv (rk_at P 0))) 1 (rk_iv (rk_at P 1))))))) it (some (.inl (cI, 3, .inl (upd (upd (upd (fun _ => 0) 0 (rk_iv (rk_at P 0))) 1 (rk_iv (rk_at P 1))) 2 (rk_iv (rk_at P 2))))))) b (some (.inl (cI, 3, .inl (rk_nf (fun _ => 0)))))) a (some (.inr (2, [.ref b, .null, .int 0, .int 0, .int 0, .int 0, .int 0, .int 0])))) q (some (.inl (cI, 3, .inl (rk_nf (fun _ => 0)))))) _ H := hP
  have hk : ∀ z e, z ≠ a → M z = some e → (va_up (va_up (va_up (va_up (va_up (va_up (va_up M it (some (.inl (cI, 3, .inl (fun _ => 0))))) it (some (.inl (cI, 3, .inl (upd (fun _ => 0) 0 (rk_iv (rk_at P 0))))))) it (some (.inl (cI, 3, .inl (upd (upd (fun _ => 0) 0 (rk_iv (rk_at P 0))) 1 (rk_iv (rk_at P 1))))))) it (some (.inl (cI, 3, .inl (upd (upd (upd (fun _ => 0) 0 (rk_iv (rk_at P 0))) 1 (rk_iv (rk_at P 1))) 2 (rk_iv (rk_at P 2))))))) b (some (.inl (cI, 3, .inl (rk_nf (fun _ => 0)))))) a (some (.inr (2, [.ref b, .null, .int 0, .int 0, .int 0, .int 0, .int 0, .int 0])))) q (some (.inl (cI, 3, .inl (rk_nf (fun _ => 0)))))) z = some e := by rw [← rk_nf_0]; exact hk
  refine mw_putF (v := .ref q) (ty := .array .int) (ci := 2) (C := R_Pt) (T := T_Pt) (N := 8) J i_Pt t_Pt o_Pt n_Pt hK hP hS ((va_up_ne _ _ (Ne.symm ne_q_a)).trans (va_up_self _ _ _)) rfl 1 (by decide) (hts _ k_73) (fun _ h9 => h9) rfl hnm rfl rfl rfl rfl (Nat.le_of_ble_eq_true rfl) d_Pt_init_32 (fun H locs hP hS => ?_)
  have hk : ∀ z e, z ≠ a → M z = some e → (va_up (va_up (va_up (va_up (va_up (va_up (va_up (va_up M it (some (.inl (cI, 3, .inl (fun _ => 0))))) it (some (.inl (cI, 3, .inl (upd (fun _ => 0) 0 (rk_iv (rk_at P 0))))))) it (some (.inl (cI, 3, .inl (upd (upd (fun _ => 0) 0 (rk_iv (rk_at P 0))) 1 (rk_iv (rk_at P 1))))))) it (some (.inl (cI, 3, .inl (upd (upd (upd (fun _ => 0) 0 (rk_iv (rk_at P 0))) 1 (rk_iv (rk_at P 1))) 2 (rk_iv (rk_at P 2))))))) b (some (.inl (cI, 3, .inl (rk_nf (fun _ => 0)))))) a (some (.inr (2, [.ref b, .null, .int 0, .int 0, .int 0, .int 0, .int 0, .int 0])))) q (some (.inl (cI, 3, .inl (rk_nf (fun _ => 0)))))) a (some (.inr (2, [.ref b, .ref q, .int 0, .int 0, .int 0, .int 0, .int 0, .int 0])))) z = some e := fun z e hz he => (va_up_ne _ _ (hz_a z e hz he)).trans (hk z e hz he)
  have hP : mw_P D k_cl (va_up (va_up (va_up (va_up (va_up (va_up (va_up (va_up M it (some (.inl (cI, 3, .inl (fun _ => 0))))) it (some (.inl (cI, 3, .inl (upd (fun _ => 0) 0 (rk_iv (rk_at P 0))))))) it (some (.inl (cI, 3, .inl (upd (upd (fun _ => 0) 0 (rk_iv (rk_at P 0))) 1 (rk_iv (rk_at P 1))))))) it (some (.inl (cI, 3, .inl (upd (upd (upd (fun _ => 0) 0 (rk_iv (rk_at P 0))) 1 (rk_iv (rk_at P 1))) 2 (rk_iv (rk_at P 2))))))) b (some (.inl (cI, 3, .inl (rk_nf (fun _ => 0)))))) a (some (.inr (2, [.ref b, .null, .int 0, .int 0, .int 0, .int 0, .int 0, .int 0])))) q (some (.inl (cI, 3, .inl (rk_nf (fun _ => 0)))))) a (some (.inr (2, [.ref b, .ref q, .int 0, .int 0, .int 0, .int 0, .int 0, .int 0])))) _ H := hP
  obtain ⟨ad, rfl, rfl⟩ : ∃ ad : Nat → Nat, b = ad 0 ∧ q = ad 1 := ⟨fun i => if i = 0 then b else q, rfl, rfl⟩
  obtain ⟨F, eF⟩ : ∃ F : Nat → Int32, F = (upd (upd (upd (fun _ => 0) 0 (rk_iv (rk_at P 0))) 1 (rk_iv (rk_at P 1))) 2 (rk_iv (rk_at P 2))) := ⟨_, rfl⟩
  have hF : ∀ j, j < 3 → F j = rk_iv (rk_at P j) := rk_j3 (by rw [eF]; rfl) (by rw [eF]; rfl) (by rw [eF]; rfl)
  obtain ⟨M0, eM0⟩ : ∃ z : mw_M, z = (va_up (va_up (va_up (va_up (va_up (va_up (va_up (va_up M it (some (.inl (cI, 3, .inl (fun _ => 0))))) it (some (.inl (cI, 3, .inl (upd (fun _ => 0) 0 (rk_iv (rk_at P 0))))))) it (some (.inl (cI, 3, .inl (upd (upd (fun _ => 0) 0 (rk_iv (rk_at P 0))) 1 (rk_iv (rk_at P 1))))))) it (some (.inl (cI, 3, .inl (upd (upd (upd (fun _ => 0) 0 (rk_iv (rk_at P 0))) 1 (rk_iv (rk_at P 1))) 2 (rk_iv (rk_at P 2))))))) (ad 0) (some (.inl (cI, 3, .inl (rk_nf (fun _ => 0)))))) a (some (.inr (2, [.ref (ad 0), .null, .int 0, .int 0, .int 0, .int 0, .int 0, .int 0])))) (ad 1) (some (.inl (cI, 3, .inl (rk_nf (fun _ => 0)))))) a (some (.inr (2, [.ref (ad 0), .ref (ad 1), .int 0, .int 0, .int 0, .int 0, .int 0, .int 0])))) := ⟨_, rfl⟩
  have hP : mw_P D k_cl M0 (mw_A M s.heap.size) H := by rw [eM0]; exact hP
  have g0 : M0 a = some (.inr (2, [.ref (ad 0), .ref (ad 1), .int 0, .int 0, .int 0, .int 0, .int 0, .int 0])) := by rw [eM0]; exact (va_up_self _ _ _)
  have gI : M0 it = some (.inl (cI, 3, .inl F)) := by rw [eM0, eF]; exact ((va_up_ne _ _ ne_it_a).trans ((va_up_ne _ _ (Ne.symm ne_q_it)).trans ((va_up_ne _ _ ne_it_a).trans ((va_up_ne _ _ (Ne.symm ne_b_it)).trans (va_up_self _ _ _)))))
  have gb : M0 (ad 0) = some (.inl (cI, 3, .inl (rk_nf (fun _ => 0)))) := by rw [eM0]; exact ((va_up_ne _ _ ne_b_a).trans ((va_up_ne _ _ (Ne.symm ne_q_b)).trans ((va_up_ne _ _ ne_b_a).trans (va_up_self _ _ _))))
  have gq : M0 (ad 1) = some (.inl (cI, 3, .inl (rk_nf (fun _ => 0)))) := by rw [eM0]; exact ((va_up_ne _ _ ne_q_a).trans (va_up_self _ _ _))
  have hk : ∀ z e, z ≠ a → M z = some e → M0 z = some e := by rw [eM0]; exact hk
  have hj : mw_inj ad 2 := by
    intro i j hi hj e
    rcases (show i = 0 ∨ i = 1 by omega) with rfl | rfl <;> rcases (show j = 0 ∨ j = 1 by omega) with rfl | rfl
    · rfl
    · exact absurd e.symm ne_q_b
    · exact absurd e ne_q_b
    · rfl
  have hoa : ∀ i, i < 2 → ad i ≠ a := by
    intro i hi
    rcases (show i = 0 ∨ i = 1 by omega) with rfl | rfl
    · exact ne_b_a
    · exact ne_q_a
  have hoi : ∀ i, i < 2 → ad i ≠ it := by
    intro i hi
    rcases (show i = 0 ∨ i = 1 by omega) with rfl | rfl
    · exact ne_b_it
    · exact ne_q_it
  have hP : mw_P D k_cl (mw_ov M0 ad (fun _ => .inl (cI, 3, .inl (rk_nf (fun _ => 0)))) 2) (mw_A M s.heap.size) H := by
    rw [mw_ov_self (fun i hi => by
      rcases (show i = 0 ∨ i = 1 by omega) with rfl | rfl
      · exact gb
      · exact gq)]
    exact hP
  refine lv_iconst (v := 0) hx hb d_Pt_init_35 (by decide) ?_
  refine mw_top (x' := nI (rk_varsn P 0)) nI_0.symm ?_
  refine lv_istore (lv' := [(5, .int (nI (rk_varsn P 0))), (4, .ref it), (0, .ref a), (1, .int (rk_iv (rk_at P 0))), (2, .int (rk_iv (rk_at P 1))), (3, .int (rk_iv (rk_at P 2)))]) hx hb d_Pt_init_36 hl (by decide) rfl (fun ls hl => ?_)
  refine lv_iconst (v := 0) hx hb d_Pt_init_38 (by decide) ?_
  refine mw_top (x' := nI (rk_m (rk_upto (rk_num P) 0))) (by rw [rk_m_0, nI_0]) ?_
  refine lv_istore (lv' := [(6, .int (nI (rk_m (rk_upto (rk_num P) 0)))), (5, .int (nI (rk_varsn P 0))), (4, .ref it), (0, .ref a), (1, .int (rk_iv (rk_at P 0))), (2, .int (rk_iv (rk_at P 1))), (3, .int (rk_iv (rk_at P 2)))]) hx hb d_Pt_init_39 hl (by decide) rfl (fun ls hl => ?_)
  refine lv_iconst (v := 0) hx hb d_Pt_init_41 (by decide) ?_
  refine mw_top (x' := nI (rk_v (rk_upto (rk_num P) 0) (rk_at P))) (by rw [rk_v_0, nI_0]) ?_
  refine lv_istore (lv' := [(7, .int (nI (rk_v (rk_upto (rk_num P) 0) (rk_at P)))), (6, .int (nI (rk_m (rk_upto (rk_num P) 0)))), (5, .int (nI (rk_varsn P 0))), (4, .ref it), (0, .ref a), (1, .int (rk_iv (rk_at P 0))), (2, .int (rk_iv (rk_at P 1))), (3, .int (rk_iv (rk_at P 2)))]) hx hb d_Pt_init_42 hl (by decide) rfl (fun ls hl => ?_)
  refine lv_iconst (v := 0) hx hb d_Pt_init_44 (by decide) ?_
  refine mw_top (x' := nI 0) nI_0.symm ?_
  refine lv_istore (lv' := [(8, .int (nI 0)), (7, .int (nI (rk_v (rk_upto (rk_num P) 0) (rk_at P)))), (6, .int (nI (rk_m (rk_upto (rk_num P) 0)))), (5, .int (nI (rk_varsn P 0))), (4, .ref it), (0, .ref a), (1, .int (rk_iv (rk_at P 0))), (2, .int (rk_iv (rk_at P 1))), (3, .int (rk_iv (rk_at P 2)))]) hx hb d_Pt_init_45 hl (by decide) rfl (fun ls hl => ?_)
  refine mw_loop (W' := fun H locs ls => W p l e _ s m _ below meth c H locs _ _ _ (F0 m 47 ls [])) 3 (fun i H locs ls => ∃ (cw : Nat → va_E), ∃ (fb : Nat → Nat), ∃ (fq : Nat → Nat), lv_has ls 9 [(0, .ref a), (1, .int (rk_iv (rk_at P 0))), (2, .int (rk_iv (rk_at P 1))), (3, .int (rk_iv (rk_at P 2))), (4, .ref it), (5, .int (nI (rk_varsn P i))), (6, .int (nI (rk_m (rk_upto (rk_num P) i)))), (7, .int (nI (rk_v (rk_upto (rk_num P) i) (rk_at P)))), (8, .int (nI i))] ∧ (cw 0 = .inl (cI, 3, .inl (rk_nf fb))) ∧ (cw 1 = .inl (cI, 3, .inl (rk_nf fq))) ∧ (∀ j, j < 3 → fb j = if j < i then rk_bits P j else 0) ∧ (∀ j, j < 3 → fq j = if j < i then rk_slots P j else 0) ∧ mw_P D k_cl (mw_ov M0 ad cw 2) (mw_A M s.heap.size) H ∧ va_S (mw_A M s.heap.size) s.heap H locs) ?_ 3 0 (by omega) (by omega) _ _ _ ⟨_, fun _ => 0, fun _ => 0, lv_sub hl [5, 6, 7, 8, 4, 3, 2, 1, 0] rfl, rfl, rfl, (fun j _ => by simp), (fun j _ => by simp), hP, hS⟩
  intro i H locs ls hi_47 hI ih_47
  obtain ⟨cw, fb, fq, hl, hc0, hc1, hfb, hfq, hP, hS⟩ := hI
  refine lv_iload hx hb d_Pt_init_47 (lv_at hl 8 rfl) ?_
  refine lv_iconst (v := 3) hx hb d_Pt_init_49 (by decide) ?_
  refine mw_top (x' := nI 3) rfl ?_
  refine lv_icmp_ge (tgt := 146) hx hb d_Pt_init_50 (by decide) (fun c_50 => ?_) (fun c_50 => ?_)
  · have c_50 : 3 ≤ i := (nI_leI (by omega) (by omega)).mp c_50
    have hi3 : i = 3 := by omega
    obtain ⟨M2, eM2⟩ : ∃ z : mw_M, z = mw_ov M0 ad cw 2 := ⟨_, rfl⟩
    rw [← eM2] at hP
    have q0 : M2 a = some (.inr (2, [.ref (ad 0), .ref (ad 1), .int 0, .int 0, .int 0, .int 0, .int 0, .int 0])) := by rw [eM2]; exact (mw_ov_off hoa).trans g0
    have qb : M2 (ad 0) = some (.inl (cI, 3, .inl (rk_nf fb))) := by rw [eM2]; exact mw_ov_is hj (by decide) hc0
    have qq : M2 (ad 1) = some (.inl (cI, 3, .inl (rk_nf fq))) := by rw [eM2]; exact mw_ov_is hj (by decide) hc1
    have hk : ∀ z e, z ≠ a → M z = some e → M2 z = some e := fun z e hz he => by
      rw [eM2, mw_ov_off (fun i hi => ?_)]
      · exact hk z e hz he
      · rcases (show i = 0 ∨ i = 1 by omega) with rfl | rfl
        · exact fun h => hz_b z e hz he h.symm
        · exact fun h => hz_q z e hz he h.symm
    refine lv_aload_n hx hb d_Pt_init_146 rfl (lv_at hl 0 rfl) ?_
    refine lv_iload hx hb d_Pt_init_147 (lv_at hl 5 rfl) ?_
    refine mw_putF (v := .int (nI (rk_varsn P i))) (ty := .int) (ci := 2) (C := R_Pt) (T := T_Pt) (N := 8) J i_Pt t_Pt o_Pt n_Pt hK hP hS q0 rfl 2 (by decide) (hts _ k_75) (fun _ h9 => h9) rfl hnm rfl rfl rfl rfl (Nat.le_of_ble_eq_true rfl) d_Pt_init_149 (fun H locs hP hS => ?_)
    have hk : ∀ z e, z ≠ a → M z = some e → (va_up M2 a (some (.inr (2, [.ref (ad 0), .ref (ad 1), .int (nI (rk_varsn P i)), .int 0, .int 0, .int 0, .int 0, .int 0])))) z = some e := fun z e hz he => (va_up_ne _ _ (hz_a z e hz he)).trans (hk z e hz he)
    have hP : mw_P D k_cl (va_up M2 a (some (.inr (2, [.ref (ad 0), .ref (ad 1), .int (nI (rk_varsn P i)), .int 0, .int 0, .int 0, .int 0, .int 0])))) _ H := hP
    refine lv_aload_n hx hb d_Pt_init_152 rfl (lv_at hl 0 rfl) ?_
    refine lv_iload hx hb d_Pt_init_153 (lv_at hl 6 rfl) ?_
    refine mw_putF (v := .int (nI (rk_m (rk_upto (rk_num P) i)))) (ty := .int) (ci := 2) (C := R_Pt) (T := T_Pt) (N := 8) J i_Pt t_Pt o_Pt n_Pt hK hP hS (va_up_self _ _ _) rfl 3 (by decide) (hts _ k_78) (fun _ h9 => h9) rfl hnm rfl rfl rfl rfl (Nat.le_of_ble_eq_true rfl) d_Pt_init_155 (fun H locs hP hS => ?_)
    have hk : ∀ z e, z ≠ a → M z = some e → (va_up (va_up M2 a (some (.inr (2, [.ref (ad 0), .ref (ad 1), .int (nI (rk_varsn P i)), .int 0, .int 0, .int 0, .int 0, .int 0])))) a (some (.inr (2, [.ref (ad 0), .ref (ad 1), .int (nI (rk_varsn P i)), .int (nI (rk_m (rk_upto (rk_num P) i))), .int 0, .int 0, .int 0, .int 0])))) z = some e := fun z e hz he => (va_up_ne _ _ (hz_a z e hz he)).trans (hk z e hz he)
    have hP : mw_P D k_cl (va_up (va_up M2 a (some (.inr (2, [.ref (ad 0), .ref (ad 1), .int (nI (rk_varsn P i)), .int 0, .int 0, .int 0, .int 0, .int 0])))) a (some (.inr (2, [.ref (ad 0), .ref (ad 1), .int (nI (rk_varsn P i)), .int (nI (rk_m (rk_upto (rk_num P) i))), .int 0, .int 0, .int 0, .int 0])))) _ H := hP
    refine lv_aload_n hx hb d_Pt_init_158 rfl (lv_at hl 0 rfl) ?_
    refine lv_iload hx hb d_Pt_init_159 (lv_at hl 7 rfl) ?_
    refine mw_putF (v := .int (nI (rk_v (rk_upto (rk_num P) i) (rk_at P)))) (ty := .int) (ci := 2) (C := R_Pt) (T := T_Pt) (N := 8) J i_Pt t_Pt o_Pt n_Pt hK hP hS (va_up_self _ _ _) rfl 4 (by decide) (hts _ k_81) (fun _ h9 => h9) rfl hnm rfl rfl rfl rfl (Nat.le_of_ble_eq_true rfl) d_Pt_init_161 (fun H locs hP hS => ?_)
    have hk : ∀ z e, z ≠ a → M z = some e → (va_up (va_up (va_up M2 a (some (.inr (2, [.ref (ad 0), .ref (ad 1), .int (nI (rk_varsn P i)), .int 0, .int 0, .int 0, .int 0, .int 0])))) a (some (.inr (2, [.ref (ad 0), .ref (ad 1), .int (nI (rk_varsn P i)), .int (nI (rk_m (rk_upto (rk_num P) i))), .int 0, .int 0, .int 0, .int 0])))) a (some (.inr (2, [.ref (ad 0), .ref (ad 1), .int (nI (rk_varsn P i)), .int (nI (rk_m (rk_upto (rk_num P) i))), .int (nI (rk_v (rk_upto (rk_num P) i) (rk_at P))), .int 0, .int 0, .int 0])))) z = some e := fun z e hz he => (va_up_ne _ _ (hz_a z e hz he)).trans (hk z e hz he)
    have hP : mw_P D k_cl (va_up (va_up (va_up M2 a (some (.inr (2, [.ref (ad 0), .ref (ad 1), .int (nI (rk_varsn P i)), .int 0, .int 0, .int 0, .int 0, .int 0])))) a (some (.inr (2, [.ref (ad 0), .ref (ad 1), .int (nI (rk_varsn P i)), .int (nI (rk_m (rk_upto (rk_num P) i))), .int 0, .int 0, .int 0, .int 0])))) a (some (.inr (2, [.ref (ad 0), .ref (ad 1), .int (nI (rk_varsn P i)), .int (nI (rk_m (rk_upto (rk_num P) i))), .int (nI (rk_v (rk_upto (rk_num P) i) (rk_at P))), .int 0, .int 0, .int 0])))) _ H := hP
    refine lv_aload_n hx hb d_Pt_init_164 rfl (lv_at hl 0 rfl) ?_
    refine lv_iload_n hx hb d_Pt_init_165 rfl (lv_at hl 1 rfl) ?_
    refine lv_iload_n hx hb d_Pt_init_166 rfl (lv_at hl 2 rfl) ?_
    refine lv_icmp_ne (tgt := 174) hx hb d_Pt_init_167 (by decide) (fun c_167 => ?_) (fun c_167 => ?_)
    · have w01 : ¬ rk_at P 0 = rk_at P 1 := fun z => c_167 ((rk_iv_cmp hok (by omega) (by omega)).mpr z)
      refine lv_iconst (v := 0) hx hb d_Pt_init_174 (by decide) ?_
      refine mw_putF (v := .int 0) (ty := .boolean) (ci := 2) (C := R_Pt) (T := T_Pt) (N := 8) J i_Pt t_Pt o_Pt n_Pt hK hP hS (va_up_self _ _ _) rfl 5 (by decide) (hts _ k_84) (fun _ h9 => h9) rfl hnm rfl rfl rfl rfl (Nat.le_of_ble_eq_true rfl) d_Pt_init_175 (fun H locs hP hS => ?_)
      have hk : ∀ z e, z ≠ a → M z = some e → (va_up (va_up (va_up (va_up M2 a (some (.inr (2, [.ref (ad 0), .ref (ad 1), .int (nI (rk_varsn P i)), .int 0, .int 0, .int 0, .int 0, .int 0])))) a (some (.inr (2, [.ref (ad 0), .ref (ad 1), .int (nI (rk_varsn P i)), .int (nI (rk_m (rk_upto (rk_num P) i))), .int 0, .int 0, .int 0, .int 0])))) a (some (.inr (2, [.ref (ad 0), .ref (ad 1), .int (nI (rk_varsn P i)), .int (nI (rk_m (rk_upto (rk_num P) i))), .int (nI (rk_v (rk_upto (rk_num P) i) (rk_at P))), .int 0, .int 0, .int 0])))) a (some (.inr (2, [.ref (ad 0), .ref (ad 1), .int (nI (rk_varsn P i)), .int (nI (rk_m (rk_upto (rk_num P) i))), .int (nI (rk_v (rk_upto (rk_num P) i) (rk_at P))), .int 0, .int 0, .int 0])))) z = some e := fun z e hz he => (va_up_ne _ _ (hz_a z e hz he)).trans (hk z e hz he)
      have hP : mw_P D k_cl (va_up (va_up (va_up (va_up M2 a (some (.inr (2, [.ref (ad 0), .ref (ad 1), .int (nI (rk_varsn P i)), .int 0, .int 0, .int 0, .int 0, .int 0])))) a (some (.inr (2, [.ref (ad 0), .ref (ad 1), .int (nI (rk_varsn P i)), .int (nI (rk_m (rk_upto (rk_num P) i))), .int 0, .int 0, .int 0, .int 0])))) a (some (.inr (2, [.ref (ad 0), .ref (ad 1), .int (nI (rk_varsn P i)), .int (nI (rk_m (rk_upto (rk_num P) i))), .int (nI (rk_v (rk_upto (rk_num P) i) (rk_at P))), .int 0, .int 0, .int 0])))) a (some (.inr (2, [.ref (ad 0), .ref (ad 1), .int (nI (rk_varsn P i)), .int (nI (rk_m (rk_upto (rk_num P) i))), .int (nI (rk_v (rk_upto (rk_num P) i) (rk_at P))), .int 0, .int 0, .int 0])))) _ H := hP
      refine lv_aload_n hx hb d_Pt_init_178 rfl (lv_at hl 0 rfl) ?_
      refine lv_iload_n hx hb d_Pt_init_179 rfl (lv_at hl 1 rfl) ?_
      refine lv_iload_n hx hb d_Pt_init_180 rfl (lv_at hl 3 rfl) ?_
      refine lv_icmp_ne (tgt := 188) hx hb d_Pt_init_181 (by decide) (fun c_181 => ?_) (fun c_181 => ?_)
      · have w02 : ¬ rk_at P 0 = rk_at P 2 := fun z => c_181 ((rk_iv_cmp hok (by omega) (by omega)).mpr z)
        refine lv_iconst (v := 0) hx hb d_Pt_init_188 (by decide) ?_
        refine mw_putF (v := .int 0) (ty := .boolean) (ci := 2) (C := R_Pt) (T := T_Pt) (N := 8) J i_Pt t_Pt o_Pt n_Pt hK hP hS (va_up_self _ _ _) rfl 6 (by decide) (hts _ k_85) (fun _ h9 => h9) rfl hnm rfl rfl rfl rfl (Nat.le_of_ble_eq_true rfl) d_Pt_init_189 (fun H locs hP hS => ?_)
        have hk : ∀ z e, z ≠ a → M z = some e → (va_up (va_up (va_up (va_up (va_up M2 a (some (.inr (2, [.ref (ad 0), .ref (ad 1), .int (nI (rk_varsn P i)), .int 0, .int 0, .int 0, .int 0, .int 0])))) a (some (.inr (2, [.ref (ad 0), .ref (ad 1), .int (nI (rk_varsn P i)), .int (nI (rk_m (rk_upto (rk_num P) i))), .int 0, .int 0, .int 0, .int 0])))) a (some (.inr (2, [.ref (ad 0), .ref (ad 1), .int (nI (rk_varsn P i)), .int (nI (rk_m (rk_upto (rk_num P) i))), .int (nI (rk_v (rk_upto (rk_num P) i) (rk_at P))), .int 0, .int 0, .int 0])))) a (some (.inr (2, [.ref (ad 0), .ref (ad 1), .int (nI (rk_varsn P i)), .int (nI (rk_m (rk_upto (rk_num P) i))), .int (nI (rk_v (rk_upto (rk_num P) i) (rk_at P))), .int 0, .int 0, .int 0])))) a (some (.inr (2, [.ref (ad 0), .ref (ad 1), .int (nI (rk_varsn P i)), .int (nI (rk_m (rk_upto (rk_num P) i))), .int (nI (rk_v (rk_upto (rk_num P) i) (rk_at P))), .int 0, .int 0, .int 0])))) z = some e := fun z e hz he => (va_up_ne _ _ (hz_a z e hz he)).trans (hk z e hz he)
        have hP : mw_P D k_cl (va_up (va_up (va_up (va_up (va_up M2 a (some (.inr (2, [.ref (ad 0), .ref (ad 1), .int (nI (rk_varsn P i)), .int 0, .int 0, .int 0, .int 0, .int 0])))) a (some (.inr (2, [.ref (ad 0), .ref (ad 1), .int (nI (rk_varsn P i)), .int (nI (rk_m (rk_upto (rk_num P) i))), .int 0, .int 0, .int 0, .int 0])))) a (some (.inr (2, [.ref (ad 0), .ref (ad 1), .int (nI (rk_varsn P i)), .int (nI (rk_m (rk_upto (rk_num P) i))), .int (nI (rk_v (rk_upto (rk_num P) i) (rk_at P))), .int 0, .int 0, .int 0])))) a (some (.inr (2, [.ref (ad 0), .ref (ad 1), .int (nI (rk_varsn P i)), .int (nI (rk_m (rk_upto (rk_num P) i))), .int (nI (rk_v (rk_upto (rk_num P) i) (rk_at P))), .int 0, .int 0, .int 0])))) a (some (.inr (2, [.ref (ad 0), .ref (ad 1), .int (nI (rk_varsn P i)), .int (nI (rk_m (rk_upto (rk_num P) i))), .int (nI (rk_v (rk_upto (rk_num P) i) (rk_at P))), .int 0, .int 0, .int 0])))) _ H := hP
        refine lv_aload_n hx hb d_Pt_init_192 rfl (lv_at hl 0 rfl) ?_
        refine lv_iload_n hx hb d_Pt_init_193 rfl (lv_at hl 2 rfl) ?_
        refine lv_iload_n hx hb d_Pt_init_194 rfl (lv_at hl 3 rfl) ?_
        refine lv_icmp_ne (tgt := 202) hx hb d_Pt_init_195 (by decide) (fun c_195 => ?_) (fun c_195 => ?_)
        · have w12 : ¬ rk_at P 1 = rk_at P 2 := fun z => c_195 ((rk_iv_cmp hok (by omega) (by omega)).mpr z)
          refine lv_iconst (v := 0) hx hb d_Pt_init_202 (by decide) ?_
          refine mw_putF (v := .int 0) (ty := .boolean) (ci := 2) (C := R_Pt) (T := T_Pt) (N := 8) J i_Pt t_Pt o_Pt n_Pt hK hP hS (va_up_self _ _ _) rfl 7 (by decide) (hts _ k_86) (fun _ h9 => h9) rfl hnm rfl rfl rfl rfl (Nat.le_of_ble_eq_true rfl) d_Pt_init_203 (fun H locs hP hS => ?_)
          have hk : ∀ z e, z ≠ a → M z = some e → (va_up (va_up (va_up (va_up (va_up (va_up M2 a (some (.inr (2, [.ref (ad 0), .ref (ad 1), .int (nI (rk_varsn P i)), .int 0, .int 0, .int 0, .int 0, .int 0])))) a (some (.inr (2, [.ref (ad 0), .ref (ad 1), .int (nI (rk_varsn P i)), .int (nI (rk_m (rk_upto (rk_num P) i))), .int 0, .int 0, .int 0, .int 0])))) a (some (.inr (2, [.ref (ad 0), .ref (ad 1), .int (nI (rk_varsn P i)), .int (nI (rk_m (rk_upto (rk_num P) i))), .int (nI (rk_v (rk_upto (rk_num P) i) (rk_at P))), .int 0, .int 0, .int 0])))) a (some (.inr (2, [.ref (ad 0), .ref (ad 1), .int (nI (rk_varsn P i)), .int (nI (rk_m (rk_upto (rk_num P) i))), .int (nI (rk_v (rk_upto (rk_num P) i) (rk_at P))), .int 0, .int 0, .int 0])))) a (some (.inr (2, [.ref (ad 0), .ref (ad 1), .int (nI (rk_varsn P i)), .int (nI (rk_m (rk_upto (rk_num P) i))), .int (nI (rk_v (rk_upto (rk_num P) i) (rk_at P))), .int 0, .int 0, .int 0])))) a (some (.inr (2, [.ref (ad 0), .ref (ad 1), .int (nI (rk_varsn P i)), .int (nI (rk_m (rk_upto (rk_num P) i))), .int (nI (rk_v (rk_upto (rk_num P) i) (rk_at P))), .int 0, .int 0, .int 0])))) z = some e := fun z e hz he => (va_up_ne _ _ (hz_a z e hz he)).trans (hk z e hz he)
          have hP : mw_P D k_cl (va_up (va_up (va_up (va_up (va_up (va_up M2 a (some (.inr (2, [.ref (ad 0), .ref (ad 1), .int (nI (rk_varsn P i)), .int 0, .int 0, .int 0, .int 0, .int 0])))) a (some (.inr (2, [.ref (ad 0), .ref (ad 1), .int (nI (rk_varsn P i)), .int (nI (rk_m (rk_upto (rk_num P) i))), .int 0, .int 0, .int 0, .int 0])))) a (some (.inr (2, [.ref (ad 0), .ref (ad 1), .int (nI (rk_varsn P i)), .int (nI (rk_m (rk_upto (rk_num P) i))), .int (nI (rk_v (rk_upto (rk_num P) i) (rk_at P))), .int 0, .int 0, .int 0])))) a (some (.inr (2, [.ref (ad 0), .ref (ad 1), .int (nI (rk_varsn P i)), .int (nI (rk_m (rk_upto (rk_num P) i))), .int (nI (rk_v (rk_upto (rk_num P) i) (rk_at P))), .int 0, .int 0, .int 0])))) a (some (.inr (2, [.ref (ad 0), .ref (ad 1), .int (nI (rk_varsn P i)), .int (nI (rk_m (rk_upto (rk_num P) i))), .int (nI (rk_v (rk_upto (rk_num P) i) (rk_at P))), .int 0, .int 0, .int 0])))) a (some (.inr (2, [.ref (ad 0), .ref (ad 1), .int (nI (rk_varsn P i)), .int (nI (rk_m (rk_upto (rk_num P) i))), .int (nI (rk_v (rk_upto (rk_num P) i) (rk_at P))), .int 0, .int 0, .int 0])))) _ H := hP
          have hfin : k_pat cI (va_up (va_up (va_up (va_up (va_up (va_up M2 a (some (.inr (2, [.ref (ad 0), .ref (ad 1), .int (nI (rk_varsn P i)), .int 0, .int 0, .int 0, .int 0, .int 0])))) a (some (.inr (2, [.ref (ad 0), .ref (ad 1), .int (nI (rk_varsn P i)), .int (nI (rk_m (rk_upto (rk_num P) i))), .int 0, .int 0, .int 0, .int 0])))) a (some (.inr (2, [.ref (ad 0), .ref (ad 1), .int (nI (rk_varsn P i)), .int (nI (rk_m (rk_upto (rk_num P) i))), .int (nI (rk_v (rk_upto (rk_num P) i) (rk_at P))), .int 0, .int 0, .int 0])))) a (some (.inr (2, [.ref (ad 0), .ref (ad 1), .int (nI (rk_varsn P i)), .int (nI (rk_m (rk_upto (rk_num P) i))), .int (nI (rk_v (rk_upto (rk_num P) i) (rk_at P))), .int 0, .int 0, .int 0])))) a (some (.inr (2, [.ref (ad 0), .ref (ad 1), .int (nI (rk_varsn P i)), .int (nI (rk_m (rk_upto (rk_num P) i))), .int (nI (rk_v (rk_upto (rk_num P) i) (rk_at P))), .int 0, .int 0, .int 0])))) a (some (.inr (2, [.ref (ad 0), .ref (ad 1), .int (nI (rk_varsn P i)), .int (nI (rk_m (rk_upto (rk_num P) i))), .int (nI (rk_v (rk_upto (rk_num P) i) (rk_at P))), .int 0, .int 0, .int 0])))) a P := by
            refine ⟨hok, ad 0, ad 1, fb, fq, ?_, ((va_up_ne _ _ (hoa 0 (by decide))).trans ((va_up_ne _ _ (hoa 0 (by decide))).trans ((va_up_ne _ _ (hoa 0 (by decide))).trans ((va_up_ne _ _ (hoa 0 (by decide))).trans ((va_up_ne _ _ (hoa 0 (by decide))).trans ((va_up_ne _ _ (hoa 0 (by decide))).trans qb)))))), ((va_up_ne _ _ (hoa 1 (by decide))).trans ((va_up_ne _ _ (hoa 1 (by decide))).trans ((va_up_ne _ _ (hoa 1 (by decide))).trans ((va_up_ne _ _ (hoa 1 (by decide))).trans ((va_up_ne _ _ (hoa 1 (by decide))).trans ((va_up_ne _ _ (hoa 1 (by decide))).trans qq)))))), fun j hj => by rw [hfb j hj, if_pos (by omega)], fun j hj => by rw [hfq j hj, if_pos (by omega)]⟩
            have e1 : k_pf P (ad 0) (ad 1) = [.ref (ad 0), .ref (ad 1), .int (nI (rk_varsn P i)), .int (nI (rk_m (rk_upto (rk_num P) i))), .int (nI (rk_v (rk_upto (rk_num P) i) (rk_at P))), .int 0, .int 0, .int 0] := by
              unfold k_pf rk_vars rk_eqi
              rw [hi3, rk_m_3, rk_v_3, if_neg w01, if_neg w02, if_neg w12]
            rw [e1]
            exact (va_up_self _ _ _)
          exact mw_vret J hr hlk hP hS d_Pt_init_206 (⟨hfin, hk⟩)
        · have w12 : rk_at P 1 = rk_at P 2 := (rk_iv_cmp hok (by omega) (by omega)).mp c_195
          refine lv_iconst (v := 1) hx hb d_Pt_init_198 (by decide) ?_
          refine lv_goto (tgt := 203) hx hb d_Pt_init_199 (by decide) ?_
          refine mw_putF (v := .int 1) (ty := .boolean) (ci := 2) (C := R_Pt) (T := T_Pt) (N := 8) J i_Pt t_Pt o_Pt n_Pt hK hP hS (va_up_self _ _ _) rfl 7 (by decide) (hts _ k_86) (fun _ h9 => h9) rfl hnm rfl rfl rfl rfl (Nat.le_of_ble_eq_true rfl) d_Pt_init_203 (fun H locs hP hS => ?_)
          have hk : ∀ z e, z ≠ a → M z = some e → (va_up (va_up (va_up (va_up (va_up (va_up M2 a (some (.inr (2, [.ref (ad 0), .ref (ad 1), .int (nI (rk_varsn P i)), .int 0, .int 0, .int 0, .int 0, .int 0])))) a (some (.inr (2, [.ref (ad 0), .ref (ad 1), .int (nI (rk_varsn P i)), .int (nI (rk_m (rk_upto (rk_num P) i))), .int 0, .int 0, .int 0, .int 0])))) a (some (.inr (2, [.ref (ad 0), .ref (ad 1), .int (nI (rk_varsn P i)), .int (nI (rk_m (rk_upto (rk_num P) i))), .int (nI (rk_v (rk_upto (rk_num P) i) (rk_at P))), .int 0, .int 0, .int 0])))) a (some (.inr (2, [.ref (ad 0), .ref (ad 1), .int (nI (rk_varsn P i)), .int (nI (rk_m (rk_upto (rk_num P) i))), .int (nI (rk_v (rk_upto (rk_num P) i) (rk_at P))), .int 0, .int 0, .int 0])))) a (some (.inr (2, [.ref (ad 0), .ref (ad 1), .int (nI (rk_varsn P i)), .int (nI (rk_m (rk_upto (rk_num P) i))), .int (nI (rk_v (rk_upto (rk_num P) i) (rk_at P))), .int 0, .int 0, .int 0])))) a (some (.inr (2, [.ref (ad 0), .ref (ad 1), .int (nI (rk_varsn P i)), .int (nI (rk_m (rk_upto (rk_num P) i))), .int (nI (rk_v (rk_upto (rk_num P) i) (rk_at P))), .int 0, .int 0, .int 1])))) z = some e := fun z e hz he => (va_up_ne _ _ (hz_a z e hz he)).trans (hk z e hz he)
          have hP : mw_P D k_cl (va_up (va_up (va_up (va_up (va_up (va_up M2 a (some (.inr (2, [.ref (ad 0), .ref (ad 1), .int (nI (rk_varsn P i)), .int 0, .int 0, .int 0, .int 0, .int 0])))) a (some (.inr (2, [.ref (ad 0), .ref (ad 1), .int (nI (rk_varsn P i)), .int (nI (rk_m (rk_upto (rk_num P) i))), .int 0, .int 0, .int 0, .int 0])))) a (some (.inr (2, [.ref (ad 0), .ref (ad 1), .int (nI (rk_varsn P i)), .int (nI (rk_m (rk_upto (rk_num P) i))), .int (nI (rk_v (rk_upto (rk_num P) i) (rk_at P))), .int 0, .int 0, .int 0])))) a (some (.inr (2, [.ref (ad 0), .ref (ad 1), .int (nI (rk_varsn P i)), .int (nI (rk_m (rk_upto (rk_num P) i))), .int (nI (rk_v (rk_upto (rk_num P) i) (rk_at P))), .int 0, .int 0, .int 0])))) a (some (.inr (2, [.ref (ad 0), .ref (ad 1), .int (nI (rk_varsn P i)), .int (nI (rk_m (rk_upto (rk_num P) i))), .int (nI (rk_v (rk_upto (rk_num P) i) (rk_at P))), .int 0, .int 0, .int 0])))) a (some (.inr (2, [.ref (ad 0), .ref (ad 1), .int (nI (rk_varsn P i)), .int (nI (rk_m (rk_upto (rk_num P) i))), .int (nI (rk_v (rk_upto (rk_num P) i) (rk_at P))), .int 0, .int 0, .int 1])))) _ H := hP
          have hfin : k_pat cI (va_up (va_up (va_up (va_up (va_up (va_up M2 a (some (.inr (2, [.ref (ad 0), .ref (ad 1), .int (nI (rk_varsn P i)), .int 0, .int 0, .int 0, .int 0, .int 0])))) a (some (.inr (2, [.ref (ad 0), .ref (ad 1), .int (nI (rk_varsn P i)), .int (nI (rk_m (rk_upto (rk_num P) i))), .int 0, .int 0, .int 0, .int 0])))) a (some (.inr (2, [.ref (ad 0), .ref (ad 1), .int (nI (rk_varsn P i)), .int (nI (rk_m (rk_upto (rk_num P) i))), .int (nI (rk_v (rk_upto (rk_num P) i) (rk_at P))), .int 0, .int 0, .int 0])))) a (some (.inr (2, [.ref (ad 0), .ref (ad 1), .int (nI (rk_varsn P i)), .int (nI (rk_m (rk_upto (rk_num P) i))), .int (nI (rk_v (rk_upto (rk_num P) i) (rk_at P))), .int 0, .int 0, .int 0])))) a (some (.inr (2, [.ref (ad 0), .ref (ad 1), .int (nI (rk_varsn P i)), .int (nI (rk_m (rk_upto (rk_num P) i))), .int (nI (rk_v (rk_upto (rk_num P) i) (rk_at P))), .int 0, .int 0, .int 0])))) a (some (.inr (2, [.ref (ad 0), .ref (ad 1), .int (nI (rk_varsn P i)), .int (nI (rk_m (rk_upto (rk_num P) i))), .int (nI (rk_v (rk_upto (rk_num P) i) (rk_at P))), .int 0, .int 0, .int 1])))) a P := by
            refine ⟨hok, ad 0, ad 1, fb, fq, ?_, ((va_up_ne _ _ (hoa 0 (by decide))).trans ((va_up_ne _ _ (hoa 0 (by decide))).trans ((va_up_ne _ _ (hoa 0 (by decide))).trans ((va_up_ne _ _ (hoa 0 (by decide))).trans ((va_up_ne _ _ (hoa 0 (by decide))).trans ((va_up_ne _ _ (hoa 0 (by decide))).trans qb)))))), ((va_up_ne _ _ (hoa 1 (by decide))).trans ((va_up_ne _ _ (hoa 1 (by decide))).trans ((va_up_ne _ _ (hoa 1 (by decide))).trans ((va_up_ne _ _ (hoa 1 (by decide))).trans ((va_up_ne _ _ (hoa 1 (by decide))).trans ((va_up_ne _ _ (hoa 1 (by decide))).trans qq)))))), fun j hj => by rw [hfb j hj, if_pos (by omega)], fun j hj => by rw [hfq j hj, if_pos (by omega)]⟩
            have e1 : k_pf P (ad 0) (ad 1) = [.ref (ad 0), .ref (ad 1), .int (nI (rk_varsn P i)), .int (nI (rk_m (rk_upto (rk_num P) i))), .int (nI (rk_v (rk_upto (rk_num P) i) (rk_at P))), .int 0, .int 0, .int 1] := by
              unfold k_pf rk_vars rk_eqi
              rw [hi3, rk_m_3, rk_v_3, if_neg w01, if_neg w02, if_pos w12]
            rw [e1]
            exact (va_up_self _ _ _)
          exact mw_vret J hr hlk hP hS d_Pt_init_206 (⟨hfin, hk⟩)
      · have w02 : rk_at P 0 = rk_at P 2 := (rk_iv_cmp hok (by omega) (by omega)).mp c_181
        refine lv_iconst (v := 1) hx hb d_Pt_init_184 (by decide) ?_
        refine lv_goto (tgt := 189) hx hb d_Pt_init_185 (by decide) ?_
        refine mw_putF (v := .int 1) (ty := .boolean) (ci := 2) (C := R_Pt) (T := T_Pt) (N := 8) J i_Pt t_Pt o_Pt n_Pt hK hP hS (va_up_self _ _ _) rfl 6 (by decide) (hts _ k_85) (fun _ h9 => h9) rfl hnm rfl rfl rfl rfl (Nat.le_of_ble_eq_true rfl) d_Pt_init_189 (fun H locs hP hS => ?_)
        have hk : ∀ z e, z ≠ a → M z = some e → (va_up (va_up (va_up (va_up (va_up M2 a (some (.inr (2, [.ref (ad 0), .ref (ad 1), .int (nI (rk_varsn P i)), .int 0, .int 0, .int 0, .int 0, .int 0])))) a (some (.inr (2, [.ref (ad 0), .ref (ad 1), .int (nI (rk_varsn P i)), .int (nI (rk_m (rk_upto (rk_num P) i))), .int 0, .int 0, .int 0, .int 0])))) a (some (.inr (2, [.ref (ad 0), .ref (ad 1), .int (nI (rk_varsn P i)), .int (nI (rk_m (rk_upto (rk_num P) i))), .int (nI (rk_v (rk_upto (rk_num P) i) (rk_at P))), .int 0, .int 0, .int 0])))) a (some (.inr (2, [.ref (ad 0), .ref (ad 1), .int (nI (rk_varsn P i)), .int (nI (rk_m (rk_upto (rk_num P) i))), .int (nI (rk_v (rk_upto (rk_num P) i) (rk_at P))), .int 0, .int 0, .int 0])))) a (some (.inr (2, [.ref (ad 0), .ref (ad 1), .int (nI (rk_varsn P i)), .int (nI (rk_m (rk_upto (rk_num P) i))), .int (nI (rk_v (rk_upto (rk_num P) i) (rk_at P))), .int 0, .int 1, .int 0])))) z = some e := fun z e hz he => (va_up_ne _ _ (hz_a z e hz he)).trans (hk z e hz he)
        have hP : mw_P D k_cl (va_up (va_up (va_up (va_up (va_up M2 a (some (.inr (2, [.ref (ad 0), .ref (ad 1), .int (nI (rk_varsn P i)), .int 0, .int 0, .int 0, .int 0, .int 0])))) a (some (.inr (2, [.ref (ad 0), .ref (ad 1), .int (nI (rk_varsn P i)), .int (nI (rk_m (rk_upto (rk_num P) i))), .int 0, .int 0, .int 0, .int 0])))) a (some (.inr (2, [.ref (ad 0), .ref (ad 1), .int (nI (rk_varsn P i)), .int (nI (rk_m (rk_upto (rk_num P) i))), .int (nI (rk_v (rk_upto (rk_num P) i) (rk_at P))), .int 0, .int 0, .int 0])))) a (some (.inr (2, [.ref (ad 0), .ref (ad 1), .int (nI (rk_varsn P i)), .int (nI (rk_m (rk_upto (rk_num P) i))), .int (nI (rk_v (rk_upto (rk_num P) i) (rk_at P))), .int 0, .int 0, .int 0])))) a (some (.inr (2, [.ref (ad 0), .ref (ad 1), .int (nI (rk_varsn P i)), .int (nI (rk_m (rk_upto (rk_num P) i))), .int (nI (rk_v (rk_upto (rk_num P) i) (rk_at P))), .int 0, .int 1, .int 0])))) _ H := hP
        refine lv_aload_n hx hb d_Pt_init_192 rfl (lv_at hl 0 rfl) ?_
        refine lv_iload_n hx hb d_Pt_init_193 rfl (lv_at hl 2 rfl) ?_
        refine lv_iload_n hx hb d_Pt_init_194 rfl (lv_at hl 3 rfl) ?_
        refine lv_icmp_ne (tgt := 202) hx hb d_Pt_init_195 (by decide) (fun c_195 => ?_) (fun c_195 => ?_)
        · have w12 : ¬ rk_at P 1 = rk_at P 2 := fun z => c_195 ((rk_iv_cmp hok (by omega) (by omega)).mpr z)
          refine lv_iconst (v := 0) hx hb d_Pt_init_202 (by decide) ?_
          refine mw_putF (v := .int 0) (ty := .boolean) (ci := 2) (C := R_Pt) (T := T_Pt) (N := 8) J i_Pt t_Pt o_Pt n_Pt hK hP hS (va_up_self _ _ _) rfl 7 (by decide) (hts _ k_86) (fun _ h9 => h9) rfl hnm rfl rfl rfl rfl (Nat.le_of_ble_eq_true rfl) d_Pt_init_203 (fun H locs hP hS => ?_)
          have hk : ∀ z e, z ≠ a → M z = some e → (va_up (va_up (va_up (va_up (va_up (va_up M2 a (some (.inr (2, [.ref (ad 0), .ref (ad 1), .int (nI (rk_varsn P i)), .int 0, .int 0, .int 0, .int 0, .int 0])))) a (some (.inr (2, [.ref (ad 0), .ref (ad 1), .int (nI (rk_varsn P i)), .int (nI (rk_m (rk_upto (rk_num P) i))), .int 0, .int 0, .int 0, .int 0])))) a (some (.inr (2, [.ref (ad 0), .ref (ad 1), .int (nI (rk_varsn P i)), .int (nI (rk_m (rk_upto (rk_num P) i))), .int (nI (rk_v (rk_upto (rk_num P) i) (rk_at P))), .int 0, .int 0, .int 0])))) a (some (.inr (2, [.ref (ad 0), .ref (ad 1), .int (nI (rk_varsn P i)), .int (nI (rk_m (rk_upto (rk_num P) i))), .int (nI (rk_v (rk_upto (rk_num P) i) (rk_at P))), .int 0, .int 0, .int 0])))) a (some (.inr (2, [.ref (ad 0), .ref (ad 1), .int (nI (rk_varsn P i)), .int (nI (rk_m (rk_upto (rk_num P) i))), .int (nI (rk_v (rk_upto (rk_num P) i) (rk_at P))), .int 0, .int 1, .int 0])))) a (some (.inr (2, [.ref (ad 0), .ref (ad 1), .int (nI (rk_varsn P i)), .int (nI (rk_m (rk_upto (rk_num P) i))), .int (nI (rk_v (rk_upto (rk_num P) i) (rk_at P))), .int 0, .int 1, .int 0])))) z = some e := fun z e hz he => (va_up_ne _ _ (hz_a z e hz he)).trans (hk z e hz he)
          have hP : mw_P D k_cl (va_up (va_up (va_up (va_up (va_up (va_up M2 a (some (.inr (2, [.ref (ad 0), .ref (ad 1), .int (nI (rk_varsn P i)), .int 0, .int 0, .int 0, .int 0, .int 0])))) a (some (.inr (2, [.ref (ad 0), .ref (ad 1), .int (nI (rk_varsn P i)), .int (nI (rk_m (rk_upto (rk_num P) i))), .int 0, .int 0, .int 0, .int 0])))) a (some (.inr (2, [.ref (ad 0), .ref (ad 1), .int (nI (rk_varsn P i)), .int (nI (rk_m (rk_upto (rk_num P) i))), .int (nI (rk_v (rk_upto (rk_num P) i) (rk_at P))), .int 0, .int 0, .int 0])))) a (some (.inr (2, [.ref (ad 0), .ref (ad 1), .int (nI (rk_varsn P i)), .int (nI (rk_m (rk_upto (rk_num P) i))), .int (nI (rk_v (rk_upto (rk_num P) i) (rk_at P))), .int 0, .int 0, .int 0])))) a (some (.inr (2, [.ref (ad 0), .ref (ad 1), .int (nI (rk_varsn P i)), .int (nI (rk_m (rk_upto (rk_num P) i))), .int (nI (rk_v (rk_upto (rk_num P) i) (rk_at P))), .int 0, .int 1, .int 0])))) a (some (.inr (2, [.ref (ad 0), .ref (ad 1), .int (nI (rk_varsn P i)), .int (nI (rk_m (rk_upto (rk_num P) i))), .int (nI (rk_v (rk_upto (rk_num P) i) (rk_at P))), .int 0, .int 1, .int 0])))) _ H := hP
          have hfin : k_pat cI (va_up (va_up (va_up (va_up (va_up (va_up M2 a (some (.inr (2, [.ref (ad 0), .ref (ad 1), .int (nI (rk_varsn P i)), .int 0, .int 0, .int 0, .int 0, .int 0])))) a (some (.inr (2, [.ref (ad 0), .ref (ad 1), .int (nI (rk_varsn P i)), .int (nI (rk_m (rk_upto (rk_num P) i))), .int 0, .int 0, .int 0, .int 0])))) a (some (.inr (2, [.ref (ad 0), .ref (ad 1), .int (nI (rk_varsn P i)), .int (nI (rk_m (rk_upto (rk_num P) i))), .int (nI (rk_v (rk_upto (rk_num P) i) (rk_at P))), .int 0, .int 0, .int 0])))) a (some (.inr (2, [.ref (ad 0), .ref (ad 1), .int (nI (rk_varsn P i)), .int (nI (rk_m (rk_upto (rk_num P) i))), .int (nI (rk_v (rk_upto (rk_num P) i) (rk_at P))), .int 0, .int 0, .int 0])))) a (some (.inr (2, [.ref (ad 0), .ref (ad 1), .int (nI (rk_varsn P i)), .int (nI (rk_m (rk_upto (rk_num P) i))), .int (nI (rk_v (rk_upto (rk_num P) i) (rk_at P))), .int 0, .int 1, .int 0])))) a (some (.inr (2, [.ref (ad 0), .ref (ad 1), .int (nI (rk_varsn P i)), .int (nI (rk_m (rk_upto (rk_num P) i))), .int (nI (rk_v (rk_upto (rk_num P) i) (rk_at P))), .int 0, .int 1, .int 0])))) a P := by
            refine ⟨hok, ad 0, ad 1, fb, fq, ?_, ((va_up_ne _ _ (hoa 0 (by decide))).trans ((va_up_ne _ _ (hoa 0 (by decide))).trans ((va_up_ne _ _ (hoa 0 (by decide))).trans ((va_up_ne _ _ (hoa 0 (by decide))).trans ((va_up_ne _ _ (hoa 0 (by decide))).trans ((va_up_ne _ _ (hoa 0 (by decide))).trans qb)))))), ((va_up_ne _ _ (hoa 1 (by decide))).trans ((va_up_ne _ _ (hoa 1 (by decide))).trans ((va_up_ne _ _ (hoa 1 (by decide))).trans ((va_up_ne _ _ (hoa 1 (by decide))).trans ((va_up_ne _ _ (hoa 1 (by decide))).trans ((va_up_ne _ _ (hoa 1 (by decide))).trans qq)))))), fun j hj => by rw [hfb j hj, if_pos (by omega)], fun j hj => by rw [hfq j hj, if_pos (by omega)]⟩
            have e1 : k_pf P (ad 0) (ad 1) = [.ref (ad 0), .ref (ad 1), .int (nI (rk_varsn P i)), .int (nI (rk_m (rk_upto (rk_num P) i))), .int (nI (rk_v (rk_upto (rk_num P) i) (rk_at P))), .int 0, .int 1, .int 0] := by
              unfold k_pf rk_vars rk_eqi
              rw [hi3, rk_m_3, rk_v_3, if_neg w01, if_pos w02, if_neg w12]
            rw [e1]
            exact (va_up_self _ _ _)
          exact mw_vret J hr hlk hP hS d_Pt_init_206 (⟨hfin, hk⟩)
        · have w12 : rk_at P 1 = rk_at P 2 := (rk_iv_cmp hok (by omega) (by omega)).mp c_195
          refine lv_iconst (v := 1) hx hb d_Pt_init_198 (by decide) ?_
          refine lv_goto (tgt := 203) hx hb d_Pt_init_199 (by decide) ?_
          refine mw_putF (v := .int 1) (ty := .boolean) (ci := 2) (C := R_Pt) (T := T_Pt) (N := 8) J i_Pt t_Pt o_Pt n_Pt hK hP hS (va_up_self _ _ _) rfl 7 (by decide) (hts _ k_86) (fun _ h9 => h9) rfl hnm rfl rfl rfl rfl (Nat.le_of_ble_eq_true rfl) d_Pt_init_203 (fun H locs hP hS => ?_)
          have hk : ∀ z e, z ≠ a → M z = some e → (va_up (va_up (va_up (va_up (va_up (va_up M2 a (some (.inr (2, [.ref (ad 0), .ref (ad 1), .int (nI (rk_varsn P i)), .int 0, .int 0, .int 0, .int 0, .int 0])))) a (some (.inr (2, [.ref (ad 0), .ref (ad 1), .int (nI (rk_varsn P i)), .int (nI (rk_m (rk_upto (rk_num P) i))), .int 0, .int 0, .int 0, .int 0])))) a (some (.inr (2, [.ref (ad 0), .ref (ad 1), .int (nI (rk_varsn P i)), .int (nI (rk_m (rk_upto (rk_num P) i))), .int (nI (rk_v (rk_upto (rk_num P) i) (rk_at P))), .int 0, .int 0, .int 0])))) a (some (.inr (2, [.ref (ad 0), .ref (ad 1), .int (nI (rk_varsn P i)), .int (nI (rk_m (rk_upto (rk_num P) i))), .int (nI (rk_v (rk_upto (rk_num P) i) (rk_at P))), .int 0, .int 0, .int 0])))) a (some (.inr (2, [.ref (ad 0), .ref (ad 1), .int (nI (rk_varsn P i)), .int (nI (rk_m (rk_upto (rk_num P) i))), .int (nI (rk_v (rk_upto (rk_num P) i) (rk_at P))), .int 0, .int 1, .int 0])))) a (some (.inr (2, [.ref (ad 0), .ref (ad 1), .int (nI (rk_varsn P i)), .int (nI (rk_m (rk_upto (rk_num P) i))), .int (nI (rk_v (rk_upto (rk_num P) i) (rk_at P))), .int 0, .int 1, .int 1])))) z = some e := fun z e hz he => (va_up_ne _ _ (hz_a z e hz he)).trans (hk z e hz he)
          have hP : mw_P D k_cl (va_up (va_up (va_up (va_up (va_up (va_up M2 a (some (.inr (2, [.ref (ad 0), .ref (ad 1), .int (nI (rk_varsn P i)), .int 0, .int 0, .int 0, .int 0, .int 0])))) a (some (.inr (2, [.ref (ad 0), .ref (ad 1), .int (nI (rk_varsn P i)), .int (nI (rk_m (rk_upto (rk_num P) i))), .int 0, .int 0, .int 0, .int 0])))) a (some (.inr (2, [.ref (ad 0), .ref (ad 1), .int (nI (rk_varsn P i)), .int (nI (rk_m (rk_upto (rk_num P) i))), .int (nI (rk_v (rk_upto (rk_num P) i) (rk_at P))), .int 0, .int 0, .int 0])))) a (some (.inr (2, [.ref (ad 0), .ref (ad 1), .int (nI (rk_varsn P i)), .int (nI (rk_m (rk_upto (rk_num P) i))), .int (nI (rk_v (rk_upto (rk_num P) i) (rk_at P))), .int 0, .int 0, .int 0])))) a (some (.inr (2, [.ref (ad 0), .ref (ad 1), .int (nI (rk_varsn P i)), .int (nI (rk_m (rk_upto (rk_num P) i))), .int (nI (rk_v (rk_upto (rk_num P) i) (rk_at P))), .int 0, .int 1, .int 0])))) a (some (.inr (2, [.ref (ad 0), .ref (ad 1), .int (nI (rk_varsn P i)), .int (nI (rk_m (rk_upto (rk_num P) i))), .int (nI (rk_v (rk_upto (rk_num P) i) (rk_at P))), .int 0, .int 1, .int 1])))) _ H := hP
          have hfin : k_pat cI (va_up (va_up (va_up (va_up (va_up (va_up M2 a (some (.inr (2, [.ref (ad 0), .ref (ad 1), .int (nI (rk_varsn P i)), .int 0, .int 0, .int 0, .int 0, .int 0])))) a (some (.inr (2, [.ref (ad 0), .ref (ad 1), .int (nI (rk_varsn P i)), .int (nI (rk_m (rk_upto (rk_num P) i))), .int 0, .int 0, .int 0, .int 0])))) a (some (.inr (2, [.ref (ad 0), .ref (ad 1), .int (nI (rk_varsn P i)), .int (nI (rk_m (rk_upto (rk_num P) i))), .int (nI (rk_v (rk_upto (rk_num P) i) (rk_at P))), .int 0, .int 0, .int 0])))) a (some (.inr (2, [.ref (ad 0), .ref (ad 1), .int (nI (rk_varsn P i)), .int (nI (rk_m (rk_upto (rk_num P) i))), .int (nI (rk_v (rk_upto (rk_num P) i) (rk_at P))), .int 0, .int 0, .int 0])))) a (some (.inr (2, [.ref (ad 0), .ref (ad 1), .int (nI (rk_varsn P i)), .int (nI (rk_m (rk_upto (rk_num P) i))), .int (nI (rk_v (rk_upto (rk_num P) i) (rk_at P))), .int 0, .int 1, .int 0])))) a (some (.inr (2, [.ref (ad 0), .ref (ad 1), .int (nI (rk_varsn P i)), .int (nI (rk_m (rk_upto (rk_num P) i))), .int (nI (rk_v (rk_upto (rk_num P) i) (rk_at P))), .int 0, .int 1, .int 1])))) a P := by
            refine ⟨hok, ad 0, ad 1, fb, fq, ?_, ((va_up_ne _ _ (hoa 0 (by decide))).trans ((va_up_ne _ _ (hoa 0 (by decide))).trans ((va_up_ne _ _ (hoa 0 (by decide))).trans ((va_up_ne _ _ (hoa 0 (by decide))).trans ((va_up_ne _ _ (hoa 0 (by decide))).trans ((va_up_ne _ _ (hoa 0 (by decide))).trans qb)))))), ((va_up_ne _ _ (hoa 1 (by decide))).trans ((va_up_ne _ _ (hoa 1 (by decide))).trans ((va_up_ne _ _ (hoa 1 (by decide))).trans ((va_up_ne _ _ (hoa 1 (by decide))).trans ((va_up_ne _ _ (hoa 1 (by decide))).trans ((va_up_ne _ _ (hoa 1 (by decide))).trans qq)))))), fun j hj => by rw [hfb j hj, if_pos (by omega)], fun j hj => by rw [hfq j hj, if_pos (by omega)]⟩
            have e1 : k_pf P (ad 0) (ad 1) = [.ref (ad 0), .ref (ad 1), .int (nI (rk_varsn P i)), .int (nI (rk_m (rk_upto (rk_num P) i))), .int (nI (rk_v (rk_upto (rk_num P) i) (rk_at P))), .int 0, .int 1, .int 1] := by
              unfold k_pf rk_vars rk_eqi
              rw [hi3, rk_m_3, rk_v_3, if_neg w01, if_pos w02, if_pos w12]
            rw [e1]
            exact (va_up_self _ _ _)
          exact mw_vret J hr hlk hP hS d_Pt_init_206 (⟨hfin, hk⟩)
    · have w01 : rk_at P 0 = rk_at P 1 := (rk_iv_cmp hok (by omega) (by omega)).mp c_167
      refine lv_iconst (v := 1) hx hb d_Pt_init_170 (by decide) ?_
      refine lv_goto (tgt := 175) hx hb d_Pt_init_171 (by decide) ?_
      refine mw_putF (v := .int 1) (ty := .boolean) (ci := 2) (C := R_Pt) (T := T_Pt) (N := 8) J i_Pt t_Pt o_Pt n_Pt hK hP hS (va_up_self _ _ _) rfl 5 (by decide) (hts _ k_84) (fun _ h9 => h9) rfl hnm rfl rfl rfl rfl (Nat.le_of_ble_eq_true rfl) d_Pt_init_175 (fun H locs hP hS => ?_)
      have hk : ∀ z e, z ≠ a → M z = some e → (va_up (va_up (va_up (va_up M2 a (some (.inr (2, [.ref (ad 0), .ref (ad 1), .int (nI (rk_varsn P i)), .int 0, .int 0, .int 0, .int 0, .int 0])))) a (some (.inr (2, [.ref (ad 0), .ref (ad 1), .int (nI (rk_varsn P i)), .int (nI (rk_m (rk_upto (rk_num P) i))), .int 0, .int 0, .int 0, .int 0])))) a (some (.inr (2, [.ref (ad 0), .ref (ad 1), .int (nI (rk_varsn P i)), .int (nI (rk_m (rk_upto (rk_num P) i))), .int (nI (rk_v (rk_upto (rk_num P) i) (rk_at P))), .int 0, .int 0, .int 0])))) a (some (.inr (2, [.ref (ad 0), .ref (ad 1), .int (nI (rk_varsn P i)), .int (nI (rk_m (rk_upto (rk_num P) i))), .int (nI (rk_v (rk_upto (rk_num P) i) (rk_at P))), .int 1, .int 0, .int 0])))) z = some e := fun z e hz he => (va_up_ne _ _ (hz_a z e hz he)).trans (hk z e hz he)
      have hP : mw_P D k_cl (va_up (va_up (va_up (va_up M2 a (some (.inr (2, [.ref (ad 0), .ref (ad 1), .int (nI (rk_varsn P i)), .int 0, .int 0, .int 0, .int 0, .int 0])))) a (some (.inr (2, [.ref (ad 0), .ref (ad 1), .int (nI (rk_varsn P i)), .int (nI (rk_m (rk_upto (rk_num P) i))), .int 0, .int 0, .int 0, .int 0])))) a (some (.inr (2, [.ref (ad 0), .ref (ad 1), .int (nI (rk_varsn P i)), .int (nI (rk_m (rk_upto (rk_num P) i))), .int (nI (rk_v (rk_upto (rk_num P) i) (rk_at P))), .int 0, .int 0, .int 0])))) a (some (.inr (2, [.ref (ad 0), .ref (ad 1), .int (nI (rk_varsn P i)), .int (nI (rk_m (rk_upto (rk_num P) i))), .int (nI (rk_v (rk_upto (rk_num P) i) (rk_at P))), .int 1, .int 0, .int 0])))) _ H := hP
      refine lv_aload_n hx hb d_Pt_init_178 rfl (lv_at hl 0 rfl) ?_
      refine lv_iload_n hx hb d_Pt_init_179 rfl (lv_at hl 1 rfl) ?_
      refine lv_iload_n hx hb d_Pt_init_180 rfl (lv_at hl 3 rfl) ?_
      refine lv_icmp_ne (tgt := 188) hx hb d_Pt_init_181 (by decide) (fun c_181 => ?_) (fun c_181 => ?_)
      · have w02 : ¬ rk_at P 0 = rk_at P 2 := fun z => c_181 ((rk_iv_cmp hok (by omega) (by omega)).mpr z)
        refine lv_iconst (v := 0) hx hb d_Pt_init_188 (by decide) ?_
        refine mw_putF (v := .int 0) (ty := .boolean) (ci := 2) (C := R_Pt) (T := T_Pt) (N := 8) J i_Pt t_Pt o_Pt n_Pt hK hP hS (va_up_self _ _ _) rfl 6 (by decide) (hts _ k_85) (fun _ h9 => h9) rfl hnm rfl rfl rfl rfl (Nat.le_of_ble_eq_true rfl) d_Pt_init_189 (fun H locs hP hS => ?_)
        have hk : ∀ z e, z ≠ a → M z = some e → (va_up (va_up (va_up (va_up (va_up M2 a (some (.inr (2, [.ref (ad 0), .ref (ad 1), .int (nI (rk_varsn P i)), .int 0, .int 0, .int 0, .int 0, .int 0])))) a (some (.inr (2, [.ref (ad 0), .ref (ad 1), .int (nI (rk_varsn P i)), .int (nI (rk_m (rk_upto (rk_num P) i))), .int 0, .int 0, .int 0, .int 0])))) a (some (.inr (2, [.ref (ad 0), .ref (ad 1), .int (nI (rk_varsn P i)), .int (nI (rk_m (rk_upto (rk_num P) i))), .int (nI (rk_v (rk_upto (rk_num P) i) (rk_at P))), .int 0, .int 0, .int 0])))) a (some (.inr (2, [.ref (ad 0), .ref (ad 1), .int (nI (rk_varsn P i)), .int (nI (rk_m (rk_upto (rk_num P) i))), .int (nI (rk_v (rk_upto (rk_num P) i) (rk_at P))), .int 1, .int 0, .int 0])))) a (some (.inr (2, [.ref (ad 0), .ref (ad 1), .int (nI (rk_varsn P i)), .int (nI (rk_m (rk_upto (rk_num P) i))), .int (nI (rk_v (rk_upto (rk_num P) i) (rk_at P))), .int 1, .int 0, .int 0])))) z = some e := fun z e hz he => (va_up_ne _ _ (hz_a z e hz he)).trans (hk z e hz he)
        have hP : mw_P D k_cl (va_up (va_up (va_up (va_up (va_up M2 a (some (.inr (2, [.ref (ad 0), .ref (ad 1), .int (nI (rk_varsn P i)), .int 0, .int 0, .int 0, .int 0, .int 0])))) a (some (.inr (2, [.ref (ad 0), .ref (ad 1), .int (nI (rk_varsn P i)), .int (nI (rk_m (rk_upto (rk_num P) i))), .int 0, .int 0, .int 0, .int 0])))) a (some (.inr (2, [.ref (ad 0), .ref (ad 1), .int (nI (rk_varsn P i)), .int (nI (rk_m (rk_upto (rk_num P) i))), .int (nI (rk_v (rk_upto (rk_num P) i) (rk_at P))), .int 0, .int 0, .int 0])))) a (some (.inr (2, [.ref (ad 0), .ref (ad 1), .int (nI (rk_varsn P i)), .int (nI (rk_m (rk_upto (rk_num P) i))), .int (nI (rk_v (rk_upto (rk_num P) i) (rk_at P))), .int 1, .int 0, .int 0])))) a (some (.inr (2, [.ref (ad 0), .ref (ad 1), .int (nI (rk_varsn P i)), .int (nI (rk_m (rk_upto (rk_num P) i))), .int (nI (rk_v (rk_upto (rk_num P) i) (rk_at P))), .int 1, .int 0, .int 0])))) _ H := hP
        refine lv_aload_n hx hb d_Pt_init_192 rfl (lv_at hl 0 rfl) ?_
        refine lv_iload_n hx hb d_Pt_init_193 rfl (lv_at hl 2 rfl) ?_
        refine lv_iload_n hx hb d_Pt_init_194 rfl (lv_at hl 3 rfl) ?_
        refine lv_icmp_ne (tgt := 202) hx hb d_Pt_init_195 (by decide) (fun c_195 => ?_) (fun c_195 => ?_)
        · have w12 : ¬ rk_at P 1 = rk_at P 2 := fun z => c_195 ((rk_iv_cmp hok (by omega) (by omega)).mpr z)
          refine lv_iconst (v := 0) hx hb d_Pt_init_202 (by decide) ?_
          refine mw_putF (v := .int 0) (ty := .boolean) (ci := 2) (C := R_Pt) (T := T_Pt) (N := 8) J i_Pt t_Pt o_Pt n_Pt hK hP hS (va_up_self _ _ _) rfl 7 (by decide) (hts _ k_86) (fun _ h9 => h9) rfl hnm rfl rfl rfl rfl (Nat.le_of_ble_eq_true rfl) d_Pt_init_203 (fun H locs hP hS => ?_)
          have hk : ∀ z e, z ≠ a → M z = some e → (va_up (va_up (va_up (va_up (va_up (va_up M2 a (some (.inr (2, [.ref (ad 0), .ref (ad 1), .int (nI (rk_varsn P i)), .int 0, .int 0, .int 0, .int 0, .int 0])))) a (some (.inr (2, [.ref (ad 0), .ref (ad 1), .int (nI (rk_varsn P i)), .int (nI (rk_m (rk_upto (rk_num P) i))), .int 0, .int 0, .int 0, .int 0])))) a (some (.inr (2, [.ref (ad 0), .ref (ad 1), .int (nI (rk_varsn P i)), .int (nI (rk_m (rk_upto (rk_num P) i))), .int (nI (rk_v (rk_upto (rk_num P) i) (rk_at P))), .int 0, .int 0, .int 0])))) a (some (.inr (2, [.ref (ad 0), .ref (ad 1), .int (nI (rk_varsn P i)), .int (nI (rk_m (rk_upto (rk_num P) i))), .int (nI (rk_v (rk_upto (rk_num P) i) (rk_at P))), .int 1, .int 0, .int 0])))) a (some (.inr (2, [.ref (ad 0), .ref (ad 1), .int (nI (rk_varsn P i)), .int (nI (rk_m (rk_upto (rk_num P) i))), .int (nI (rk_v (rk_upto (rk_num P) i) (rk_at P))), .int 1, .int 0, .int 0])))) a (some (.inr (2, [.ref (ad 0), .ref (ad 1), .int (nI (rk_varsn P i)), .int (nI (rk_m (rk_upto (rk_num P) i))), .int (nI (rk_v (rk_upto (rk_num P) i) (rk_at P))), .int 1, .int 0, .int 0])))) z = some e := fun z e hz he => (va_up_ne _ _ (hz_a z e hz he)).trans (hk z e hz he)
          have hP : mw_P D k_cl (va_up (va_up (va_up (va_up (va_up (va_up M2 a (some (.inr (2, [.ref (ad 0), .ref (ad 1), .int (nI (rk_varsn P i)), .int 0, .int 0, .int 0, .int 0, .int 0])))) a (some (.inr (2, [.ref (ad 0), .ref (ad 1), .int (nI (rk_varsn P i)), .int (nI (rk_m (rk_upto (rk_num P) i))), .int 0, .int 0, .int 0, .int 0])))) a (some (.inr (2, [.ref (ad 0), .ref (ad 1), .int (nI (rk_varsn P i)), .int (nI (rk_m (rk_upto (rk_num P) i))), .int (nI (rk_v (rk_upto (rk_num P) i) (rk_at P))), .int 0, .int 0, .int 0])))) a (some (.inr (2, [.ref (ad 0), .ref (ad 1), .int (nI (rk_varsn P i)), .int (nI (rk_m (rk_upto (rk_num P) i))), .int (nI (rk_v (rk_upto (rk_num P) i) (rk_at P))), .int 1, .int 0, .int 0])))) a (some (.inr (2, [.ref (ad 0), .ref (ad 1), .int (nI (rk_varsn P i)), .int (nI (rk_m (rk_upto (rk_num P) i))), .int (nI (rk_v (rk_upto (rk_num P) i) (rk_at P))), .int 1, .int 0, .int 0])))) a (some (.inr (2, [.ref (ad 0), .ref (ad 1), .int (nI (rk_varsn P i)), .int (nI (rk_m (rk_upto (rk_num P) i))), .int (nI (rk_v (rk_upto (rk_num P) i) (rk_at P))), .int 1, .int 0, .int 0])))) _ H := hP
          have hfin : k_pat cI (va_up (va_up (va_up (va_up (va_up (va_up M2 a (some (.inr (2, [.ref (ad 0), .ref (ad 1), .int (nI (rk_varsn P i)), .int 0, .int 0, .int 0, .int 0, .int 0])))) a (some (.inr (2, [.ref (ad 0), .ref (ad 1), .int (nI (rk_varsn P i)), .int (nI (rk_m (rk_upto (rk_num P) i))), .int 0, .int 0, .int 0, .int 0])))) a (some (.inr (2, [.ref (ad 0), .ref (ad 1), .int (nI (rk_varsn P i)), .int (nI (rk_m (rk_upto (rk_num P) i))), .int (nI (rk_v (rk_upto (rk_num P) i) (rk_at P))), .int 0, .int 0, .int 0])))) a (some (.inr (2, [.ref (ad 0), .ref (ad 1), .int (nI (rk_varsn P i)), .int (nI (rk_m (rk_upto (rk_num P) i))), .int (nI (rk_v (rk_upto (rk_num P) i) (rk_at P))), .int 1, .int 0, .int 0])))) a (some (.inr (2, [.ref (ad 0), .ref (ad 1), .int (nI (rk_varsn P i)), .int (nI (rk_m (rk_upto (rk_num P) i))), .int (nI (rk_v (rk_upto (rk_num P) i) (rk_at P))), .int 1, .int 0, .int 0])))) a (some (.inr (2, [.ref (ad 0), .ref (ad 1), .int (nI (rk_varsn P i)), .int (nI (rk_m (rk_upto (rk_num P) i))), .int (nI (rk_v (rk_upto (rk_num P) i) (rk_at P))), .int 1, .int 0, .int 0])))) a P := by
            refine ⟨hok, ad 0, ad 1, fb, fq, ?_, ((va_up_ne _ _ (hoa 0 (by decide))).trans ((va_up_ne _ _ (hoa 0 (by decide))).trans ((va_up_ne _ _ (hoa 0 (by decide))).trans ((va_up_ne _ _ (hoa 0 (by decide))).trans ((va_up_ne _ _ (hoa 0 (by decide))).trans ((va_up_ne _ _ (hoa 0 (by decide))).trans qb)))))), ((va_up_ne _ _ (hoa 1 (by decide))).trans ((va_up_ne _ _ (hoa 1 (by decide))).trans ((va_up_ne _ _ (hoa 1 (by decide))).trans ((va_up_ne _ _ (hoa 1 (by decide))).trans ((va_up_ne _ _ (hoa 1 (by decide))).trans ((va_up_ne _ _ (hoa 1 (by decide))).trans qq)))))), fun j hj => by rw [hfb j hj, if_pos (by omega)], fun j hj => by rw [hfq j hj, if_pos (by omega)]⟩
            have e1 : k_pf P (ad 0) (ad 1) = [.ref (ad 0), .ref (ad 1), .int (nI (rk_varsn P i)), .int (nI (rk_m (rk_upto (rk_num P) i))), .int (nI (rk_v (rk_upto (rk_num P) i) (rk_at P))), .int 1, .int 0, .int 0] := by
              unfold k_pf rk_vars rk_eqi
              rw [hi3, rk_m_3, rk_v_3, if_pos w01, if_neg w02, if_neg w12]
            rw [e1]
            exact (va_up_self _ _ _)
          exact mw_vret J hr hlk hP hS d_Pt_init_206 (⟨hfin, hk⟩)
        · have w12 : rk_at P 1 = rk_at P 2 := (rk_iv_cmp hok (by omega) (by omega)).mp c_195
          refine lv_iconst (v := 1) hx hb d_Pt_init_198 (by decide) ?_
          refine lv_goto (tgt := 203) hx hb d_Pt_init_199 (by decide) ?_
          refine mw_putF (v := .int 1) (ty := .boolean) (ci := 2) (C := R_Pt) (T := T_Pt) (N := 8) J i_Pt t_Pt o_Pt n_Pt hK hP hS (va_up_self _ _ _) rfl 7 (by decide) (hts _ k_86) (fun _ h9 => h9) rfl hnm rfl rfl rfl rfl (Nat.le_of_ble_eq_true rfl) d_Pt_init_203 (fun H locs hP hS => ?_)
          have hk : ∀ z e, z ≠ a → M z = some e → (va_up (va_up (va_up (va_up (va_up (va_up M2 a (some (.inr (2, [.ref (ad 0), .ref (ad 1), .int (nI (rk_varsn P i)), .int 0, .int 0, .int 0, .int 0, .int 0])))) a (some (.inr (2, [.ref (ad 0), .ref (ad 1), .int (nI (rk_varsn P i)), .int (nI (rk_m (rk_upto (rk_num P) i))), .int 0, .int 0, .int 0, .int 0])))) a (some (.inr (2, [.ref (ad 0), .ref (ad 1), .int (nI (rk_varsn P i)), .int (nI (rk_m (rk_upto (rk_num P) i))), .int (nI (rk_v (rk_upto (rk_num P) i) (rk_at P))), .int 0, .int 0, .int 0])))) a (some (.inr (2, [.ref (ad 0), .ref (ad 1), .int (nI (rk_varsn P i)), .int (nI (rk_m (rk_upto (rk_num P) i))), .int (nI (rk_v (rk_upto (rk_num P) i) (rk_at P))), .int 1, .int 0, .int 0])))) a (some (.inr (2, [.ref (ad 0), .ref (ad 1), .int (nI (rk_varsn P i)), .int (nI (rk_m (rk_upto (rk_num P) i))), .int (nI (rk_v (rk_upto (rk_num P) i) (rk_at P))), .int 1, .int 0, .int 0])))) a (some (.inr (2, [.ref (ad 0), .ref (ad 1), .int (nI (rk_varsn P i)), .int (nI (rk_m (rk_upto (rk_num P) i))), .int (nI (rk_v (rk_upto (rk_num P) i) (rk_at P))), .int 1, .int 0, .int 1])))) z = some e := fun z e hz he => (va_up_ne _ _ (hz_a z e hz he)).trans (hk z e hz he)
          have hP : mw_P D k_cl (va_up (va_up (va_up (va_up (va_up (va_up M2 a (some (.inr (2, [.ref (ad 0), .ref (ad 1), .int (nI (rk_varsn P i)), .int 0, .int 0, .int 0, .int 0, .int 0])))) a (some (.inr (2, [.ref (ad 0), .ref (ad 1), .int (nI (rk_varsn P i)), .int (nI (rk_m (rk_upto (rk_num P) i))), .int 0, .int 0, .int 0, .int 0])))) a (some (.inr (2, [.ref (ad 0), .ref (ad 1), .int (nI (rk_varsn P i)), .int (nI (rk_m (rk_upto (rk_num P) i))), .int (nI (rk_v (rk_upto (rk_num P) i) (rk_at P))), .int 0, .int 0, .int 0])))) a (some (.inr (2, [.ref (ad 0), .ref (ad 1), .int (nI (rk_varsn P i)), .int (nI (rk_m (rk_upto (rk_num P) i))), .int (nI (rk_v (rk_upto (rk_num P) i) (rk_at P))), .int 1, .int 0, .int 0])))) a (some (.inr (2, [.ref (ad 0), .ref (ad 1), .int (nI (rk_varsn P i)), .int (nI (rk_m (rk_upto (rk_num P) i))), .int (nI (rk_v (rk_upto (rk_num P) i) (rk_at P))), .int 1, .int 0, .int 0])))) a (some (.inr (2, [.ref (ad 0), .ref (ad 1), .int (nI (rk_varsn P i)), .int (nI (rk_m (rk_upto (rk_num P) i))), .int (nI (rk_v (rk_upto (rk_num P) i) (rk_at P))), .int 1, .int 0, .int 1])))) _ H := hP
          have hfin : k_pat cI (va_up (va_up (va_up (va_up (va_up (va_up M2 a (some (.inr (2, [.ref (ad 0), .ref (ad 1), .int (nI (rk_varsn P i)), .int 0, .int 0, .int 0, .int 0, .int 0])))) a (some (.inr (2, [.ref (ad 0), .ref (ad 1), .int (nI (rk_varsn P i)), .int (nI (rk_m (rk_upto (rk_num P) i))), .int 0, .int 0, .int 0, .int 0])))) a (some (.inr (2, [.ref (ad 0), .ref (ad 1), .int (nI (rk_varsn P i)), .int (nI (rk_m (rk_upto (rk_num P) i))), .int (nI (rk_v (rk_upto (rk_num P) i) (rk_at P))), .int 0, .int 0, .int 0])))) a (some (.inr (2, [.ref (ad 0), .ref (ad 1), .int (nI (rk_varsn P i)), .int (nI (rk_m (rk_upto (rk_num P) i))), .int (nI (rk_v (rk_upto (rk_num P) i) (rk_at P))), .int 1, .int 0, .int 0])))) a (some (.inr (2, [.ref (ad 0), .ref (ad 1), .int (nI (rk_varsn P i)), .int (nI (rk_m (rk_upto (rk_num P) i))), .int (nI (rk_v (rk_upto (rk_num P) i) (rk_at P))), .int 1, .int 0, .int 0])))) a (some (.inr (2, [.ref (ad 0), .ref (ad 1), .int (nI (rk_varsn P i)), .int (nI (rk_m (rk_upto (rk_num P) i))), .int (nI (rk_v (rk_upto (rk_num P) i) (rk_at P))), .int 1, .int 0, .int 1])))) a P := by
            refine ⟨hok, ad 0, ad 1, fb, fq, ?_, ((va_up_ne _ _ (hoa 0 (by decide))).trans ((va_up_ne _ _ (hoa 0 (by decide))).trans ((va_up_ne _ _ (hoa 0 (by decide))).trans ((va_up_ne _ _ (hoa 0 (by decide))).trans ((va_up_ne _ _ (hoa 0 (by decide))).trans ((va_up_ne _ _ (hoa 0 (by decide))).trans qb)))))), ((va_up_ne _ _ (hoa 1 (by decide))).trans ((va_up_ne _ _ (hoa 1 (by decide))).trans ((va_up_ne _ _ (hoa 1 (by decide))).trans ((va_up_ne _ _ (hoa 1 (by decide))).trans ((va_up_ne _ _ (hoa 1 (by decide))).trans ((va_up_ne _ _ (hoa 1 (by decide))).trans qq)))))), fun j hj => by rw [hfb j hj, if_pos (by omega)], fun j hj => by rw [hfq j hj, if_pos (by omega)]⟩
            have e1 : k_pf P (ad 0) (ad 1) = [.ref (ad 0), .ref (ad 1), .int (nI (rk_varsn P i)), .int (nI (rk_m (rk_upto (rk_num P) i))), .int (nI (rk_v (rk_upto (rk_num P) i) (rk_at P))), .int 1, .int 0, .int 1] := by
              unfold k_pf rk_vars rk_eqi
              rw [hi3, rk_m_3, rk_v_3, if_pos w01, if_neg w02, if_pos w12]
            rw [e1]
            exact (va_up_self _ _ _)
          exact mw_vret J hr hlk hP hS d_Pt_init_206 (⟨hfin, hk⟩)
      · have w02 : rk_at P 0 = rk_at P 2 := (rk_iv_cmp hok (by omega) (by omega)).mp c_181
        refine lv_iconst (v := 1) hx hb d_Pt_init_184 (by decide) ?_
        refine lv_goto (tgt := 189) hx hb d_Pt_init_185 (by decide) ?_
        refine mw_putF (v := .int 1) (ty := .boolean) (ci := 2) (C := R_Pt) (T := T_Pt) (N := 8) J i_Pt t_Pt o_Pt n_Pt hK hP hS (va_up_self _ _ _) rfl 6 (by decide) (hts _ k_85) (fun _ h9 => h9) rfl hnm rfl rfl rfl rfl (Nat.le_of_ble_eq_true rfl) d_Pt_init_189 (fun H locs hP hS => ?_)
        have hk : ∀ z e, z ≠ a → M z = some e → (va_up (va_up (va_up (va_up (va_up M2 a (some (.inr (2, [.ref (ad 0), .ref (ad 1), .int (nI (rk_varsn P i)), .int 0, .int 0, .int 0, .int 0, .int 0])))) a (some (.inr (2, [.ref (ad 0), .ref (ad 1), .int (nI (rk_varsn P i)), .int (nI (rk_m (rk_upto (rk_num P) i))), .int 0, .int 0, .int 0, .int 0])))) a (some (.inr (2, [.ref (ad 0), .ref (ad 1), .int (nI (rk_varsn P i)), .int (nI (rk_m (rk_upto (rk_num P) i))), .int (nI (rk_v (rk_upto (rk_num P) i) (rk_at P))), .int 0, .int 0, .int 0])))) a (some (.inr (2, [.ref (ad 0), .ref (ad 1), .int (nI (rk_varsn P i)), .int (nI (rk_m (rk_upto (rk_num P) i))), .int (nI (rk_v (rk_upto (rk_num P) i) (rk_at P))), .int 1, .int 0, .int 0])))) a (some (.inr (2, [.ref (ad 0), .ref (ad 1), .int (nI (rk_varsn P i)), .int (nI (rk_m (rk_upto (rk_num P) i))), .int (nI (rk_v (rk_upto (rk_num P) i) (rk_at P))), .int 1, .int 1, .int 0])))) z = some e := fun z e hz he => (va_up_ne _ _ (hz_a z e hz he)).trans (hk z e hz he)
        have hP : mw_P D k_cl (va_up (va_up (va_up (va_up (va_up M2 a (some (.inr (2, [.ref (ad 0), .ref (ad 1), .int (nI (rk_varsn P i)), .int 0, .int 0, .int 0, .int 0, .int 0])))) a (some (.inr (2, [.ref (ad 0), .ref (ad 1), .int (nI (rk_varsn P i)), .int (nI (rk_m (rk_upto (rk_num P) i))), .int 0, .int 0, .int 0, .int 0])))) a (some (.inr (2, [.ref (ad 0), .ref (ad 1), .int (nI (rk_varsn P i)), .int (nI (rk_m (rk_upto (rk_num P) i))), .int (nI (rk_v (rk_upto (rk_num P) i) (rk_at P))), .int 0, .int 0, .int 0])))) a (some (.inr (2, [.ref (ad 0), .ref (ad 1), .int (nI (rk_varsn P i)), .int (nI (rk_m (rk_upto (rk_num P) i))), .int (nI (rk_v (rk_upto (rk_num P) i) (rk_at P))), .int 1, .int 0, .int 0])))) a (some (.inr (2, [.ref (ad 0), .ref (ad 1), .int (nI (rk_varsn P i)), .int (nI (rk_m (rk_upto (rk_num P) i))), .int (nI (rk_v (rk_upto (rk_num P) i) (rk_at P))), .int 1, .int 1, .int 0])))) _ H := hP
        refine lv_aload_n hx hb d_Pt_init_192 rfl (lv_at hl 0 rfl) ?_
        refine lv_iload_n hx hb d_Pt_init_193 rfl (lv_at hl 2 rfl) ?_
        refine lv_iload_n hx hb d_Pt_init_194 rfl (lv_at hl 3 rfl) ?_
        refine lv_icmp_ne (tgt := 202) hx hb d_Pt_init_195 (by decide) (fun c_195 => ?_) (fun c_195 => ?_)
        · have w12 : ¬ rk_at P 1 = rk_at P 2 := fun z => c_195 ((rk_iv_cmp hok (by omega) (by omega)).mpr z)
          refine lv_iconst (v := 0) hx hb d_Pt_init_202 (by decide) ?_
          refine mw_putF (v := .int 0) (ty := .boolean) (ci := 2) (C := R_Pt) (T := T_Pt) (N := 8) J i_Pt t_Pt o_Pt n_Pt hK hP hS (va_up_self _ _ _) rfl 7 (by decide) (hts _ k_86) (fun _ h9 => h9) rfl hnm rfl rfl rfl rfl (Nat.le_of_ble_eq_true rfl) d_Pt_init_203 (fun H locs hP hS => ?_)
          have hk : ∀ z e, z ≠ a → M z = some e → (va_up (va_up (va_up (va_up (va_up (va_up M2 a (some (.inr (2, [.ref (ad 0), .ref (ad 1), .int (nI (rk_varsn P i)), .int 0, .int 0, .int 0, .int 0, .int 0])))) a (some (.inr (2, [.ref (ad 0), .ref (ad 1), .int (nI (rk_varsn P i)), .int (nI (rk_m (rk_upto (rk_num P) i))), .int 0, .int 0, .int 0, .int 0])))) a (some (.inr (2, [.ref (ad 0), .ref (ad 1), .int (nI (rk_varsn P i)), .int (nI (rk_m (rk_upto (rk_num P) i))), .int (nI (rk_v (rk_upto (rk_num P) i) (rk_at P))), .int 0, .int 0, .int 0])))) a (some (.inr (2, [.ref (ad 0), .ref (ad 1), .int (nI (rk_varsn P i)), .int (nI (rk_m (rk_upto (rk_num P) i))), .int (nI (rk_v (rk_upto (rk_num P) i) (rk_at P))), .int 1, .int 0, .int 0])))) a (some (.inr (2, [.ref (ad 0), .ref (ad 1), .int (nI (rk_varsn P i)), .int (nI (rk_m (rk_upto (rk_num P) i))), .int (nI (rk_v (rk_upto (rk_num P) i) (rk_at P))), .int 1, .int 1, .int 0])))) a (some (.inr (2, [.ref (ad 0), .ref (ad 1), .int (nI (rk_varsn P i)), .int (nI (rk_m (rk_upto (rk_num P) i))), .int (nI (rk_v (rk_upto (rk_num P) i) (rk_at P))), .int 1, .int 1, .int 0])))) z = some e := fun z e hz he => (va_up_ne _ _ (hz_a z e hz he)).trans (hk z e hz he)
          have hP : mw_P D k_cl (va_up (va_up (va_up (va_up (va_up (va_up M2 a (some (.inr (2, [.ref (ad 0), .ref (ad 1), .int (nI (rk_varsn P i)), .int 0, .int 0, .int 0, .int 0, .int 0])))) a (some (.inr (2, [.ref (ad 0), .ref (ad 1), .int (nI (rk_varsn P i)), .int (nI (rk_m (rk_upto (rk_num P) i))), .int 0, .int 0, .int 0, .int 0])))) a (some (.inr (2, [.ref (ad 0), .ref (ad 1), .int (nI (rk_varsn P i)), .int (nI (rk_m (rk_upto (rk_num P) i))), .int (nI (rk_v (rk_upto (rk_num P) i) (rk_at P))), .int 0, .int 0, .int 0])))) a (some (.inr (2, [.ref (ad 0), .ref (ad 1), .int (nI (rk_varsn P i)), .int (nI (rk_m (rk_upto (rk_num P) i))), .int (nI (rk_v (rk_upto (rk_num P) i) (rk_at P))), .int 1, .int 0, .int 0])))) a (some (.inr (2, [.ref (ad 0), .ref (ad 1), .int (nI (rk_varsn P i)), .int (nI (rk_m (rk_upto (rk_num P) i))), .int (nI (rk_v (rk_upto (rk_num P) i) (rk_at P))), .int 1, .int 1, .int 0])))) a (some (.inr (2, [.ref (ad 0), .ref (ad 1), .int (nI (rk_varsn P i)), .int (nI (rk_m (rk_upto (rk_num P) i))), .int (nI (rk_v (rk_upto (rk_num P) i) (rk_at P))), .int 1, .int 1, .int 0])))) _ H := hP
          have hfin : k_pat cI (va_up (va_up (va_up (va_up (va_up (va_up M2 a (some (.inr (2, [.ref (ad 0), .ref (ad 1), .int (nI (rk_varsn P i)), .int 0, .int 0, .int 0, .int 0, .int 0])))) a (some (.inr (2, [.ref (ad 0), .ref (ad 1), .int (nI (rk_varsn P i)), .int (nI (rk_m (rk_upto (rk_num P) i))), .int 0, .int 0, .int 0, .int 0])))) a (some (.inr (2, [.ref (ad 0), .ref (ad 1), .int (nI (rk_varsn P i)), .int (nI (rk_m (rk_upto (rk_num P) i))), .int (nI (rk_v (rk_upto (rk_num P) i) (rk_at P))), .int 0, .int 0, .int 0])))) a (some (.inr (2, [.ref (ad 0), .ref (ad 1), .int (nI (rk_varsn P i)), .int (nI (rk_m (rk_upto (rk_num P) i))), .int (nI (rk_v (rk_upto (rk_num P) i) (rk_at P))), .int 1, .int 0, .int 0])))) a (some (.inr (2, [.ref (ad 0), .ref (ad 1), .int (nI (rk_varsn P i)), .int (nI (rk_m (rk_upto (rk_num P) i))), .int (nI (rk_v (rk_upto (rk_num P) i) (rk_at P))), .int 1, .int 1, .int 0])))) a (some (.inr (2, [.ref (ad 0), .ref (ad 1), .int (nI (rk_varsn P i)), .int (nI (rk_m (rk_upto (rk_num P) i))), .int (nI (rk_v (rk_upto (rk_num P) i) (rk_at P))), .int 1, .int 1, .int 0])))) a P := by
            refine ⟨hok, ad 0, ad 1, fb, fq, ?_, ((va_up_ne _ _ (hoa 0 (by decide))).trans ((va_up_ne _ _ (hoa 0 (by decide))).trans ((va_up_ne _ _ (hoa 0 (by decide))).trans ((va_up_ne _ _ (hoa 0 (by decide))).trans ((va_up_ne _ _ (hoa 0 (by decide))).trans ((va_up_ne _ _ (hoa 0 (by decide))).trans qb)))))), ((va_up_ne _ _ (hoa 1 (by decide))).trans ((va_up_ne _ _ (hoa 1 (by decide))).trans ((va_up_ne _ _ (hoa 1 (by decide))).trans ((va_up_ne _ _ (hoa 1 (by decide))).trans ((va_up_ne _ _ (hoa 1 (by decide))).trans ((va_up_ne _ _ (hoa 1 (by decide))).trans qq)))))), fun j hj => by rw [hfb j hj, if_pos (by omega)], fun j hj => by rw [hfq j hj, if_pos (by omega)]⟩
            have e1 : k_pf P (ad 0) (ad 1) = [.ref (ad 0), .ref (ad 1), .int (nI (rk_varsn P i)), .int (nI (rk_m (rk_upto (rk_num P) i))), .int (nI (rk_v (rk_upto (rk_num P) i) (rk_at P))), .int 1, .int 1, .int 0] := by
              unfold k_pf rk_vars rk_eqi
              rw [hi3, rk_m_3, rk_v_3, if_pos w01, if_pos w02, if_neg w12]
            rw [e1]
            exact (va_up_self _ _ _)
          exact mw_vret J hr hlk hP hS d_Pt_init_206 (⟨hfin, hk⟩)
        · have w12 : rk_at P 1 = rk_at P 2 := (rk_iv_cmp hok (by omega) (by omega)).mp c_195
          refine lv_iconst (v := 1) hx hb d_Pt_init_198 (by decide) ?_
          refine lv_goto (tgt := 203) hx hb d_Pt_init_199 (by decide) ?_
          refine mw_putF (v := .int 1) (ty := .boolean) (ci := 2) (C := R_Pt) (T := T_Pt) (N := 8) J i_Pt t_Pt o_Pt n_Pt hK hP hS (va_up_self _ _ _) rfl 7 (by decide) (hts _ k_86) (fun _ h9 => h9) rfl hnm rfl rfl rfl rfl (Nat.le_of_ble_eq_true rfl) d_Pt_init_203 (fun H locs hP hS => ?_)
          have hk : ∀ z e, z ≠ a → M z = some e → (va_up (va_up (va_up (va_up (va_up (va_up M2 a (some (.inr (2, [.ref (ad 0), .ref (ad 1), .int (nI (rk_varsn P i)), .int 0, .int 0, .int 0, .int 0, .int 0])))) a (some (.inr (2, [.ref (ad 0), .ref (ad 1), .int (nI (rk_varsn P i)), .int (nI (rk_m (rk_upto (rk_num P) i))), .int 0, .int 0, .int 0, .int 0])))) a (some (.inr (2, [.ref (ad 0), .ref (ad 1), .int (nI (rk_varsn P i)), .int (nI (rk_m (rk_upto (rk_num P) i))), .int (nI (rk_v (rk_upto (rk_num P) i) (rk_at P))), .int 0, .int 0, .int 0])))) a (some (.inr (2, [.ref (ad 0), .ref (ad 1), .int (nI (rk_varsn P i)), .int (nI (rk_m (rk_upto (rk_num P) i))), .int (nI (rk_v (rk_upto (rk_num P) i) (rk_at P))), .int 1, .int 0, .int 0])))) a (some (.inr (2, [.ref (ad 0), .ref (ad 1), .int (nI (rk_varsn P i)), .int (nI (rk_m (rk_upto (rk_num P) i))), .int (nI (rk_v (rk_upto (rk_num P) i) (rk_at P))), .int 1, .int 1, .int 0])))) a (some (.inr (2, [.ref (ad 0), .ref (ad 1), .int (nI (rk_varsn P i)), .int (nI (rk_m (rk_upto (rk_num P) i))), .int (nI (rk_v (rk_upto (rk_num P) i) (rk_at P))), .int 1, .int 1, .int 1])))) z = some e := fun z e hz he => (va_up_ne _ _ (hz_a z e hz he)).trans (hk z e hz he)
          have hP : mw_P D k_cl (va_up (va_up (va_up (va_up (va_up (va_up M2 a (some (.inr (2, [.ref (ad 0), .ref (ad 1), .int (nI (rk_varsn P i)), .int 0, .int 0, .int 0, .int 0, .int 0])))) a (some (.inr (2, [.ref (ad 0), .ref (ad 1), .int (nI (rk_varsn P i)), .int (nI (rk_m (rk_upto (rk_num P) i))), .int 0, .int 0, .int 0, .int 0])))) a (some (.inr (2, [.ref (ad 0), .ref (ad 1), .int (nI (rk_varsn P i)), .int (nI (rk_m (rk_upto (rk_num P) i))), .int (nI (rk_v (rk_upto (rk_num P) i) (rk_at P))), .int 0, .int 0, .int 0])))) a (some (.inr (2, [.ref (ad 0), .ref (ad 1), .int (nI (rk_varsn P i)), .int (nI (rk_m (rk_upto (rk_num P) i))), .int (nI (rk_v (rk_upto (rk_num P) i) (rk_at P))), .int 1, .int 0, .int 0])))) a (some (.inr (2, [.ref (ad 0), .ref (ad 1), .int (nI (rk_varsn P i)), .int (nI (rk_m (rk_upto (rk_num P) i))), .int (nI (rk_v (rk_upto (rk_num P) i) (rk_at P))), .int 1, .int 1, .int 0])))) a (some (.inr (2, [.ref (ad 0), .ref (ad 1), .int (nI (rk_varsn P i)), .int (nI (rk_m (rk_upto (rk_num P) i))), .int (nI (rk_v (rk_upto (rk_num P) i) (rk_at P))), .int 1, .int 1, .int 1])))) _ H := hP
          have hfin : k_pat cI (va_up (va_up (va_up (va_up (va_up (va_up M2 a (some (.inr (2, [.ref (ad 0), .ref (ad 1), .int (nI (rk_varsn P i)), .int 0, .int 0, .int 0, .int 0, .int 0])))) a (some (.inr (2, [.ref (ad 0), .ref (ad 1), .int (nI (rk_varsn P i)), .int (nI (rk_m (rk_upto (rk_num P) i))), .int 0, .int 0, .int 0, .int 0])))) a (some (.inr (2, [.ref (ad 0), .ref (ad 1), .int (nI (rk_varsn P i)), .int (nI (rk_m (rk_upto (rk_num P) i))), .int (nI (rk_v (rk_upto (rk_num P) i) (rk_at P))), .int 0, .int 0, .int 0])))) a (some (.inr (2, [.ref (ad 0), .ref (ad 1), .int (nI (rk_varsn P i)), .int (nI (rk_m (rk_upto (rk_num P) i))), .int (nI (rk_v (rk_upto (rk_num P) i) (rk_at P))), .int 1, .int 0, .int 0])))) a (some (.inr (2, [.ref (ad 0), .ref (ad 1), .int (nI (rk_varsn P i)), .int (nI (rk_m (rk_upto (rk_num P) i))), .int (nI (rk_v (rk_upto (rk_num P) i) (rk_at P))), .int 1, .int 1, .int 0])))) a (some (.inr (2, [.ref (ad 0), .ref (ad 1), .int (nI (rk_varsn P i)), .int (nI (rk_m (rk_upto (rk_num P) i))), .int (nI (rk_v (rk_upto (rk_num P) i) (rk_at P))), .int 1, .int 1, .int 1])))) a P := by
            refine ⟨hok, ad 0, ad 1, fb, fq, ?_, ((va_up_ne _ _ (hoa 0 (by decide))).trans ((va_up_ne _ _ (hoa 0 (by decide))).trans ((va_up_ne _ _ (hoa 0 (by decide))).trans ((va_up_ne _ _ (hoa 0 (by decide))).trans ((va_up_ne _ _ (hoa 0 (by decide))).trans ((va_up_ne _ _ (hoa 0 (by decide))).trans qb)))))), ((va_up_ne _ _ (hoa 1 (by decide))).trans ((va_up_ne _ _ (hoa 1 (by decide))).trans ((va_up_ne _ _ (hoa 1 (by decide))).trans ((va_up_ne _ _ (hoa 1 (by decide))).trans ((va_up_ne _ _ (hoa 1 (by decide))).trans ((va_up_ne _ _ (hoa 1 (by decide))).trans qq)))))), fun j hj => by rw [hfb j hj, if_pos (by omega)], fun j hj => by rw [hfq j hj, if_pos (by omega)]⟩
            have e1 : k_pf P (ad 0) (ad 1) = [.ref (ad 0), .ref (ad 1), .int (nI (rk_varsn P i)), .int (nI (rk_m (rk_upto (rk_num P) i))), .int (nI (rk_v (rk_upto (rk_num P) i) (rk_at P))), .int 1, .int 1, .int 1] := by
              unfold k_pf rk_vars rk_eqi
              rw [hi3, rk_m_3, rk_v_3, if_pos w01, if_pos w02, if_pos w12]
            rw [e1]
            exact (va_up_self _ _ _)
          exact mw_vret J hr hlk hP hS d_Pt_init_206 (⟨hfin, hk⟩)
  · have c_50 : ¬ (3 ≤ i) := fun z => c_50 ((nI_leI (by omega) (by omega)).mpr z)
    refine lv_aload hx hb d_Pt_init_53 (lv_at hl 4 rfl) ?_
    refine lv_iload hx hb d_Pt_init_55 (lv_at hl 8 rfl) ?_
    refine mw_ialdN (k := i) J hK hP 0 ((mw_ov_off hoi).trans gI) rfl (by omega) (by decide) d_Pt_init_57 ?_
    refine mw_top (x' := rk_iv (rk_at P i)) (hF i (by omega)) ?_
    refine lv_if_ge (tgt := 109) hx hb d_Pt_init_58 (by decide) (fun c_58 => ?_) (fun c_58 => ?_)
    · have hn : rk_at P i < 32 := (rk_iv_hi _ (hok i (by omega))).mp c_58
      have hnum : rk_num P i = true := by simp [rk_num, hn]
      refine lv_iload hx hb d_Pt_init_109 (lv_at hl 6 rfl) ?_
      refine lv_bipush (v := 31) hx hb d_Pt_init_111 (by decide) ?_
      refine mw_top (x' := nI 31) rfl ?_
      refine mw_getsN J hZ hS List.mem_cons_self List.mem_cons_self (fun _ h9 => h9) d_Pt_init_113 ?_
      refine lv_iload hx hb d_Pt_init_116 (lv_at hl 8 rfl) ?_
      refine mw_ti (v := .int (rk_shift i)) J hZ hS List.mem_cons_self (vp_in_nI (by omega) (by omega)) (by rw [nI_clamp (by omega)]; rfl) d_Pt_init_118 ?_
      refine lv_ishl hx hb d_Pt_init_119 ?_
      refine mw_top (x' := nI (31 * 2 ^ (10 - 5 * i))) (rk_shl (by omega) (by omega)) ?_
      refine lv_ior hx hb d_Pt_init_120 ?_
      refine mw_top (x' := nI (rk_m (rk_upto (rk_num P) (i + 1)))) (by rw [nx_or, rk_m_step (by omega) hnum]) ?_
      refine lv_istore (lv' := [(6, .int (nI (rk_m (rk_upto (rk_num P) (i + 1))))), (0, .ref a), (1, .int (rk_iv (rk_at P 0))), (2, .int (rk_iv (rk_at P 1))), (3, .int (rk_iv (rk_at P 2))), (4, .ref it), (5, .int (nI (rk_varsn P i))), (7, .int (nI (rk_v (rk_upto (rk_num P) i) (rk_at P)))), (8, .int (nI i))]) hx hb d_Pt_init_121 hl (by decide) rfl (fun ls hl => ?_)
      refine lv_iload hx hb d_Pt_init_123 (lv_at hl 7 rfl) ?_
      refine lv_aload hx hb d_Pt_init_125 (lv_at hl 5 rfl) ?_
      refine lv_iload hx hb d_Pt_init_127 (lv_at hl 8 rfl) ?_
      refine mw_ialdN (k := i) J hK hP 0 ((mw_ov_off hoi).trans gI) rfl (by omega) (by decide) d_Pt_init_129 ?_
      refine mw_top (x' := nI (rk_at P i)) (by rw [hF i (by omega), rk_iv_num _ hn]) ?_
      refine mw_getsN J hZ hS List.mem_cons_self List.mem_cons_self (fun _ h9 => h9) d_Pt_init_130 ?_
      refine lv_iload hx hb d_Pt_init_133 (lv_at hl 8 rfl) ?_
      refine mw_ti (v := .int (rk_shift i)) J hZ hS List.mem_cons_self (vp_in_nI (by omega) (by omega)) (by rw [nI_clamp (by omega)]; rfl) d_Pt_init_135 ?_
      refine lv_ishl hx hb d_Pt_init_136 ?_
      refine mw_top (x' := nI (rk_at P i * 2 ^ (10 - 5 * i))) (rk_shl (by omega) hn) ?_
      refine lv_ior hx hb d_Pt_init_137 ?_
      refine mw_top (x' := nI (rk_v (rk_upto (rk_num P) (i + 1)) (rk_at P))) (by rw [nx_or, rk_v_step (fun j _ hj => by simpa [rk_num] using hj) (by omega) hnum]) ?_
      refine lv_istore (lv' := [(7, .int (nI (rk_v (rk_upto (rk_num P) (i + 1)) (rk_at P)))), (6, .int (nI (rk_m (rk_upto (rk_num P) (i + 1))))), (0, .ref a), (1, .int (rk_iv (rk_at P 0))), (2, .int (rk_iv (rk_at P 1))), (3, .int (rk_iv (rk_at P 2))), (4, .ref it), (5, .int (nI (rk_varsn P i))), (8, .int (nI i))]) hx hb d_Pt_init_138 hl (by decide) rfl (fun ls hl => ?_)
      refine lv_iinc (v := nI (i + 1)) (lv' := [(8, .int (nI (i + 1))), (7, .int (nI (rk_v (rk_upto (rk_num P) (i + 1)) (rk_at P)))), (6, .int (nI (rk_m (rk_upto (rk_num P) (i + 1))))), (0, .ref a), (1, .int (rk_iv (rk_at P 0))), (2, .int (rk_iv (rk_at P 1))), (3, .int (rk_iv (rk_at P 2))), (4, .ref it), (5, .int (nI (rk_varsn P i)))]) hx hb d_Pt_init_140 hl (k := 8) rfl (nI_1 i) (by decide) rfl (fun ls hl => ?_)
      refine lv_goto (tgt := 47) hx hb d_Pt_init_143 (by decide) ?_
      exact ih_47 _ _ _ (by omega) ⟨cw, fb, fq, (by rw [rk_varsn_skip hn]; exact lv_sub hl [3, 4, 5, 6, 7, 8, 2, 1, 0] rfl), hc0, hc1, (rk_next0 hfb (by unfold rk_bits; rw [if_pos hn])), (rk_next0 hfq (by unfold rk_slots; rw [if_pos hn])), hP, hS⟩
    · have hn : ¬ rk_at P i < 32 := fun z => c_58 ((rk_iv_hi _ (hok i (by omega))).mpr z)
      have hnum : rk_num P i = false := by simp [rk_num, hn]
      refine lv_aload_n hx hb d_Pt_init_61 rfl (lv_at hl 0 rfl) ?_
      refine mw_get (v := .ref (ad 1)) (ci := 2) (C := R_Pt) (T := T_Pt) (N := 8) J i_Pt hK hP ((mw_ov_off hoa).trans g0) rfl 1 (by decide) (hts _ k_73) (fun _ h9 => h9) rfl d_Pt_init_62 ?_
      refine lv_iload hx hb d_Pt_init_65 (lv_at hl 8 rfl) ?_
      refine lv_iconst (v := (-1)) hx hb d_Pt_init_67 (by decide) ?_
      refine lv_aload hx hb d_Pt_init_68 (lv_at hl 4 rfl) ?_
      refine lv_iload hx hb d_Pt_init_70 (lv_at hl 8 rfl) ?_
      refine mw_ialdN (k := i) J hK hP 0 ((mw_ov_off hoi).trans gI) rfl (by omega) (by decide) d_Pt_init_72 ?_
      refine mw_top (x' := rk_iv (rk_at P i)) (hF i (by omega)) ?_
      refine lv_isub hx hb d_Pt_init_73 ?_
      refine lv_bipush (v := 7) hx hb d_Pt_init_74 (by decide) ?_
      refine lv_iand hx hb d_Pt_init_76 ?_
      refine mw_top (x' := nI (rk_at P i - 32)) (rk_iv_slot _ (hok i (by omega)) (by omega)) ?_
      refine mw_nast (k := i) (x := (rk_at P i - 32)) J hK hP hS 0 (mw_ov_is hj (by decide) hc1) rfl (by omega) (by decide) d_Pt_init_77 (fun H locs hP hS => ?_)
      rw [mw_ov_set hj (by decide)] at hP
      have hP : mw_P D k_cl (mw_ov M0 ad (va_up cw 1 (.inl (cI, 3, .inl (rk_nf (va_up fq i (rk_at P i - 32)))))) 2) _ H := hP
      refine lv_aload_n hx hb d_Pt_init_78 rfl (lv_at hl 0 rfl) ?_
      refine mw_get (v := .ref (ad 0)) (ci := 2) (C := R_Pt) (T := T_Pt) (N := 8) J i_Pt hK hP ((mw_ov_off hoa).trans g0) rfl 0 (by decide) (hts _ k_72) (fun _ h9 => h9) rfl d_Pt_init_79 ?_
      refine lv_iload hx hb d_Pt_init_82 (lv_at hl 8 rfl) ?_
      refine lv_iconst (v := 1) hx hb d_Pt_init_84 (by decide) ?_
      refine lv_aload_n hx hb d_Pt_init_85 rfl (lv_at hl 0 rfl) ?_
      refine mw_get (v := .ref (ad 1)) (ci := 2) (C := R_Pt) (T := T_Pt) (N := 8) J i_Pt hK hP ((mw_ov_off hoa).trans g0) rfl 1 (by decide) (hts _ k_73) (fun _ h9 => h9) rfl d_Pt_init_86 ?_
      refine lv_iload hx hb d_Pt_init_89 (lv_at hl 8 rfl) ?_
      refine mw_nald (k := i) J hK hP 0 (mw_ov_is hj (by decide) rfl) rfl (by omega) (by decide) d_Pt_init_91 ?_
      refine mw_top (x' := nI (rk_at P i - 32)) (by rw [va_up_self]) ?_
      refine lv_ishl hx hb d_Pt_init_92 ?_
      refine mw_top (x' := nI (2 ^ (rk_at P i - 32))) (rk_iv_bit _ (by have := hok i (by omega); omega)) ?_
      refine mw_nast (k := i) (x := (2 ^ (rk_at P i - 32))) J hK hP hS 0 (mw_ov_is hj (by decide) hc0) rfl (by omega) (by decide) d_Pt_init_93 (fun H locs hP hS => ?_)
      rw [mw_ov_set hj (by decide)] at hP
      have hP : mw_P D k_cl (mw_ov M0 ad (va_up (va_up cw 1 (.inl (cI, 3, .inl (rk_nf (va_up fq i (rk_at P i - 32)))))) 0 (.inl (cI, 3, .inl (rk_nf (va_up fb i (2 ^ (rk_at P i - 32))))))) 2) _ H := hP
      refine lv_iload hx hb d_Pt_init_94 (lv_at hl 5 rfl) ?_
      refine lv_aload_n hx hb d_Pt_init_96 rfl (lv_at hl 0 rfl) ?_
      refine mw_get (v := .ref (ad 0)) (ci := 2) (C := R_Pt) (T := T_Pt) (N := 8) J i_Pt hK hP ((mw_ov_off hoa).trans g0) rfl 0 (by decide) (hts _ k_72) (fun _ h9 => h9) rfl d_Pt_init_97 ?_
      refine lv_iload hx hb d_Pt_init_100 (lv_at hl 8 rfl) ?_
      refine mw_nald (k := i) J hK hP 0 (mw_ov_is hj (by decide) rfl) rfl (by omega) (by decide) d_Pt_init_102 ?_
      refine mw_top (x' := nI (rk_bits P i)) (by rw [va_up_self]; unfold rk_bits; rw [if_neg hn]) ?_
      refine lv_ior hx hb d_Pt_init_103 ?_
      refine mw_top (x' := nI (rk_varsn P (i + 1))) (nx_or _ _) ?_
      refine lv_istore (lv' := [(5, .int (nI (rk_varsn P (i + 1)))), (0, .ref a), (1, .int (rk_iv (rk_at P 0))), (2, .int (rk_iv (rk_at P 1))), (3, .int (rk_iv (rk_at P 2))), (4, .ref it), (6, .int (nI (rk_m (rk_upto (rk_num P) i)))), (7, .int (nI (rk_v (rk_upto (rk_num P) i) (rk_at P)))), (8, .int (nI i))]) hx hb d_Pt_init_104 hl (by decide) rfl (fun ls hl => ?_)
      refine lv_goto (tgt := 140) hx hb d_Pt_init_106 (by decide) ?_
      refine lv_iinc (v := nI (i + 1)) (lv' := [(8, .int (nI (i + 1))), (5, .int (nI (rk_varsn P (i + 1)))), (0, .ref a), (1, .int (rk_iv (rk_at P 0))), (2, .int (rk_iv (rk_at P 1))), (3, .int (rk_iv (rk_at P 2))), (4, .ref it), (6, .int (nI (rk_m (rk_upto (rk_num P) i)))), (7, .int (nI (rk_v (rk_upto (rk_num P) i) (rk_at P))))]) hx hb d_Pt_init_140 hl (k := 8) rfl (nI_1 i) (by decide) rfl (fun ls hl => ?_)
      refine lv_goto (tgt := 47) hx hb d_Pt_init_143 (by decide) ?_
      exact ih_47 _ _ _ (by omega) ⟨(va_up (va_up cw 1 (.inl (cI, 3, .inl (rk_nf (va_up fq i (rk_at P i - 32)))))) 0 (.inl (cI, 3, .inl (rk_nf (va_up fb i (2 ^ (rk_at P i - 32))))))), (va_up fb i (2 ^ (rk_at P i - 32))), (va_up fq i (rk_at P i - 32)), (by rw [rk_m_skip hnum, rk_v_skip hnum]; exact lv_sub hl [2, 3, 4, 5, 6, 1, 7, 8, 0] rfl), rfl, rfl, (rk_next hfb (by unfold rk_bits; rw [if_neg (by omega)])), (rk_next hfq (by unfold rk_slots; rw [if_neg (by omega)])), hP, hS⟩
end
section
/-! rows of codes as lists; the cells of the row of what holds -/
theorem rk_getD_app {L K : List Nat} {i : Nat} (h : i < L.length) : (L ++ K).getD i 0 = L.getD i 0 := by
  rw [List.getD_eq_getElem?_getD, List.getD_eq_getElem?_getD, List.getElem?_append_left h]
theorem rk_getD_last (L : List Nat) (x : Nat) : (L ++ [x]).getD L.length 0 = x := by
  rw [List.getD_eq_getElem?_getD, List.getElem?_append_right (Nat.le_refl _)]
  simp
theorem rk_getD_mem {L : List Nat} {i : Nat} (h : i < L.length) : L.getD i 0 ∈ L := by
  rw [List.getD_eq_getElem?_getD, List.getElem?_eq_getElem h]
  exact List.getElem_mem h
theorem rk_drop_cons {L : List Nat} {i : Nat} (h : i < L.length) : L.drop i = L.getD i 0 :: L.drop (i + 1) := by
  rw [List.drop_eq_getElem_cons h, List.getD_eq_getElem?_getD, List.getElem?_eq_getElem h]
  rfl
theorem rk_take_succ {L : List Nat} {i : Nat} (h : i < L.length) : L.take (i + 1) = L.take i ++ [L.getD i 0] := by
  rw [List.take_add_one, List.getD_eq_getElem?_getD, List.getElem?_eq_getElem h]
  rfl
theorem rk_getD_take {L : List Nat} {i j : Nat} (h : i < j) : (L.take j).getD i 0 = L.getD i 0 := by
  rw [List.getD_eq_getElem?_getD, List.getD_eq_getElem?_getD, List.getElem?_take_of_lt h]
theorem rk_set_drop {L K : List Nat} {i : Nat} (hn : (K ++ L.drop i).Nodup) (h : i < L.length) : va_up (fun k => decide (k ∈ K ++ L.drop i)) (L.getD i 0) false = fun k => decide (k ∈ K ++ L.drop (i + 1)) := by
  rw [rk_drop_cons h] at hn ⊢
  obtain ⟨h1, h2, h3⟩ := List.nodup_append.mp hn
  have h4 := List.nodup_cons.mp h2
  funext k
  by_cases e : k = L.getD i 0
  · subst e
    rw [va_up_self]
    symm
    rw [decide_eq_false_iff_not, List.mem_append]
    rintro (z | z)
    · exact h3 _ z _ List.mem_cons_self rfl
    · exact h4.1 z
  · rw [va_up_ne _ _ e]
    refine decide_eq_decide.mpr ?_
    rw [List.mem_append, List.mem_append, List.mem_cons]
    constructor
    · rintro (z | z | z)
      · exact Or.inl z
      · exact absurd z e
      · exact Or.inr z
    · rintro (z | z)
      · exact Or.inl z
      · exact Or.inr (Or.inr z)
theorem rk_set_keep {L K : List Nat} {i : Nat} (h : i < L.length) : (fun k => decide (k ∈ K ++ L.drop i)) = fun k => decide (k ∈ (K ++ [L.getD i 0]) ++ L.drop (i + 1)) := by
  rw [rk_drop_cons h]
  funext k
  refine decide_eq_decide.mpr ?_
  simp only [List.mem_append, List.mem_cons, List.not_mem_nil, or_false]
  constructor
  · rintro (z | z | z)
    · exact Or.inl (Or.inl z)
    · exact Or.inl (Or.inr z)
    · exact Or.inr z
  · rintro ((z | z) | z)
    · exact Or.inl z
    · exact Or.inr (Or.inl z)
    · exact Or.inr (Or.inr z)
theorem rk_set_add (L : List Nat) (x : Nat) : va_up (fun k => decide (k ∈ L)) x true = fun k => decide (k ∈ L ++ [x]) := by
  funext k
  by_cases e : k = x
  · subst e
    rw [va_up_self]
    simp
  · rw [va_up_ne _ _ e]
    refine decide_eq_decide.mpr ?_
    simp [e]
theorem rk_nodup_td {L : List Nat} (h : L.Nodup) {j i : Nat} (hji : j ≤ i) : (L.take j ++ L.drop i).Nodup := by
  have e : L.take j ++ L.drop j = L := List.take_append_drop j L
  have h1 : (L.take j ++ L.drop j).Nodup := by rw [e]; exact h
  have hs : List.Sublist (L.drop i) (L.drop j) := by
    have : L.drop i = (L.drop j).drop (i - j) := by rw [List.drop_drop]; congr 1; omega
    rw [this]
    exact List.drop_sublist _ _
  exact List.Nodup.sublist (List.Sublist.append (List.Sublist.refl _) hs) h1
theorem rk_nodup_fd {L : List Nat} (h : L.Nodup) (p : Nat → Bool) (i : Nat) : ((L.take i).filter p ++ L.drop i).Nodup := by
  have h1 : (L.take i ++ L.drop i).Nodup := by rw [List.take_append_drop]; exact h
  exact List.Nodup.sublist (List.Sublist.append List.filter_sublist (List.Sublist.refl _)) h1
/-- the row L stands in the cells 2, 3, 4 -/
def k_tr (cI : ClassId) (ad : Nat → Nat) (cw : Nat → va_E) (pm : Nat) (L : List Nat) : Prop :=
  ∃ (fc : Nat → Nat) (w : Nat → Int32), cw 2 = .inr (1, [.ref (ad 3), .ref pm, .int (nI L.length)]) ∧ cw 3 = .inl (cI, 300, .inl (rk_nf fc)) ∧ cw 4 = .inl (cI, 1024, .inl w) ∧ (∀ i, i < L.length → fc i = L.getD i 0) ∧ rk_W w (fun k => decide (k ∈ L)) ∧ L.length ≤ 300 ∧ L.Nodup ∧ ∀ k, k ∈ L → k < 32768
/-- the overlay of the keeper's own cells -/
def k_ov (B : mw_M) (ad : Nat → Nat) : Prop := mw_inj ad 21 ∧ ∀ i, i < 21 → B (ad i) = none
theorem rk_min {a b : Nat} (h : a ≤ b) (hb : b < 2 ^ 31) : (if nI a < nI b then nI a else nI b) = nI a := by
  by_cases e : a = b
  · subst e
    simp
  · rw [if_pos (nI_lt (by omega) hb)]
theorem rk_filt_t {L : List Nat} {p : Nat → Bool} {i : Nat} (h : i < L.length) (hp : p (L.getD i 0) = true) : (L.take (i + 1)).filter p = (L.take i).filter p ++ [L.getD i 0] := by
  rw [rk_take_succ h, List.filter_append]
  congr 1
  rw [List.filter_cons_of_pos hp]
  rfl
theorem rk_filt_f {L : List Nat} {p : Nat → Bool} {i : Nat} (h : i < L.length) (hp : p (L.getD i 0) = false) : (L.take (i + 1)).filter p = (L.take i).filter p := by
  rw [rk_take_succ h, List.filter_append]
  rw [List.filter_cons_of_neg (by rw [hp]; decide)]
  simp
theorem rk_filt_le (L : List Nat) (p : Nat → Bool) (i : Nat) : ((L.take i).filter p).length ≤ i := by
  have h1 := List.length_filter_le p (L.take i)
  have h2 : (L.take i).length ≤ i := by rw [List.length_take]; omega
  omega
end
section
/-! Triples: the row of what holds -/
set_option maxHeartbeats 4000000 in
set_option maxRecDepth 100000 in
theorem c_Tr_has (l : Launch) (D : va_G) (cI cZ cP cR cC : ClassId) (tS : Nat) (sz : Nat) (B : mw_M) (ad : Nat → Nat) (cw : Nat → va_E) (pm : Nat) (L : List Nat) (ho : k_ov B ad) (hpm : B pm = some (.inr (0, [.ref (ad 4)]))) (ht : k_tr cI ad cw pm L) (k : Nat) (hk : k < 32768) :
    Met l y_Tr_has (.code y_Tr_has b_Tr_has 2 (some .boolean) :: gw) ({ frames := 1, cells := 0, slots := 0, locals := 21 }) (va_Pc [.ref (ad 2), .int (nI k)] (mw_B D k_cl (k_tys cI cZ cP cR cC) (k_g tS) (mw_ov B ad cw 21) sz)) (va_Qi (fun (r : Int32) (M1 : mw_M) => M1 = mw_ov B ad cw 21 ∧ r = if k ∈ L then 1 else 0) (mw_E D k_cl (mw_ov B ad cw 21) sz) (mw_A (mw_ov B ad cw 21) sz)) 0 0 (mw_A (mw_ov B ad cw 21) sz) := by
  refine mw_met (by decide) rfl (Nat.le_of_ble_eq_true rfl) ?_
  intro p e s m below meth c hsz J hr hlk hnm hK hZ hP hS hA ls hl
  subst hsz
  have hx := J.1
  have hb := J.2.1
  have hts := J.2.2.2.2
  have hl : lv_has ls 2 [(0, .ref (ad 2)), (1, .int (nI k))] := hl
  obtain ⟨fc, w, hc2, hc3, hc4, hfc, hW, hL3, hnd, hlt⟩ := ht
  refine lv_aload_n hx hb d_Tr_has_0 rfl (lv_at hl 0 rfl) ?_
  refine mw_get (v := .ref pm) (ci := 1) (C := R_Tr) (T := T_Tr) (N := 3) J i_Tr hK hP (mw_ov_is (i := 2) ho.1 (by decide) hc2) rfl 1 (by decide) (hts _ k_45) (fun _ h9 => h9) rfl d_Tr_has_1 ?_
  refine lv_iload_n hx hb d_Tr_has_4 rfl (lv_at hl 1 rfl) ?_
  refine mw_afterI hP hS hA (mw_runV (As := [.int (nI k)]) (rest := []) J hK hZ hP hS hA (mw_ov_fr ho.2 hpm) rfl (c_Mk_has l D cI cZ cP cR cC tS _ (mw_ov B ad cw 21) pm (ad 4) w _ k hk hW (mw_ov_fr ho.2 hpm) (mw_ov_is (i := 4) ho.1 (by decide) hc4)) (cwV 1 hts (mw_gV k_211 k_204 k_205 k_4 k_206) rfl rfl rfl (by decide +kernel) ⟨Nat.le_of_ble_eq_true rfl, Nat.le_of_ble_eq_true rfl⟩) rfl hl.1 rfl (Nat.le_of_ble_eq_true rfl) d_Tr_has_5 ⟨Nat.le_of_ble_eq_true rfl, Nat.le_of_ble_eq_true rfl⟩) (fun r M1 H locs hw hP hS => ?_)
  obtain ⟨rfl, rfl⟩ := hw
  exact mw_zret J hr hlk (by by_cases h : k ∈ L <;> simp [h] <;> rfl) hP hS d_Tr_has_8 (⟨rfl, by simp⟩)

set_option maxHeartbeats 4000000 in
set_option maxRecDepth 100000 in
theorem c_Tr_add (l : Launch) (D : va_G) (cI cZ cP cR cC : ClassId) (tS : Nat) (sz : Nat) (B : mw_M) (ad : Nat → Nat) (cw : Nat → va_E) (pm : Nat) (L : List Nat) (ho : k_ov B ad) (hpm : B pm = some (.inr (0, [.ref (ad 4)]))) (ht : k_tr cI ad cw pm L) (k : Nat) (hk : k < 32768) (hkL : k ∉ L) :
    Met l y_Tr_add (.code y_Tr_add b_Tr_add 2 (some .boolean) :: gw) ({ frames := 1, cells := 0, slots := 0, locals := 21 }) (va_Pc [.ref (ad 2), .int (nI k)] (mw_B D k_cl (k_tys cI cZ cP cR cC) (k_g tS) (mw_ov B ad cw 21) sz)) (va_Qi (fun (r : Int32) (M1 : mw_M) => (L.length < 300 ∧ r = 1 ∧ ∃ cw1, M1 = mw_ov B ad cw1 21 ∧ k_tr cI ad cw1 pm (L ++ [k]) ∧ ∀ i, i ≠ 2 → i ≠ 3 → i ≠ 4 → cw1 i = cw i) ∨ (L.length = 300 ∧ r = 0 ∧ M1 = mw_ov B ad cw 21)) (mw_E D k_cl (mw_ov B ad cw 21) sz) (mw_A (mw_ov B ad cw 21) sz)) 0 0 (mw_A (mw_ov B ad cw 21) sz) := by
  refine mw_met (by decide) rfl (Nat.le_of_ble_eq_true rfl) ?_
  intro p e s m below meth c hsz J hr hlk hnm hK hZ hP hS hA ls hl
  subst hsz
  have hx := J.1
  have hb := J.2.1
  have hts := J.2.2.2.2
  have hl : lv_has ls 2 [(0, .ref (ad 2)), (1, .int (nI k))] := hl
  obtain ⟨fc, w, hc2, hc3, hc4, hfc, hW, hL3, hnd, hlt⟩ := ht
  refine lv_aload_n hx hb d_Tr_add_0 rfl (lv_at hl 0 rfl) ?_
  refine mw_get (v := .int (nI L.length)) (ci := 1) (C := R_Tr) (T := T_Tr) (N := 3) J i_Tr hK hP (mw_ov_is (i := 2) ho.1 (by decide) hc2) rfl 2 (by decide) (hts _ k_46) (fun _ h9 => h9) rfl d_Tr_add_1 ?_
  refine lv_sipush (v := 300) hx hb d_Tr_add_4 (by decide) ?_
  refine mw_top (x' := nI 300) rfl ?_
  refine lv_icmp_lt (tgt := 12) hx hb d_Tr_add_7 (by decide) (fun c_7 => ?_) (fun c_7 => ?_)
  · have c_7 : L.length < 300 := (nI_ltI (by omega) (by omega)).mp c_7
    refine lv_aload_n hx hb d_Tr_add_12 rfl (lv_at hl 0 rfl) ?_
    refine mw_get (v := .ref (ad 3)) (ci := 1) (C := R_Tr) (T := T_Tr) (N := 3) J i_Tr hK hP (mw_ov_is (i := 2) ho.1 (by decide) hc2) rfl 0 (by decide) (hts _ k_41) (fun _ h9 => h9) rfl d_Tr_add_13 ?_
    refine lv_aload_n hx hb d_Tr_add_16 rfl (lv_at hl 0 rfl) ?_
    refine mw_get (v := .int (nI L.length)) (ci := 1) (C := R_Tr) (T := T_Tr) (N := 3) J i_Tr hK hP (mw_ov_is (i := 2) ho.1 (by decide) hc2) rfl 2 (by decide) (hts _ k_46) (fun _ h9 => h9) rfl d_Tr_add_17 ?_
    refine lv_iload_n hx hb d_Tr_add_20 rfl (lv_at hl 1 rfl) ?_
    refine mw_nast (k := L.length) (x := k) J hK hP hS 0 (mw_ov_is (i := 3) ho.1 (by decide) hc3) rfl (by omega) (by decide) d_Tr_add_21 (fun H locs hP hS => ?_)
    rw [mw_ov_set ho.1 (by decide)] at hP
    have hP : mw_P D k_cl (mw_ov B ad (va_up cw 3 (.inl (cI, 300, .inl (rk_nf (va_up fc L.length k))))) 21) _ H := hP
    refine lv_aload_n hx hb d_Tr_add_22 rfl (lv_at hl 0 rfl) ?_
    refine lv_dup hx hb d_Tr_add_23 rfl ?_
    refine mw_get (v := .int (nI L.length)) (ci := 1) (C := R_Tr) (T := T_Tr) (N := 3) J i_Tr hK hP (mw_ov_is (i := 2) ho.1 (by decide) hc2) rfl 2 (by decide) (hts _ k_46) (fun _ h9 => h9) rfl d_Tr_add_24 ?_
    refine lv_iconst (v := 1) hx hb d_Tr_add_27 (by decide) ?_
    refine lv_iadd hx hb d_Tr_add_28 ?_
    refine mw_top (x' := nI (L.length + 1)) (nI_1 _) ?_
    refine mw_put (v := .int (nI (L.length + 1))) (ty := .int) (ci := 1) (C := R_Tr) (T := T_Tr) (N := 3) J i_Tr t_Tr o_Tr n_Tr hK hP hS (mw_ov_is (i := 2) ho.1 (by decide) hc2) rfl 2 (by decide) (hts _ k_46) (fun _ h9 => h9) rfl rfl rfl rfl (Nat.le_of_ble_eq_true rfl) d_Tr_add_29 (fun H locs hP hS => ?_)
    rw [mw_ov_set ho.1 (by decide)] at hP
    have hP : mw_P D k_cl (mw_ov B ad (va_up (va_up cw 3 (.inl (cI, 300, .inl (rk_nf (va_up fc L.length k))))) 2 (.inr (1, [.ref (ad 3), .ref pm, .int (nI (L.length + 1))]))) 21) _ H := hP
    refine lv_aload_n hx hb d_Tr_add_32 rfl (lv_at hl 0 rfl) ?_
    refine mw_get (v := .ref pm) (ci := 1) (C := R_Tr) (T := T_Tr) (N := 3) J i_Tr hK hP (mw_ov_is (i := 2) ho.1 (by decide) rfl) rfl 1 (by decide) (hts _ k_45) (fun _ h9 => h9) rfl d_Tr_add_33 ?_
    refine lv_iload_n hx hb d_Tr_add_36 rfl (lv_at hl 1 rfl) ?_
    refine mw_afterV hP hS hA (mw_runV (As := [.int (nI k)]) (rest := []) J hK hZ hP hS hA (mw_ov_fr ho.2 hpm) rfl (c_Mk_put l D cI cZ cP cR cC tS _ _ pm (ad 4) w _ k hk hW (mw_ov_fr ho.2 hpm) (mw_ov_is (i := 4) ho.1 (by decide) hc4)) (cwV 1 hts (mw_gV k_220 k_221 k_222 k_4 k_223) rfl rfl rfl (by decide +kernel) ⟨Nat.le_of_ble_eq_true rfl, Nat.le_of_ble_eq_true rfl⟩) rfl hl.1 rfl (Nat.le_of_ble_eq_true rfl) d_Tr_add_37 ⟨Nat.le_of_ble_eq_true rfl, Nat.le_of_ble_eq_true rfl⟩) (fun M1 H locs hw hP hS => ?_)
    obtain ⟨w1, hW1, rfl⟩ := hw
    rw [mw_ov_set ho.1 (by decide)] at hP
    have hP : mw_P D k_cl (mw_ov B ad (va_up (va_up (va_up cw 3 (.inl (cI, 300, .inl (rk_nf (va_up fc L.length k))))) 2 (.inr (1, [.ref (ad 3), .ref pm, .int (nI (L.length + 1))]))) 4 (.inl (cI, 1024, .inl w1))) 21) _ H := hP
    refine lv_iconst (v := 1) hx hb d_Tr_add_40 (by decide) ?_
    refine mw_zret J hr hlk rfl hP hS d_Tr_add_41 (Or.inl ⟨by omega, rfl, _, rfl, ⟨_, w1, by rw [List.length_append]; rfl, rfl, rfl, fun i hi => ?_, by rw [← rk_set_add]; exact hW1, by simp; omega, List.nodup_append.mpr ⟨hnd, by simp, fun a ha b hb e => hkL (by rw [← List.mem_singleton.mp hb, ← e]; exact ha)⟩, fun z hz => (List.mem_append.mp hz).elim (hlt z) (fun h => by rw [List.mem_singleton.mp h]; exact hk)⟩, fun i h2 h3 h4 => by rw [va_up_ne _ _ h4, va_up_ne _ _ h2, va_up_ne _ _ h3]⟩)
    rw [List.length_append] at hi
    by_cases e : i = L.length
    · subst e
      rw [va_up_self, rk_getD_last]
    · rw [va_up_ne _ _ e, rk_getD_app (by simp at hi; omega)]
      exact hfc i (by simp at hi; omega)
  · have c_7 : ¬ (L.length < 300) := fun z => c_7 ((nI_ltI (by omega) (by omega)).mpr z)
    refine lv_iconst (v := 0) hx hb d_Tr_add_10 (by decide) ?_
    exact mw_zret J hr hlk rfl hP hS d_Tr_add_11 (Or.inr ⟨by omega, rfl, rfl⟩)

set_option maxHeartbeats 4000000 in
set_option maxRecDepth 100000 in
theorem c_Tr_cutTo (l : Launch) (D : va_G) (cI cZ cP cR cC : ClassId) (tS : Nat) (sz : Nat) (B : mw_M) (ad : Nat → Nat) (cw : Nat → va_E) (pm : Nat) (L : List Nat) (ho : k_ov B ad) (hpm : B pm = some (.inr (0, [.ref (ad 4)]))) (ht : k_tr cI ad cw pm L) (j : Nat) (hj0 : j ≤ L.length) :
    Met l y_Tr_cutTo (.code y_Tr_cutTo b_Tr_cutTo 3 none :: gw) ({ frames := 1, cells := 0, slots := 0, locals := 21 }) (va_Pc [.ref (ad 2), .int (nI j)] (mw_B D k_cl (k_tys cI cZ cP cR cC) (k_g tS) (mw_ov B ad cw 21) sz)) (va_Qv (fun (M1 : mw_M) => ∃ cw1, M1 = mw_ov B ad cw1 21 ∧ k_tr cI ad cw1 pm (L.take j) ∧ ∀ i, i ≠ 2 → i ≠ 3 → i ≠ 4 → cw1 i = cw i) (mw_E D k_cl (mw_ov B ad cw 21) sz) (mw_A (mw_ov B ad cw 21) sz)) 0 0 (mw_A (mw_ov B ad cw 21) sz) := by
  refine mw_met (by decide) rfl (Nat.le_of_ble_eq_true rfl) ?_
  intro p e s m below meth c hsz J hr hlk hnm hK hZ hP hS hA ls hl
  subst hsz
  have hx := J.1
  have hb := J.2.1
  have hts := J.2.2.2.2
  have hl : lv_has ls 3 [(0, .ref (ad 2)), (1, .int (nI j))] := hl
  obtain ⟨fc, w, hc2, hc3, hc4, hfc, hW, hL3, hnd, hlt⟩ := ht
  refine lv_iload_n hx hb d_Tr_cutTo_0 rfl (lv_at hl 1 rfl) ?_
  refine lv_iconst (v := 0) hx hb d_Tr_cutTo_1 (by decide) ?_
  refine va_mmax hx hb (J.2.2.1.trans hl.1.symm) J.2.2.2.1 (hts _ k_287) (hts _ k_229) (hts _ k_9) (hts _ k_230) (Nat.le_of_ble_eq_true rfl) (Nat.le_of_ble_eq_true rfl) (Nat.le_of_ble_eq_true rfl) (Nat.le_of_ble_eq_true rfl) d_Tr_cutTo_2 ?_
  refine mw_top (x' := nI j) (if_neg (nI_pos (by omega))) ?_
  refine lv_istore_n (lv' := [(2, .int (nI j)), (0, .ref (ad 2)), (1, .int (nI j))]) hx hb d_Tr_cutTo_5 rfl hl (by decide) rfl (fun ls hl => ?_)
  refine mw_loop (W' := fun H locs ls => W p l e _ s m _ below meth c H locs _ _ _ (F0 m 6 ls [])) L.length (fun i H locs ls => ∃ (cx : Nat → va_E), ∃ (w2 : Nat → Int32), lv_has ls 3 [(0, .ref (ad 2)), (1, .int (nI j)), (2, .int (nI i))] ∧ (cx 4 = .inl (cI, 1024, .inl w2)) ∧ (rk_W w2 (fun k => decide (k ∈ L.take j ++ L.drop i))) ∧ (∀ i, i ≠ 4 → cx i = cw i) ∧ (j ≤ i) ∧ mw_P D k_cl (mw_ov B ad cx 21) (mw_A (mw_ov B ad cw 21) s.heap.size) H ∧ va_S (mw_A (mw_ov B ad cw 21) s.heap.size) s.heap H locs) ?_ L.length j (by omega) (by omega) _ _ _ ⟨cw, w, lv_sub hl [1, 2, 0] rfl, hc4, (by rw [List.take_append_drop]; exact hW), (fun _ _ => rfl), (Nat.le_refl _), hP, hS⟩
  intro i H locs ls hi_6 hI ih_6
  obtain ⟨cx, w2, hl, hx4, hW2, hot, hji, hP, hS⟩ := hI
  refine lv_iload_n hx hb d_Tr_cutTo_6 rfl (lv_at hl 2 rfl) ?_
  refine lv_aload_n hx hb d_Tr_cutTo_7 rfl (lv_at hl 0 rfl) ?_
  refine mw_get (v := .int (nI L.length)) (ci := 1) (C := R_Tr) (T := T_Tr) (N := 3) J i_Tr hK hP (mw_ov_is (i := 2) ho.1 (by decide) ((hot 2 (by decide)).trans hc2)) rfl 2 (by decide) (hts _ k_46) (fun _ h9 => h9) rfl d_Tr_cutTo_8 ?_
  refine lv_icmp_ge (tgt := 33) hx hb d_Tr_cutTo_11 (by decide) (fun c_11 => ?_) (fun c_11 => ?_)
  · have c_11 : L.length ≤ i := (nI_leI (by omega) (by omega)).mp c_11
    have hi0 : i = L.length := by omega
    rw [hi0, List.drop_length, List.append_nil] at hW2
    refine lv_aload_n hx hb d_Tr_cutTo_33 rfl (lv_at hl 0 rfl) ?_
    refine lv_aload_n hx hb d_Tr_cutTo_34 rfl (lv_at hl 0 rfl) ?_
    refine mw_get (v := .int (nI L.length)) (ci := 1) (C := R_Tr) (T := T_Tr) (N := 3) J i_Tr hK hP (mw_ov_is (i := 2) ho.1 (by decide) ((hot 2 (by decide)).trans hc2)) rfl 2 (by decide) (hts _ k_46) (fun _ h9 => h9) rfl d_Tr_cutTo_35 ?_
    refine lv_iload_n hx hb d_Tr_cutTo_38 rfl (lv_at hl 1 rfl) ?_
    refine lv_iconst (v := 0) hx hb d_Tr_cutTo_39 (by decide) ?_
    refine va_mmax hx hb (J.2.2.1.trans hl.1.symm) J.2.2.2.1 (hts _ k_287) (hts _ k_229) (hts _ k_9) (hts _ k_230) (Nat.le_of_ble_eq_true rfl) (Nat.le_of_ble_eq_true rfl) (Nat.le_of_ble_eq_true rfl) (Nat.le_of_ble_eq_true rfl) d_Tr_cutTo_40 ?_
    refine mw_top (x' := nI j) (if_neg (nI_pos (by omega))) ?_
    refine va_mmin hx hb (J.2.2.1.trans hl.1.symm) J.2.2.2.1 (hts _ k_292) (hts _ k_293) (hts _ k_9) (hts _ k_294) (Nat.le_of_ble_eq_true rfl) (Nat.le_of_ble_eq_true rfl) (Nat.le_of_ble_eq_true rfl) (Nat.le_of_ble_eq_true rfl) d_Tr_cutTo_43 ?_
    refine mw_top (x' := nI j) (rk_min hj0 (by omega)) ?_
    refine mw_put (v := .int (nI j)) (ty := .int) (ci := 1) (C := R_Tr) (T := T_Tr) (N := 3) J i_Tr t_Tr o_Tr n_Tr hK hP hS (mw_ov_is (i := 2) ho.1 (by decide) ((hot 2 (by decide)).trans hc2)) rfl 2 (by decide) (hts _ k_46) (fun _ h9 => h9) rfl rfl rfl rfl (Nat.le_of_ble_eq_true rfl) d_Tr_cutTo_46 (fun H locs hP hS => ?_)
    rw [mw_ov_set ho.1 (by decide)] at hP
    have hP : mw_P D k_cl (mw_ov B ad (va_up cx 2 (.inr (1, [.ref (ad 3), .ref pm, .int (nI j)]))) 21) _ H := hP
    refine mw_vret J hr hlk hP hS d_Tr_cutTo_49 (⟨_, rfl, ⟨fc, w2, by rw [List.length_take, Nat.min_eq_left hj0]; rfl, (hot 3 (by decide)).trans hc3, hx4, fun z hz => ?_, hW2, by rw [List.length_take]; omega, List.Nodup.sublist (List.take_sublist _ _) hnd, fun z hz => hlt z (List.mem_of_mem_take hz)⟩, fun x h2 h3 h4 => by rw [va_up_ne _ _ h2]; exact hot x h4⟩)
    rw [List.length_take] at hz
    rw [rk_getD_take (by omega)]
    exact hfc z (by omega)
  · have c_11 : ¬ (L.length ≤ i) := fun z => c_11 ((nI_leI (by omega) (by omega)).mpr z)
    refine lv_aload_n hx hb d_Tr_cutTo_14 rfl (lv_at hl 0 rfl) ?_
    refine mw_get (v := .ref pm) (ci := 1) (C := R_Tr) (T := T_Tr) (N := 3) J i_Tr hK hP (mw_ov_is (i := 2) ho.1 (by decide) ((hot 2 (by decide)).trans hc2)) rfl 1 (by decide) (hts _ k_45) (fun _ h9 => h9) rfl d_Tr_cutTo_15 ?_
    refine lv_aload_n hx hb d_Tr_cutTo_18 rfl (lv_at hl 0 rfl) ?_
    refine mw_get (v := .ref (ad 3)) (ci := 1) (C := R_Tr) (T := T_Tr) (N := 3) J i_Tr hK hP (mw_ov_is (i := 2) ho.1 (by decide) ((hot 2 (by decide)).trans hc2)) rfl 0 (by decide) (hts _ k_41) (fun _ h9 => h9) rfl d_Tr_cutTo_19 ?_
    refine lv_iload_n hx hb d_Tr_cutTo_22 rfl (lv_at hl 2 rfl) ?_
    refine mw_nald (k := i) J hK hP 0 (mw_ov_is (i := 3) ho.1 (by decide) ((hot 3 (by decide)).trans hc3)) rfl (by omega) (by decide) d_Tr_cutTo_23 ?_
    refine mw_top (x' := nI (L.getD i 0)) (by rw [hfc i (by omega)]) ?_
    refine mw_afterV hP hS hA (mw_runV (As := [.int (nI (L.getD i 0))]) (rest := []) J hK hZ hP hS hA (mw_ov_fr ho.2 hpm) rfl (c_Mk_drop l D cI cZ cP cR cC tS _ _ pm (ad 4) w2 _ (L.getD i 0) (hlt _ (rk_getD_mem (by omega))) hW2 (mw_ov_fr ho.2 hpm) (mw_ov_is (i := 4) ho.1 (by decide) hx4)) (cwV 1 hts (mw_gV k_288 k_289 k_290 k_4 k_291) rfl rfl rfl (by decide +kernel) ⟨Nat.le_of_ble_eq_true rfl, Nat.le_of_ble_eq_true rfl⟩) rfl hl.1 rfl (Nat.le_of_ble_eq_true rfl) d_Tr_cutTo_24 ⟨Nat.le_of_ble_eq_true rfl, Nat.le_of_ble_eq_true rfl⟩) (fun M1 H locs hw hP hS => ?_)
    obtain ⟨w3, hW3, rfl⟩ := hw
    rw [mw_ov_set ho.1 (by decide)] at hP
    have hP : mw_P D k_cl (mw_ov B ad (va_up cx 4 (.inl (cI, 1024, .inl w3))) 21) _ H := hP
    refine lv_iinc (v := nI (i + 1)) (lv' := [(2, .int (nI (i + 1))), (0, .ref (ad 2)), (1, .int (nI j))]) hx hb d_Tr_cutTo_27 hl (k := 2) rfl (nI_1 i) (by decide) rfl (fun ls hl => ?_)
    refine lv_goto (tgt := 6) hx hb d_Tr_cutTo_30 (by decide) ?_
    exact ih_6 _ _ _ (by omega) ⟨(va_up cx 4 (.inl (cI, 1024, .inl w3))), w3, lv_sub hl [1, 2, 0] rfl, rfl, (by rw [← rk_set_drop (rk_nodup_td hnd hji) (by omega)]; exact hW3), (fun x hx => by rw [va_up_ne _ _ hx]; exact hot x hx), (by omega), hP, hS⟩

set_option maxHeartbeats 4000000 in
set_option maxRecDepth 100000 in
theorem c_Tr_keepThose (l : Launch) (D : va_G) (cI cZ cP cR cC : ClassId) (tS : Nat) (sz : Nat) (B : mw_M) (ad : Nat → Nat) (cw : Nat → va_E) (pm : Nat) (L : List Nat) (ho : k_ov B ad) (hpm : B pm = some (.inr (0, [.ref (ad 4)]))) (ht : k_tr cI ad cw pm L) (sm : Nat) (ws : Nat → Int32) (S : Nat → Bool) (hsm : B sm = some (.inr (0, [.ref (ad 5)]))) (hc5 : cw 5 = .inl (cI, 1024, .inl ws)) (hWs : rk_W ws S) :
    Met l y_Tr_keepThose (.code y_Tr_keepThose b_Tr_keepThose 4 none :: gw) ({ frames := 1, cells := 0, slots := 0, locals := 21 }) (va_Pc [.ref (ad 2), .ref sm] (mw_B D k_cl (k_tys cI cZ cP cR cC) (k_g tS) (mw_ov B ad cw 21) sz)) (va_Qv (fun (M1 : mw_M) => ∃ cw1, M1 = mw_ov B ad cw1 21 ∧ k_tr cI ad cw1 pm (L.filter S) ∧ ∀ i, i ≠ 2 → i ≠ 3 → i ≠ 4 → cw1 i = cw i) (mw_E D k_cl (mw_ov B ad cw 21) sz) (mw_A (mw_ov B ad cw 21) sz)) 0 0 (mw_A (mw_ov B ad cw 21) sz) := by
  refine mw_met (by decide) rfl (Nat.le_of_ble_eq_true rfl) ?_
  intro p e s m below meth c hsz J hr hlk hnm hK hZ hP hS hA ls hl
  subst hsz
  have hx := J.1
  have hb := J.2.1
  have hts := J.2.2.2.2
  have hl : lv_has ls 4 [(0, .ref (ad 2)), (1, .ref sm)] := hl
  obtain ⟨fc, w, hc2, hc3, hc4, hfc, hW, hL3, hnd, hlt⟩ := ht
  refine lv_iconst (v := 0) hx hb d_Tr_keepThose_0 (by decide) ?_
  refine mw_top (x' := nI (((L.take 0).filter S).length)) nI_0.symm ?_
  refine lv_istore_n (lv' := [(2, .int (nI (((L.take 0).filter S).length))), (0, .ref (ad 2)), (1, .ref sm)]) hx hb d_Tr_keepThose_1 rfl hl (by decide) rfl (fun ls hl => ?_)
  refine lv_iconst (v := 0) hx hb d_Tr_keepThose_2 (by decide) ?_
  refine mw_top (x' := nI 0) nI_0.symm ?_
  refine lv_istore_n (lv' := [(3, .int (nI 0)), (2, .int (nI (((L.take 0).filter S).length))), (0, .ref (ad 2)), (1, .ref sm)]) hx hb d_Tr_keepThose_3 rfl hl (by decide) rfl (fun ls hl => ?_)
  refine mw_loop (W' := fun H locs ls => W p l e _ s m _ below meth c H locs _ _ _ (F0 m 4 ls [])) L.length (fun i H locs ls => ∃ (cx : Nat → va_E), ∃ (fd : Nat → Nat), ∃ (w2 : Nat → Int32), lv_has ls 4 [(0, .ref (ad 2)), (1, .ref sm), (2, .int (nI (((L.take i).filter S).length))), (3, .int (nI i))] ∧ (cx 3 = .inl (cI, 300, .inl (rk_nf fd))) ∧ (cx 4 = .inl (cI, 1024, .inl w2)) ∧ (rk_W w2 (fun k => decide (k ∈ ((L.take i).filter S) ++ L.drop i))) ∧ (∀ i, i ≠ 3 → i ≠ 4 → cx i = cw i) ∧ (∀ z, z < ((L.take i).filter S).length → fd z = ((L.take i).filter S).getD z 0) ∧ (∀ z, i ≤ z → z < L.length → fd z = L.getD z 0) ∧ mw_P D k_cl (mw_ov B ad cx 21) (mw_A (mw_ov B ad cw 21) s.heap.size) H ∧ va_S (mw_A (mw_ov B ad cw 21) s.heap.size) s.heap H locs) ?_ L.length 0 (by omega) (by omega) _ _ _ ⟨cw, fc, w, lv_sub hl [2, 3, 1, 0] rfl, hc3, hc4, (by simpa using hW), (fun _ _ _ => rfl), (fun z hz => by simp at hz), (fun z _ hz => hfc z hz), hP, hS⟩
  intro i H locs ls hi_4 hI ih_4
  obtain ⟨cx, fd, w2, hl, hx3, hx4, hW2, hot, hd1, hd2, hP, hS⟩ := hI
  have hfl := rk_filt_le L S i
  refine lv_iload_n hx hb d_Tr_keepThose_4 rfl (lv_at hl 3 rfl) ?_
  refine lv_aload_n hx hb d_Tr_keepThose_5 rfl (lv_at hl 0 rfl) ?_
  refine mw_get (v := .int (nI L.length)) (ci := 1) (C := R_Tr) (T := T_Tr) (N := 3) J i_Tr hK hP (mw_ov_is (i := 2) ho.1 (by decide) ((hot 2 (by decide) (by decide)).trans hc2)) rfl 2 (by decide) (hts _ k_46) (fun _ h9 => h9) rfl d_Tr_keepThose_6 ?_
  refine lv_icmp_ge (tgt := 62) hx hb d_Tr_keepThose_9 (by decide) (fun c_9 => ?_) (fun c_9 => ?_)
  · have c_9 : L.length ≤ i := (nI_leI (by omega) (by omega)).mp c_9
    have hi0 : i = L.length := by omega
    rw [hi0, List.drop_length, List.append_nil, List.take_length] at hW2
    rw [hi0, List.take_length] at hd1
    refine lv_aload_n hx hb d_Tr_keepThose_62 rfl (lv_at hl 0 rfl) ?_
    refine lv_iload_n hx hb d_Tr_keepThose_63 rfl (lv_at hl 2 rfl) ?_
    refine mw_put (v := .int (nI (((L.take i).filter S).length))) (ty := .int) (ci := 1) (C := R_Tr) (T := T_Tr) (N := 3) J i_Tr t_Tr o_Tr n_Tr hK hP hS (mw_ov_is (i := 2) ho.1 (by decide) ((hot 2 (by decide) (by decide)).trans hc2)) rfl 2 (by decide) (hts _ k_46) (fun _ h9 => h9) rfl rfl rfl rfl (Nat.le_of_ble_eq_true rfl) d_Tr_keepThose_64 (fun H locs hP hS => ?_)
    rw [mw_ov_set ho.1 (by decide)] at hP
    have hP : mw_P D k_cl (mw_ov B ad (va_up cx 2 (.inr (1, [.ref (ad 3), .ref pm, .int (nI (((L.take i).filter S).length))]))) 21) _ H := hP
    exact mw_vret J hr hlk hP hS d_Tr_keepThose_67 (⟨_, rfl, ⟨fd, w2, by rw [hi0, List.take_length]; rfl, hx3, hx4, hd1, hW2, Nat.le_trans (List.length_filter_le _ _) hL3, List.Nodup.sublist List.filter_sublist hnd, fun z hz => hlt z (List.mem_filter.mp hz).1⟩, fun x h2 h3 h4 => by rw [va_up_ne _ _ h2]; exact hot x h3 h4⟩)
  · have c_9 : ¬ (L.length ≤ i) := fun z => c_9 ((nI_leI (by omega) (by omega)).mpr z)
    refine lv_aload_n hx hb d_Tr_keepThose_12 rfl (lv_at hl 1 rfl) ?_
    refine lv_aload_n hx hb d_Tr_keepThose_13 rfl (lv_at hl 0 rfl) ?_
    refine mw_get (v := .ref (ad 3)) (ci := 1) (C := R_Tr) (T := T_Tr) (N := 3) J i_Tr hK hP (mw_ov_is (i := 2) ho.1 (by decide) ((hot 2 (by decide) (by decide)).trans hc2)) rfl 0 (by decide) (hts _ k_41) (fun _ h9 => h9) rfl d_Tr_keepThose_14 ?_
    refine lv_iload_n hx hb d_Tr_keepThose_17 rfl (lv_at hl 3 rfl) ?_
    refine mw_nald (k := i) J hK hP 0 (mw_ov_is (i := 3) ho.1 (by decide) hx3) rfl (by omega) (by decide) d_Tr_keepThose_18 ?_
    refine mw_top (x' := nI (L.getD i 0)) (by rw [hd2 i (Nat.le_refl _) (by omega)]) ?_
    refine mw_afterI hP hS hA (mw_runV (As := [.int (nI (L.getD i 0))]) (rest := []) J hK hZ hP hS hA (mw_ov_fr ho.2 hsm) rfl (c_Mk_has l D cI cZ cP cR cC tS _ (mw_ov B ad cx 21) sm (ad 5) ws S (L.getD i 0) (hlt _ (rk_getD_mem (by omega))) hWs (mw_ov_fr ho.2 hsm) (mw_ov_is (i := 5) ho.1 (by decide) ((hot 5 (by decide) (by decide)).trans hc5))) (cwV 1 hts (mw_gV k_211 k_204 k_205 k_4 k_206) rfl rfl rfl (by decide +kernel) ⟨Nat.le_of_ble_eq_true rfl, Nat.le_of_ble_eq_true rfl⟩) rfl hl.1 rfl (Nat.le_of_ble_eq_true rfl) d_Tr_keepThose_19 ⟨Nat.le_of_ble_eq_true rfl, Nat.le_of_ble_eq_true rfl⟩) (fun r M1 H locs hw hP hS => ?_)
    obtain ⟨rfl, hr1⟩ := hw
    refine lv_if_eq (tgt := 43) hx hb d_Tr_keepThose_22 (by decide) (fun c_22 => ?_) (fun c_22 => ?_)
    · have hs : S (L.getD i 0) = false := by
        cases z : S (L.getD i 0)
        · rfl
        · rw [hr1, if_pos z] at c_22
          exact absurd c_22 (by decide)
      refine lv_aload_n hx hb d_Tr_keepThose_43 rfl (lv_at hl 0 rfl) ?_
      refine mw_get (v := .ref pm) (ci := 1) (C := R_Tr) (T := T_Tr) (N := 3) J i_Tr hK hP (mw_ov_is (i := 2) ho.1 (by decide) ((hot 2 (by decide) (by decide)).trans hc2)) rfl 1 (by decide) (hts _ k_45) (fun _ h9 => h9) rfl d_Tr_keepThose_44 ?_
      refine lv_aload_n hx hb d_Tr_keepThose_47 rfl (lv_at hl 0 rfl) ?_
      refine mw_get (v := .ref (ad 3)) (ci := 1) (C := R_Tr) (T := T_Tr) (N := 3) J i_Tr hK hP (mw_ov_is (i := 2) ho.1 (by decide) ((hot 2 (by decide) (by decide)).trans hc2)) rfl 0 (by decide) (hts _ k_41) (fun _ h9 => h9) rfl d_Tr_keepThose_48 ?_
      refine lv_iload_n hx hb d_Tr_keepThose_51 rfl (lv_at hl 3 rfl) ?_
      refine mw_nald (k := i) J hK hP 0 (mw_ov_is (i := 3) ho.1 (by decide) hx3) rfl (by omega) (by decide) d_Tr_keepThose_52 ?_
      refine mw_top (x' := nI (L.getD i 0)) (by rw [hd2 i (Nat.le_refl _) (by omega)]) ?_
      refine mw_afterV hP hS hA (mw_runV (As := [.int (nI (L.getD i 0))]) (rest := []) J hK hZ hP hS hA (mw_ov_fr ho.2 hpm) rfl (c_Mk_drop l D cI cZ cP cR cC tS _ _ pm (ad 4) w2 _ (L.getD i 0) (hlt _ (rk_getD_mem (by omega))) hW2 (mw_ov_fr ho.2 hpm) (mw_ov_is (i := 4) ho.1 (by decide) hx4)) (cwV 1 hts (mw_gV k_288 k_289 k_290 k_4 k_291) rfl rfl rfl (by decide +kernel) ⟨Nat.le_of_ble_eq_true rfl, Nat.le_of_ble_eq_true rfl⟩) rfl hl.1 rfl (Nat.le_of_ble_eq_true rfl) d_Tr_keepThose_53 ⟨Nat.le_of_ble_eq_true rfl, Nat.le_of_ble_eq_true rfl⟩) (fun M1 H locs hw hP hS => ?_)
      obtain ⟨w3, hW3, rfl⟩ := hw
      rw [mw_ov_set ho.1 (by decide)] at hP
      have hP : mw_P D k_cl (mw_ov B ad (va_up cx 4 (.inl (cI, 1024, .inl w3))) 21) _ H := hP
      refine lv_iinc (v := nI (i + 1)) (lv' := [(3, .int (nI (i + 1))), (0, .ref (ad 2)), (1, .ref sm), (2, .int (nI (((L.take i).filter S).length)))]) hx hb d_Tr_keepThose_56 hl (k := 3) rfl (nI_1 i) (by decide) rfl (fun ls hl => ?_)
      refine lv_goto (tgt := 4) hx hb d_Tr_keepThose_59 (by decide) ?_
      exact ih_4 _ _ _ (by omega) ⟨(va_up cx 4 (.inl (cI, 1024, .inl w3))), fd, w3, (by rw [rk_filt_f (by omega) hs]; exact lv_sub hl [1, 2, 3, 0] rfl), hx3, rfl, (by rw [rk_filt_f (by omega) hs, ← rk_set_drop (rk_nodup_fd hnd S i) (by omega)]; exact hW3), (fun x h3 h4 => by rw [va_up_ne _ _ h4]; exact hot x h3 h4), (by rw [rk_filt_f (by omega) hs]; exact hd1), (fun z h1 h2 => hd2 z (by omega) h2), hP, hS⟩
    · have hs : S (L.getD i 0) = true := by
        cases z : S (L.getD i 0)
        · exact absurd (by rw [hr1, z]; rfl) c_22
        · rfl
      refine lv_aload_n hx hb d_Tr_keepThose_25 rfl (lv_at hl 0 rfl) ?_
      refine mw_get (v := .ref (ad 3)) (ci := 1) (C := R_Tr) (T := T_Tr) (N := 3) J i_Tr hK hP (mw_ov_is (i := 2) ho.1 (by decide) ((hot 2 (by decide) (by decide)).trans hc2)) rfl 0 (by decide) (hts _ k_41) (fun _ h9 => h9) rfl d_Tr_keepThose_26 ?_
      refine lv_iload_n hx hb d_Tr_keepThose_29 rfl (lv_at hl 2 rfl) ?_
      refine lv_aload_n hx hb d_Tr_keepThose_30 rfl (lv_at hl 0 rfl) ?_
      refine mw_get (v := .ref (ad 3)) (ci := 1) (C := R_Tr) (T := T_Tr) (N := 3) J i_Tr hK hP (mw_ov_is (i := 2) ho.1 (by decide) ((hot 2 (by decide) (by decide)).trans hc2)) rfl 0 (by decide) (hts _ k_41) (fun _ h9 => h9) rfl d_Tr_keepThose_31 ?_
      refine lv_iload_n hx hb d_Tr_keepThose_34 rfl (lv_at hl 3 rfl) ?_
      refine mw_nald (k := i) J hK hP 0 (mw_ov_is (i := 3) ho.1 (by decide) hx3) rfl (by omega) (by decide) d_Tr_keepThose_35 ?_
      refine mw_top (x' := nI (L.getD i 0)) (by rw [hd2 i (Nat.le_refl _) (by omega)]) ?_
      refine mw_nast (k := ((L.take i).filter S).length) (x := (L.getD i 0)) J hK hP hS 0 (mw_ov_is (i := 3) ho.1 (by decide) hx3) rfl (by omega) (by decide) d_Tr_keepThose_36 (fun H locs hP hS => ?_)
      rw [mw_ov_set ho.1 (by decide)] at hP
      have hP : mw_P D k_cl (mw_ov B ad (va_up cx 3 (.inl (cI, 300, .inl (rk_nf (va_up fd (((L.take i).filter S).length) (L.getD i 0)))))) 21) _ H := hP
      have hd3 : ∀ z, z < ((L.take (i + 1)).filter S).length → va_up fd ((L.take i).filter S).length (L.getD i 0) z = ((L.take (i + 1)).filter S).getD z 0 := by
        rw [rk_filt_t (by omega) hs]
        intro z hz
        rw [List.length_append] at hz
        by_cases e : z = ((L.take i).filter S).length
        · rw [e, va_up_self, rk_getD_last]
        · rw [va_up_ne _ _ e, rk_getD_app (by simp at hz; omega)]
          exact hd1 z (by simp at hz; omega)
      have hd4 : ∀ z, i + 1 ≤ z → z < L.length → va_up fd ((L.take i).filter S).length (L.getD i 0) z = L.getD z 0 := fun z h1 h2 => by
        rw [va_up_ne _ _ (by omega)]
        exact hd2 z (by omega) h2
      refine lv_iinc (v := nI (((L.take (i + 1)).filter S).length)) (lv' := [(2, .int (nI (((L.take (i + 1)).filter S).length))), (0, .ref (ad 2)), (1, .ref sm), (3, .int (nI i))]) hx hb d_Tr_keepThose_37 hl (k := 2) rfl (by rw [rk_filt_t (by omega) hs, List.length_append]; exact nI_1 _) (by decide) rfl (fun ls hl => ?_)
      refine lv_goto (tgt := 56) hx hb d_Tr_keepThose_40 (by decide) ?_
      refine lv_iinc (v := nI (i + 1)) (lv' := [(3, .int (nI (i + 1))), (2, .int (nI (((L.take (i + 1)).filter S).length))), (0, .ref (ad 2)), (1, .ref sm)]) hx hb d_Tr_keepThose_56 hl (k := 3) rfl (nI_1 i) (by decide) rfl (fun ls hl => ?_)
      refine lv_goto (tgt := 4) hx hb d_Tr_keepThose_59 (by decide) ?_
      exact ih_4 _ _ _ (by omega) ⟨(va_up cx 3 (.inl (cI, 300, .inl (rk_nf (va_up fd (((L.take i).filter S).length) (L.getD i 0)))))), (va_up fd (((L.take i).filter S).length) (L.getD i 0)), w2, lv_sub hl [2, 3, 1, 0] rfl, rfl, hx4, (by rw [rk_filt_t (by omega) hs, ← rk_set_keep (by omega)]; exact hW2), (fun x h3 h4 => by rw [va_up_ne _ _ h3]; exact hot x h3 h4), hd3, hd4, hP, hS⟩
end
section
/-! the cells of a column: 0 itself, 1 parts, 2 times, 3 places -/
def k_co (cI : ClassId) (ac : Nat → Nat) (src K : Nat) (cw : Nat → va_E) (n : Nat) (pr tm pl : Nat → Nat) : Prop :=
  cw 0 = .inr (4, [.ref (ac 1), .ref (ac 2), .ref (ac 3), .ref src, .int (nI K), .int (nI n)]) ∧ cw 1 = .inl (cI, 300, .inl (rk_nf pr)) ∧ cw 2 = .inl (cI, 300, .inl (rk_nf tm)) ∧ cw 3 = .inl (cI, 1024, .inl (rk_nf pl))
/-- parts of the mask f -/
def rk_ps (f : Nat → Bool) (S : List Nat) : Prop := ∀ x, x ∈ S → ∃ w : Nat → Nat, (∀ j, j < 3 → w j < 32) ∧ x = rk_v f w
theorem rk_fi_known {f : Nat → Bool} {n : Nat} {pr tm pl : Nat → Nat} {S : List Nat} (h : rk_fi f n pr tm pl S) (hS : rk_ps f S) {w : Nat → Nat} (hw : ∀ j, j < 3 → w j < 32) (ha : f 0 = false ∨ f 1 = false ∨ f 2 = false) (hq : pl (rk_place (f 0) (rk_v f w)) ≠ 0) : ∃ j, j < n ∧ pl (rk_place (f 0) (rk_v f w)) = j + 1 ∧ pr j = rk_v f w := by
  obtain ⟨h1, h2, h3, h4, h5⟩ := h
  rcases h4 (rk_place (f 0) (rk_v f w)) with z | ⟨j, hj, e⟩
  · exact absurd z hq
  · obtain ⟨u, hu, eu⟩ := hS _ (h3 j hj).2
    rw [eu] at e
    have e2 := rk_place_inj hw hu ha e
    refine ⟨j, hj, ?_, by rw [eu, e2]⟩
    have := h5 ha j hj
    rw [eu, ← e2] at this
    exact this
theorem rk_fi_ge {f : Nat → Bool} {n : Nat} {pr tm pl : Nat → Nat} {S : List Nat} (h : rk_fi f n pr tm pl S) : n ≤ S.length := h.1
end
section
/-! Column: placeOf, take -/
set_option maxHeartbeats 4000000 in
set_option maxRecDepth 100000 in
theorem c_Co_placeOf (l : Launch) (D : va_G) (cI cZ cP cR cC : ClassId) (tS : Nat) (sz : Nat) (M : mw_M) (f : Nat → Bool) (p0 : Nat) (hp0 : p0 < 32768) :
    Met l y_Co_placeOf (.code y_Co_placeOf b_Co_placeOf 4 (some .int) :: gw) ({ frames := 0, cells := 0, slots := 0, locals := 0 }) (va_Pc [.int (nI p0), .int (nI (rk_m f))] (mw_B D k_cl (k_tys cI cZ cP cR cC) (k_g tS) M sz)) (va_Qi (fun (r : Int32) (M1 : mw_M) => M1 = M ∧ r = nI (rk_place (f 0) p0)) (mw_E D k_cl M sz) (mw_A M sz)) 0 0 (mw_A M sz) := by
  refine mw_met (by decide) rfl (Nat.le_of_ble_eq_true rfl) ?_
  intro p e s m below meth c hsz J hr hlk hnm hK hZ hP hS hA ls hl
  subst hsz
  have hx := J.1
  have hb := J.2.1
  have hts := J.2.2.2.2
  have hl : lv_has ls 4 [(0, .int (nI p0)), (1, .int (nI (rk_m f)))] := hl
  refine lv_iload_n hx hb d_Co_placeOf_0 rfl (lv_at hl 1 rfl) ?_
  refine lv_bipush (v := 10) hx hb d_Co_placeOf_1 (by decide) ?_
  refine lv_ishr hx hb d_Co_placeOf_3 ?_
  refine mw_top (x' := nI (rk_m f / 1024)) (rk_shr10 (by have := rk_m_lt f; omega)) ?_
  refine lv_if_eq (tgt := 11) hx hb d_Co_placeOf_4 (by decide) (fun c_4 => ?_) (fun c_4 => ?_)
  · have hf : f 0 = false := (rk_first_iff f).mp ((rk_nI0 (by have := rk_m_lt f; omega)).mp c_4)
    refine lv_iconst (v := 0) hx hb d_Co_placeOf_11 (by decide) ?_
    refine mw_top (x' := nI 0) nI_0.symm ?_
    refine lv_istore_n (lv' := [(2, .int (nI 0)), (0, .int (nI p0)), (1, .int (nI (rk_m f)))]) hx hb d_Co_placeOf_12 rfl hl (by decide) rfl (fun ls hl => ?_)
    refine lv_iload_n hx hb d_Co_placeOf_13 rfl (lv_at hl 0 rfl) ?_
    refine lv_if_eq (tgt := 28) hx hb d_Co_placeOf_14 (by decide) (fun c_14 => ?_) (fun c_14 => ?_)
    · have hb34 : ∀ x : Nat, x < 32768 → x < 2 ^ 32 := fun x h => by omega
      refine lv_iload_n hx hb d_Co_placeOf_28 rfl (lv_at hl 1 rfl) ?_
      refine lv_istore_n (lv' := [(3, .int (nI p0)), (2, .int (nI 0)), (0, .int (nI p0)), (1, .int (nI (rk_m f)))]) hx hb d_Co_placeOf_29 rfl hl (by decide) rfl (fun ls hl => ?_)
      refine lv_iload_n hx hb d_Co_placeOf_30 rfl (lv_at hl 0 rfl) ?_
      refine lv_sipush (v := 1023) hx hb d_Co_placeOf_31 (by decide) ?_
      refine lv_iand hx hb d_Co_placeOf_34 ?_
      refine mw_top (x' := nI (rk_place (f 0) p0)) (by unfold rk_place; rw [hf]; exact pk_andN (hb34 _ (by omega)) 10 (by decide)) ?_
      exact mw_iret J hr hlk hP hS d_Co_placeOf_35 (⟨rfl, rfl⟩)
    · exact absurd nI_0 c_14
  · have hf : f 0 = true := by
      cases z : f 0
      · exact absurd ((rk_nI0 (by have := rk_m_lt f; omega)).mpr ((rk_first_iff f).mpr z)) c_4
      · rfl
    refine lv_iconst (v := 1) hx hb d_Co_placeOf_7 (by decide) ?_
    refine mw_top (x' := nI 1) rfl ?_
    refine lv_goto (tgt := 12) hx hb d_Co_placeOf_8 (by decide) ?_
    refine lv_istore_n (lv' := [(2, .int (nI 1)), (0, .int (nI p0)), (1, .int (nI (rk_m f)))]) hx hb d_Co_placeOf_12 rfl hl (by decide) rfl (fun ls hl => ?_)
    refine lv_iload_n hx hb d_Co_placeOf_13 rfl (lv_at hl 0 rfl) ?_
    refine lv_if_eq (tgt := 28) hx hb d_Co_placeOf_14 (by decide) (fun c_14 => ?_) (fun c_14 => ?_)
    · exact absurd c_14 (by decide)
    · have hb34 : ∀ x : Nat, x < 32768 → (p0 / 32 ||| p0 % 32) < 2 ^ 32 := fun x h => Nat.lt_trans (Nat.or_lt_two_pow (n := 15) (by omega) (by omega)) (by decide)
      refine lv_iload_n hx hb d_Co_placeOf_17 rfl (lv_at hl 1 rfl) ?_
      refine lv_iconst (v := 5) hx hb d_Co_placeOf_18 (by decide) ?_
      refine lv_ishr hx hb d_Co_placeOf_19 ?_
      refine mw_top (x' := nI (p0 / 32)) (rk_shr5 (by omega)) ?_
      refine lv_iload_n hx hb d_Co_placeOf_20 rfl (lv_at hl 1 rfl) ?_
      refine lv_bipush (v := 31) hx hb d_Co_placeOf_21 (by decide) ?_
      refine lv_iand hx hb d_Co_placeOf_23 ?_
      refine mw_top (x' := nI (p0 % 32)) (rk_and31 (by omega)) ?_
      refine lv_ior hx hb d_Co_placeOf_24 ?_
      refine mw_top (x' := nI (p0 / 32 ||| p0 % 32)) (nx_or _ _) ?_
      refine lv_goto (tgt := 29) hx hb d_Co_placeOf_25 (by decide) ?_
      refine lv_istore_n (lv' := [(3, .int (nI (p0 / 32 ||| p0 % 32))), (2, .int (nI 1)), (0, .int (nI p0)), (1, .int (nI (rk_m f)))]) hx hb d_Co_placeOf_29 rfl hl (by decide) rfl (fun ls hl => ?_)
      refine lv_iload_n hx hb d_Co_placeOf_30 rfl (lv_at hl 0 rfl) ?_
      refine lv_sipush (v := 1023) hx hb d_Co_placeOf_31 (by decide) ?_
      refine lv_iand hx hb d_Co_placeOf_34 ?_
      refine mw_top (x' := nI (rk_place (f 0) p0)) (by unfold rk_place; rw [hf]; exact pk_andN (hb34 _ (by omega)) 10 (by decide)) ?_
      exact mw_iret J hr hlk hP hS d_Co_placeOf_35 (⟨rfl, rfl⟩)

set_option maxHeartbeats 4000000 in
set_option maxRecDepth 100000 in
theorem c_Co_take (l : Launch) (D : va_G) (cI cZ cP cR cC : ClassId) (tS : Nat) (sz : Nat) (M : mw_M) (ac : Nat → Nat) (hj : mw_inj ac 4) (src K : Nat) (cw : Nat → va_E) (n : Nat) (pr tm pl : Nat → Nat) (hc : k_co cI ac src K cw n pr tm pl) (f : Nat → Bool) (S : List Nat) (w : Nat → Nat) (hfi : rk_fi f n pr tm pl S) (hps : rk_ps f S) (hw : ∀ j, j < 3 → w j < 32) (hS3 : S.length < 300) (hpb : ∀ q, pl q ≤ 300) :
    Met l y_Co_take (.code y_Co_take b_Co_take 5 none :: gw) ({ frames := 0, cells := 0, slots := 0, locals := 0 }) (va_Pc [.ref (ac 0), .int (nI (rk_v f w)), .int (nI (rk_place (f 0) (rk_v f w))), .int (nI (rk_m f))] (mw_B D k_cl (k_tys cI cZ cP cR cC) (k_g tS) (mw_ov M ac cw 4) sz)) (va_Qv (fun (M1 : mw_M) => ∃ cw1 n1 pr1 tm1 pl1, M1 = mw_ov M ac cw1 4 ∧ k_co cI ac src K cw1 n1 pr1 tm1 pl1 ∧ rk_fi f n1 pr1 tm1 pl1 (S ++ [rk_v f w]) ∧ ∀ q, pl1 q ≤ 300) (mw_E D k_cl (mw_ov M ac cw 4) sz) (mw_A (mw_ov M ac cw 4) sz)) 0 0 (mw_A (mw_ov M ac cw 4) sz) := by
  refine mw_met (by decide) rfl (Nat.le_of_ble_eq_true rfl) ?_
  intro p e s m below meth c hsz J hr hlk hnm hK hZ hP hS hA ls hl
  subst hsz
  have hx := J.1
  have hb := J.2.1
  have hts := J.2.2.2.2
  have hl : lv_has ls 5 [(0, .ref (ac 0)), (1, .int (nI (rk_v f w))), (2, .int (nI (rk_place (f 0) (rk_v f w)))), (3, .int (nI (rk_m f)))] := hl
  obtain ⟨hc0, hc1, hc2, hc3⟩ := hc
  have hn3 := rk_fi_ge hfi
  have hml := rk_m_lt f
  have hql := rk_place_lt (f 0) (rk_v f w)
  have hqb := hpb (rk_place (f 0) (rk_v f w))
  refine lv_iload_n hx hb d_Co_take_0 rfl (lv_at hl 3 rfl) ?_
  refine lv_sipush (v := 32767) hx hb d_Co_take_1 (by decide) ?_
  refine mw_top (x' := nI 32767) rfl ?_
  refine lv_icmp_ne (tgt := 11) hx hb d_Co_take_4 (by decide) (fun c_4 => ?_) (fun c_4 => ?_)
  · have c_4 : ¬ ((rk_m f) = 32767) := fun z => c_4 ((nI_eq (by omega) (by omega)).mpr z)
    refine lv_aload_n hx hb d_Co_take_11 rfl (lv_at hl 0 rfl) ?_
    refine mw_get (v := .ref (ac 3)) (ci := 4) (C := R_Co) (T := T_Co) (N := 6) J i_Co hK hP (mw_ov_is (i := 0) hj (by decide) hc0) rfl 2 (by decide) (hts _ k_108) (fun _ h9 => h9) rfl d_Co_take_12 ?_
    refine lv_iload_n hx hb d_Co_take_15 rfl (lv_at hl 2 rfl) ?_
    refine mw_nald (k := (rk_place (f 0) (rk_v f w))) J hK hP 0 (mw_ov_is (i := 3) hj (by decide) hc3) rfl hql (by decide) d_Co_take_16 ?_
    refine lv_istore (lv' := [(4, .int (nI (pl (rk_place (f 0) (rk_v f w))))), (0, .ref (ac 0)), (1, .int (nI (rk_v f w))), (2, .int (nI (rk_place (f 0) (rk_v f w)))), (3, .int (nI (rk_m f)))]) hx hb d_Co_take_17 hl (by decide) rfl (fun ls hl => ?_)
    refine lv_iload hx hb d_Co_take_19 (lv_at hl 0 rfl) ?_
    refine lv_if_le (tgt := 49) hx hb d_Co_take_21 (by decide) (fun c_21 => ?_) (fun c_21 => ?_)
    · have hx0 : (f 0 = false ∨ f 1 = false ∨ f 2 = false) → pl (rk_place (f 0) (rk_v f w)) = 0 := fun _ => Classical.byContradiction fun z => absurd c_21 (nI_nle (by omega) (by omega))
      refine lv_aload_n hx hb d_Co_take_49 rfl (lv_at hl 1 rfl) ?_
      refine mw_get (v := .int (nI n)) (ci := 4) (C := R_Co) (T := T_Co) (N := 6) J i_Co hK hP (mw_ov_is (i := 0) hj (by decide) hc0) rfl 5 (by decide) (hts _ k_113) (fun _ h9 => h9) rfl d_Co_take_50 ?_
      refine lv_sipush (v := 300) hx hb d_Co_take_53 (by decide) ?_
      refine mw_top (x' := nI 300) rfl ?_
      refine lv_icmp_ge (tgt := 99) hx hb d_Co_take_56 (by decide) (fun c_56 => ?_) (fun c_56 => ?_)
      · have c_56 : 300 ≤ n := (nI_leI (by omega) (by omega)).mp c_56
        exact absurd c_56 (by omega)
      · have c_56 : ¬ (300 ≤ n) := fun z => c_56 ((nI_leI (by omega) (by omega)).mpr z)
        refine lv_aload_n hx hb d_Co_take_59 rfl (lv_at hl 1 rfl) ?_
        refine mw_get (v := .ref (ac 1)) (ci := 4) (C := R_Co) (T := T_Co) (N := 6) J i_Co hK hP (mw_ov_is (i := 0) hj (by decide) hc0) rfl 0 (by decide) (hts _ k_104) (fun _ h9 => h9) rfl d_Co_take_60 ?_
        refine lv_aload_n hx hb d_Co_take_63 rfl (lv_at hl 1 rfl) ?_
        refine mw_get (v := .int (nI n)) (ci := 4) (C := R_Co) (T := T_Co) (N := 6) J i_Co hK hP (mw_ov_is (i := 0) hj (by decide) hc0) rfl 5 (by decide) (hts _ k_113) (fun _ h9 => h9) rfl d_Co_take_64 ?_
        refine lv_iload_n hx hb d_Co_take_67 rfl (lv_at hl 2 rfl) ?_
        refine mw_nast (k := n) (x := (rk_v f w)) J hK hP hS 0 (mw_ov_is (i := 1) hj (by decide) hc1) rfl (by omega) (by decide) d_Co_take_68 (fun H locs hP hS => ?_)
        rw [mw_ov_set hj (by decide)] at hP
        have hP : mw_P D k_cl (mw_ov M ac (va_up cw 1 (.inl (cI, 300, .inl (rk_nf (va_up pr n (rk_v f w)))))) 4) _ H := hP
        refine lv_aload_n hx hb d_Co_take_69 rfl (lv_at hl 1 rfl) ?_
        refine mw_get (v := .ref (ac 2)) (ci := 4) (C := R_Co) (T := T_Co) (N := 6) J i_Co hK hP (mw_ov_is (i := 0) hj (by decide) hc0) rfl 1 (by decide) (hts _ k_106) (fun _ h9 => h9) rfl d_Co_take_70 ?_
        refine lv_aload_n hx hb d_Co_take_73 rfl (lv_at hl 1 rfl) ?_
        refine mw_get (v := .int (nI n)) (ci := 4) (C := R_Co) (T := T_Co) (N := 6) J i_Co hK hP (mw_ov_is (i := 0) hj (by decide) hc0) rfl 5 (by decide) (hts _ k_113) (fun _ h9 => h9) rfl d_Co_take_74 ?_
        refine lv_iconst (v := 1) hx hb d_Co_take_77 (by decide) ?_
        refine mw_top (x' := nI 1) rfl ?_
        refine mw_nast (k := n) (x := 1) J hK hP hS 0 (mw_ov_is (i := 2) hj (by decide) hc2) rfl (by omega) (by decide) d_Co_take_78 (fun H locs hP hS => ?_)
        rw [mw_ov_set hj (by decide)] at hP
        have hP : mw_P D k_cl (mw_ov M ac (va_up (va_up cw 1 (.inl (cI, 300, .inl (rk_nf (va_up pr n (rk_v f w)))))) 2 (.inl (cI, 300, .inl (rk_nf (va_up tm n 1))))) 4) _ H := hP
        refine lv_aload_n hx hb d_Co_take_79 rfl (lv_at hl 1 rfl) ?_
        refine lv_dup hx hb d_Co_take_80 rfl ?_
        refine mw_get (v := .int (nI n)) (ci := 4) (C := R_Co) (T := T_Co) (N := 6) J i_Co hK hP (mw_ov_is (i := 0) hj (by decide) hc0) rfl 5 (by decide) (hts _ k_113) (fun _ h9 => h9) rfl d_Co_take_81 ?_
        refine lv_iconst (v := 1) hx hb d_Co_take_84 (by decide) ?_
        refine lv_iadd hx hb d_Co_take_85 ?_
        refine mw_top (x' := nI (n + 1)) (nI_1 _) ?_
        refine mw_put (v := .int (nI (n + 1))) (ty := .int) (ci := 4) (C := R_Co) (T := T_Co) (N := 6) J i_Co t_Co o_Co n_Co hK hP hS (mw_ov_is (i := 0) hj (by decide) hc0) rfl 5 (by decide) (hts _ k_113) (fun _ h9 => h9) rfl rfl rfl rfl (Nat.le_of_ble_eq_true rfl) d_Co_take_86 (fun H locs hP hS => ?_)
        rw [mw_ov_set hj (by decide)] at hP
        have hP : mw_P D k_cl (mw_ov M ac (va_up (va_up (va_up cw 1 (.inl (cI, 300, .inl (rk_nf (va_up pr n (rk_v f w)))))) 2 (.inl (cI, 300, .inl (rk_nf (va_up tm n 1))))) 0 (.inr (4, [.ref (ac 1), .ref (ac 2), .ref (ac 3), .ref src, .int (nI K), .int (nI (n + 1))]))) 4) _ H := hP
        refine lv_aload_n hx hb d_Co_take_89 rfl (lv_at hl 1 rfl) ?_
        refine mw_get (v := .ref (ac 3)) (ci := 4) (C := R_Co) (T := T_Co) (N := 6) J i_Co hK hP (mw_ov_is (i := 0) hj (by decide) rfl) rfl 2 (by decide) (hts _ k_108) (fun _ h9 => h9) rfl d_Co_take_90 ?_
        refine lv_iload_n hx hb d_Co_take_93 rfl (lv_at hl 3 rfl) ?_
        refine lv_aload_n hx hb d_Co_take_94 rfl (lv_at hl 1 rfl) ?_
        refine mw_get (v := .int (nI (n + 1))) (ci := 4) (C := R_Co) (T := T_Co) (N := 6) J i_Co hK hP (mw_ov_is (i := 0) hj (by decide) rfl) rfl 5 (by decide) (hts _ k_113) (fun _ h9 => h9) rfl d_Co_take_95 ?_
        refine mw_nast (k := (rk_place (f 0) (rk_v f w))) (x := (n + 1)) J hK hP hS 0 (mw_ov_is (i := 3) hj (by decide) hc3) rfl hql (by decide) d_Co_take_98 (fun H locs hP hS => ?_)
        rw [mw_ov_set hj (by decide)] at hP
        have hP : mw_P D k_cl (mw_ov M ac (va_up (va_up (va_up (va_up cw 1 (.inl (cI, 300, .inl (rk_nf (va_up pr n (rk_v f w)))))) 2 (.inl (cI, 300, .inl (rk_nf (va_up tm n 1))))) 0 (.inr (4, [.ref (ac 1), .ref (ac 2), .ref (ac 3), .ref src, .int (nI K), .int (nI (n + 1))]))) 3 (.inl (cI, 1024, .inl (rk_nf (va_up pl (rk_place (f 0) (rk_v f w)) (n + 1)))))) 4) _ H := hP
        exact mw_vret J hr hlk hP hS d_Co_take_99 (⟨_, n + 1, _, _, _, rfl, ⟨rfl, rfl, rfl, rfl⟩, rk_fi_add hfi _ hx0, fun q => by unfold va_up; split; omega; exact hpb q⟩)
    · have hq0 : pl (rk_place (f 0) (rk_v f w)) ≠ 0 := fun z => c_21 (by rw [z]; decide)
      obtain ⟨j, hj1, hj2, hj3⟩ := rk_fi_known hfi hps hw (Classical.byContradiction fun z => c_4 ((rk_all_iff f).mpr z)) hq0
      refine lv_iload hx hb d_Co_take_24 (lv_at hl 0 rfl) ?_
      refine lv_aload_n hx hb d_Co_take_26 rfl (lv_at hl 1 rfl) ?_
      refine mw_get (v := .int (nI n)) (ci := 4) (C := R_Co) (T := T_Co) (N := 6) J i_Co hK hP (mw_ov_is (i := 0) hj (by decide) hc0) rfl 5 (by decide) (hts _ k_113) (fun _ h9 => h9) rfl d_Co_take_27 ?_
      refine lv_icmp_gt (tgt := 49) hx hb d_Co_take_30 (by decide) (fun c_30 => ?_) (fun c_30 => ?_)
      · have c_30 : n < (pl (rk_place (f 0) (rk_v f w))) := (nI_ltI (by omega) (by omega)).mp c_30
        exact absurd c_30 (by omega)
      · have c_30 : ¬ (n < (pl (rk_place (f 0) (rk_v f w)))) := fun z => c_30 ((nI_ltI (by omega) (by omega)).mpr z)
        refine lv_aload_n hx hb d_Co_take_33 rfl (lv_at hl 1 rfl) ?_
        refine mw_get (v := .ref (ac 2)) (ci := 4) (C := R_Co) (T := T_Co) (N := 6) J i_Co hK hP (mw_ov_is (i := 0) hj (by decide) hc0) rfl 1 (by decide) (hts _ k_106) (fun _ h9 => h9) rfl d_Co_take_34 ?_
        refine lv_iload hx hb d_Co_take_37 (lv_at hl 0 rfl) ?_
        refine lv_iconst (v := 1) hx hb d_Co_take_39 (by decide) ?_
        refine mw_top (x' := nI 1) rfl ?_
        refine lv_isub hx hb d_Co_take_40 ?_
        refine mw_top (x' := nI (pl (rk_place (f 0) (rk_v f w)) - 1)) (pk_sub (by omega)) ?_
        refine lv_dup2_11 hx hb d_Co_take_41 rfl rfl ?_
        refine mw_nald (k := (pl (rk_place (f 0) (rk_v f w)) - 1)) J hK hP 0 (mw_ov_is (i := 2) hj (by decide) hc2) rfl (by omega) (by decide) d_Co_take_42 ?_
        refine lv_iconst (v := 1) hx hb d_Co_take_43 (by decide) ?_
        refine lv_iadd hx hb d_Co_take_44 ?_
        refine mw_top (x' := nI (tm (pl (rk_place (f 0) (rk_v f w)) - 1) + 1)) (nI_1 _) ?_
        refine mw_nast (k := (pl (rk_place (f 0) (rk_v f w)) - 1)) (x := (tm (pl (rk_place (f 0) (rk_v f w)) - 1) + 1)) J hK hP hS 0 (mw_ov_is (i := 2) hj (by decide) hc2) rfl (by omega) (by decide) d_Co_take_45 (fun H locs hP hS => ?_)
        rw [mw_ov_set hj (by decide)] at hP
        have hP : mw_P D k_cl (mw_ov M ac (va_up cw 2 (.inl (cI, 300, .inl (rk_nf (va_up tm (pl (rk_place (f 0) (rk_v f w)) - 1) (tm (pl (rk_place (f 0) (rk_v f w)) - 1) + 1)))))) 4) _ H := hP
        refine lv_goto (tgt := 99) hx hb d_Co_take_46 (by decide) ?_
        exact mw_vret J hr hlk hP hS d_Co_take_99 (⟨_, n, pr, _, pl, rfl, ⟨hc0, hc1, rfl, hc3⟩, by rw [show pl (rk_place (f 0) (rk_v f w)) - 1 = j by omega, ← hj3]; exact rk_fi_more hfi hj1, hpb⟩)
  · have c_4 : (rk_m f) = 32767 := (nI_eq (by omega) (by omega)).mp c_4
    refine lv_iconst (v := 0) hx hb d_Co_take_7 (by decide) ?_
    refine mw_top (x' := nI 0) nI_0.symm ?_
    refine lv_goto (tgt := 17) hx hb d_Co_take_8 (by decide) ?_
    refine lv_istore (lv' := [(4, .int (nI 0)), (0, .ref (ac 0)), (1, .int (nI (rk_v f w))), (2, .int (nI (rk_place (f 0) (rk_v f w)))), (3, .int (nI (rk_m f)))]) hx hb d_Co_take_17 hl (by decide) rfl (fun ls hl => ?_)
    refine lv_iload hx hb d_Co_take_19 (lv_at hl 0 rfl) ?_
    refine lv_if_le (tgt := 49) hx hb d_Co_take_21 (by decide) (fun c_21 => ?_) (fun c_21 => ?_)
    · have hx0 : (f 0 = false ∨ f 1 = false ∨ f 2 = false) → pl (rk_place (f 0) (rk_v f w)) = 0 := fun z => absurd z ((rk_all_iff f).mp c_4)
      refine lv_aload_n hx hb d_Co_take_49 rfl (lv_at hl 1 rfl) ?_
      refine mw_get (v := .int (nI n)) (ci := 4) (C := R_Co) (T := T_Co) (N := 6) J i_Co hK hP (mw_ov_is (i := 0) hj (by decide) hc0) rfl 5 (by decide) (hts _ k_113) (fun _ h9 => h9) rfl d_Co_take_50 ?_
      refine lv_sipush (v := 300) hx hb d_Co_take_53 (by decide) ?_
      refine mw_top (x' := nI 300) rfl ?_
      refine lv_icmp_ge (tgt := 99) hx hb d_Co_take_56 (by decide) (fun c_56 => ?_) (fun c_56 => ?_)
      · have c_56 : 300 ≤ n := (nI_leI (by omega) (by omega)).mp c_56
        exact absurd c_56 (by omega)
      · have c_56 : ¬ (300 ≤ n) := fun z => c_56 ((nI_leI (by omega) (by omega)).mpr z)
        refine lv_aload_n hx hb d_Co_take_59 rfl (lv_at hl 1 rfl) ?_
        refine mw_get (v := .ref (ac 1)) (ci := 4) (C := R_Co) (T := T_Co) (N := 6) J i_Co hK hP (mw_ov_is (i := 0) hj (by decide) hc0) rfl 0 (by decide) (hts _ k_104) (fun _ h9 => h9) rfl d_Co_take_60 ?_
        refine lv_aload_n hx hb d_Co_take_63 rfl (lv_at hl 1 rfl) ?_
        refine mw_get (v := .int (nI n)) (ci := 4) (C := R_Co) (T := T_Co) (N := 6) J i_Co hK hP (mw_ov_is (i := 0) hj (by decide) hc0) rfl 5 (by decide) (hts _ k_113) (fun _ h9 => h9) rfl d_Co_take_64 ?_
        refine lv_iload_n hx hb d_Co_take_67 rfl (lv_at hl 2 rfl) ?_
        refine mw_nast (k := n) (x := (rk_v f w)) J hK hP hS 0 (mw_ov_is (i := 1) hj (by decide) hc1) rfl (by omega) (by decide) d_Co_take_68 (fun H locs hP hS => ?_)
        rw [mw_ov_set hj (by decide)] at hP
        have hP : mw_P D k_cl (mw_ov M ac (va_up cw 1 (.inl (cI, 300, .inl (rk_nf (va_up pr n (rk_v f w)))))) 4) _ H := hP
        refine lv_aload_n hx hb d_Co_take_69 rfl (lv_at hl 1 rfl) ?_
        refine mw_get (v := .ref (ac 2)) (ci := 4) (C := R_Co) (T := T_Co) (N := 6) J i_Co hK hP (mw_ov_is (i := 0) hj (by decide) hc0) rfl 1 (by decide) (hts _ k_106) (fun _ h9 => h9) rfl d_Co_take_70 ?_
        refine lv_aload_n hx hb d_Co_take_73 rfl (lv_at hl 1 rfl) ?_
        refine mw_get (v := .int (nI n)) (ci := 4) (C := R_Co) (T := T_Co) (N := 6) J i_Co hK hP (mw_ov_is (i := 0) hj (by decide) hc0) rfl 5 (by decide) (hts _ k_113) (fun _ h9 => h9) rfl d_Co_take_74 ?_
        refine lv_iconst (v := 1) hx hb d_Co_take_77 (by decide) ?_
        refine mw_top (x' := nI 1) rfl ?_
        refine mw_nast (k := n) (x := 1) J hK hP hS 0 (mw_ov_is (i := 2) hj (by decide) hc2) rfl (by omega) (by decide) d_Co_take_78 (fun H locs hP hS => ?_)
        rw [mw_ov_set hj (by decide)] at hP
        have hP : mw_P D k_cl (mw_ov M ac (va_up (va_up cw 1 (.inl (cI, 300, .inl (rk_nf (va_up pr n (rk_v f w)))))) 2 (.inl (cI, 300, .inl (rk_nf (va_up tm n 1))))) 4) _ H := hP
        refine lv_aload_n hx hb d_Co_take_79 rfl (lv_at hl 1 rfl) ?_
        refine lv_dup hx hb d_Co_take_80 rfl ?_
        refine mw_get (v := .int (nI n)) (ci := 4) (C := R_Co) (T := T_Co) (N := 6) J i_Co hK hP (mw_ov_is (i := 0) hj (by decide) hc0) rfl 5 (by decide) (hts _ k_113) (fun _ h9 => h9) rfl d_Co_take_81 ?_
        refine lv_iconst (v := 1) hx hb d_Co_take_84 (by decide) ?_
        refine lv_iadd hx hb d_Co_take_85 ?_
        refine mw_top (x' := nI (n + 1)) (nI_1 _) ?_
        refine mw_put (v := .int (nI (n + 1))) (ty := .int) (ci := 4) (C := R_Co) (T := T_Co) (N := 6) J i_Co t_Co o_Co n_Co hK hP hS (mw_ov_is (i := 0) hj (by decide) hc0) rfl 5 (by decide) (hts _ k_113) (fun _ h9 => h9) rfl rfl rfl rfl (Nat.le_of_ble_eq_true rfl) d_Co_take_86 (fun H locs hP hS => ?_)
        rw [mw_ov_set hj (by decide)] at hP
        have hP : mw_P D k_cl (mw_ov M ac (va_up (va_up (va_up cw 1 (.inl (cI, 300, .inl (rk_nf (va_up pr n (rk_v f w)))))) 2 (.inl (cI, 300, .inl (rk_nf (va_up tm n 1))))) 0 (.inr (4, [.ref (ac 1), .ref (ac 2), .ref (ac 3), .ref src, .int (nI K), .int (nI (n + 1))]))) 4) _ H := hP
        refine lv_aload_n hx hb d_Co_take_89 rfl (lv_at hl 1 rfl) ?_
        refine mw_get (v := .ref (ac 3)) (ci := 4) (C := R_Co) (T := T_Co) (N := 6) J i_Co hK hP (mw_ov_is (i := 0) hj (by decide) rfl) rfl 2 (by decide) (hts _ k_108) (fun _ h9 => h9) rfl d_Co_take_90 ?_
        refine lv_iload_n hx hb d_Co_take_93 rfl (lv_at hl 3 rfl) ?_
        refine lv_aload_n hx hb d_Co_take_94 rfl (lv_at hl 1 rfl) ?_
        refine mw_get (v := .int (nI (n + 1))) (ci := 4) (C := R_Co) (T := T_Co) (N := 6) J i_Co hK hP (mw_ov_is (i := 0) hj (by decide) rfl) rfl 5 (by decide) (hts _ k_113) (fun _ h9 => h9) rfl d_Co_take_95 ?_
        refine mw_nast (k := (rk_place (f 0) (rk_v f w))) (x := (n + 1)) J hK hP hS 0 (mw_ov_is (i := 3) hj (by decide) hc3) rfl hql (by decide) d_Co_take_98 (fun H locs hP hS => ?_)
        rw [mw_ov_set hj (by decide)] at hP
        have hP : mw_P D k_cl (mw_ov M ac (va_up (va_up (va_up (va_up cw 1 (.inl (cI, 300, .inl (rk_nf (va_up pr n (rk_v f w)))))) 2 (.inl (cI, 300, .inl (rk_nf (va_up tm n 1))))) 0 (.inr (4, [.ref (ac 1), .ref (ac 2), .ref (ac 3), .ref src, .int (nI K), .int (nI (n + 1))]))) 3 (.inl (cI, 1024, .inl (rk_nf (va_up pl (rk_place (f 0) (rk_v f w)) (n + 1)))))) 4) _ H := hP
        exact mw_vret J hr hlk hP hS d_Co_take_99 (⟨_, n + 1, _, _, _, rfl, ⟨rfl, rfl, rfl, rfl⟩, rk_fi_add hfi _ hx0, fun q => by unfold va_up; split; omega; exact hpb q⟩)
    · exact absurd (by decide) c_21
end
section
/-! which codes a column takes, in terms of masks; the parts in their order -/
theorem rk_num_ink (P : rk_Pt) (B : Nat → Bool) (j : Nat) : (rk_num P j && rk_ink P B j) = false := by
  unfold rk_num rk_ink
  by_cases h : rk_at P j < 32
  · simp [h]
    intro z
    omega
  · simp [h]
def rk_wt (P : rk_Pt) (u : Nat → Nat) (j : Nat) : Nat := if rk_num P j then rk_at P j else u (rk_at P j - 32)
theorem rk_wt_lt {P : rk_Pt} {u : Nat → Nat} (hu : rk_okV u) (j : Nat) : rk_wt P u j < 32 := by
  unfold rk_wt rk_num
  by_cases h : rk_at P j < 32
  · simp [h]
  · simp [h]
    exact hu _
theorem rk_num_wt (P : rk_Pt) (u : Nat → Nat) : rk_v (rk_num P) (rk_at P) = rk_v (rk_num P) (rk_wt P u) := by
  unfold rk_v rk_wt
  cases g0 : rk_num P 0 <;> cases g1 : rk_num P 1 <;> cases g2 : rk_num P 2 <;> simp [g0, g1, g2]
theorem rk_want {P : rk_Pt} {B : Nat → Bool} {u : Nat → Nat} (hu : rk_okV u) : rk_v (rk_num P) (rk_at P) ||| rk_v (rk_ink P B) (fun j => u (rk_at P j - 32)) = rk_v (fun j => rk_num P j || rk_ink P B j) (rk_wt P u) := by
  rw [rk_num_wt P u, rk_v_or (fun j _ => rk_wt_lt hu j) (fun j _ => hu _) (fun j _ => rk_num_ink P B j)]
  congr 1
  funext j
  unfold rk_wt
  cases rk_num P j <;> rfl
theorem rk_mt_sel {P : rk_Pt} {B : Nat → Bool} {u : Nat → Nat} {k : Nat} (hk : k < 32768) (hu : rk_okV u) : rk_mt P B u k ↔ k &&& rk_m (fun j => rk_num P j || rk_ink P B j) = rk_v (fun j => rk_num P j || rk_ink P B j) (rk_wt P u) ∧ rk_agP P k := by
  rw [rk_sel hk (fun j _ => rk_wt_lt hu j)]
  constructor
  · rintro ⟨h1, h2, h3⟩
    refine ⟨fun j hj h => ?_, h3⟩
    unfold rk_wt
    by_cases hn : rk_at P j < 32
    · rw [if_pos (by simp [rk_num, hn])]
      exact h1 j hj hn
    · rw [if_neg (by simp [rk_num, hn])]
      have hi : rk_ink P B j = true := by simpa [rk_num, hn] using h
      exact h2 j hj (by omega) (rk_ink_spec hi).2
  · rintro ⟨h1, h3⟩
    refine ⟨fun j hj hn => ?_, fun j hj hn hB => ?_, h3⟩
    · have := h1 j hj (by simp [rk_num, hn])
      rw [this]
      unfold rk_wt
      rw [if_pos (by simp [rk_num, hn])]
    · have := h1 j hj (by simp [rk_ink, hn, hB])
      rw [this]
      unfold rk_wt
      rw [if_neg (by simp [rk_num, hn])]
theorem rk_part_mask {P : rk_Pt} {K : Nat → Bool} {k : Nat} (hk : k < 32768) : k &&& rk_m (rk_ink P K) = rk_part P K k := rk_mask _ hk
noncomputable def rk_seq (P : rk_Pt) (B : Nat → Bool) (u : Nat → Nat) (K : Nat → Bool) (L : List Nat) : List Nat := L.flatMap (fun k => @ite _ (rk_mt P B u k) (Classical.propDecidable _) [rk_part P K k] [])
theorem rk_seq_nil (P : rk_Pt) (B : Nat → Bool) (u : Nat → Nat) (K : Nat → Bool) : rk_seq P B u K [] = [] := rfl
theorem rk_seq_yes {P : rk_Pt} {B : Nat → Bool} {u : Nat → Nat} {K : Nat → Bool} {L : List Nat} {k : Nat} (h : rk_mt P B u k) : rk_seq P B u K (L ++ [k]) = rk_seq P B u K L ++ [rk_part P K k] := by
  unfold rk_seq
  rw [List.flatMap_append]
  congr 1
  rw [List.flatMap_cons, if_pos h]
  rfl
theorem rk_seq_no {P : rk_Pt} {B : Nat → Bool} {u : Nat → Nat} {K : Nat → Bool} {L : List Nat} {k : Nat} (h : ¬ rk_mt P B u k) : rk_seq P B u K (L ++ [k]) = rk_seq P B u K L := by
  unfold rk_seq
  rw [List.flatMap_append, List.flatMap_cons, if_neg h]
  simp
theorem rk_seq_cons {P : rk_Pt} {B : Nat → Bool} {u : Nat → Nat} {K : Nat → Bool} {L : List Nat} {k : Nat} : rk_seq P B u K (k :: L) = @ite _ (rk_mt P B u k) (Classical.propDecidable _) [rk_part P K k] [] ++ rk_seq P B u K L := by
  unfold rk_seq
  rw [List.flatMap_cons]
theorem rk_seq_sum {P : rk_Pt} {B : Nat → Bool} {u : Nat → Nat} {K : Nat → Bool} (g : Nat → Nat) : ∀ L : List Nat, rk_sum (rk_seq P B u K L) g = rk_sum L (fun k => rk_if (rk_mt P B u k) (g (rk_part P K k)))
  | [] => rfl
  | k :: L => by
    rw [rk_seq_cons, rk_sum_app, rk_seq_sum g L, rk_sum_cons]
    congr 1
    by_cases h : rk_mt P B u k
    · rw [if_pos h, rk_if_t h]
      simp [rk_sum]
    · rw [if_neg h, rk_if_f h]
      rfl
theorem rk_seq_len {P : rk_Pt} {B : Nat → Bool} {u : Nat → Nat} {K : Nat → Bool} : ∀ L : List Nat, (rk_seq P B u K L).length ≤ L.length
  | [] => Nat.le_refl 0
  | k :: L => by
    rw [rk_seq_cons, List.length_append, List.length_cons]
    have := rk_seq_len (P := P) (B := B) (u := u) (K := K) L
    by_cases h : rk_mt P B u k
    · rw [if_pos h]
      simp
      omega
    · rw [if_neg h]
      simp
      omega
theorem rk_seq_ps {P : rk_Pt} {B : Nat → Bool} {u : Nat → Nat} {K : Nat → Bool} : ∀ L : List Nat, rk_ps (rk_ink P K) (rk_seq P B u K L)
  | [] => fun x hx => absurd hx List.not_mem_nil
  | k :: L => by
    intro x hx
    rw [rk_seq_cons, List.mem_append] at hx
    rcases hx with z | z
    · by_cases h : rk_mt P B u k
      · rw [if_pos h, List.mem_singleton] at z
        exact ⟨rk_dg k, fun j _ => rk_dg_lt k j, z⟩
      · rw [if_neg h] at z
        exact absurd z List.not_mem_nil
    · exact rk_seq_ps L x z
theorem rk_wipe {f : Nat → Bool} {n i : Nat} {pr pl : Nat → Nat} (hi : i < n) (h : ∀ q, pl q = 0 ∨ ∃ j, i ≤ j ∧ j < n ∧ q = rk_place (f 0) (pr j)) : ∀ q, va_up pl (rk_place (f 0) (pr i)) 0 q = 0 ∨ ∃ j, i + 1 ≤ j ∧ j < n ∧ q = rk_place (f 0) (pr j) := by
  intro q
  by_cases e : q = rk_place (f 0) (pr i)
  · rw [e, va_up_self]
    exact Or.inl rfl
  · rw [va_up_ne _ _ e]
    rcases h q with z | ⟨j, h1, h2, h3⟩
    · exact Or.inl z
    · refine Or.inr ⟨j, ?_, h2, h3⟩
      rcases Nat.lt_or_ge i j with y | y
      · exact y
      · have : i = j := by omega
        subst this
        exact absurd h3 e
end
section
/-! Column.fill -/
set_option maxHeartbeats 4000000 in
set_option maxRecDepth 100000 in
theorem c_Co_fill (l : Launch) (D : va_G) (cI cZ cP cR cC : ClassId) (tS : Nat) (sz : Nat) (M : mw_M) (ac : Nat → Nat) (hj : mw_inj ac 4) (src K : Nat) (cw : Nat → va_E) (n : Nat) (pr tm pl : Nat → Nat) (hc : k_co cI ac src K cw n pr tm pl) (P : rk_Pt) (hpat : ∀ c, k_pat cI (mw_ov M ac c 4) src P) (tr co pm v : Nat) (L : List Nat) (fc u : Nat → Nat) (htr : ∀ c, mw_ov M ac c 4 tr = some (.inr (1, [.ref co, .ref pm, .int (nI L.length)]))) (hco : ∀ c, mw_ov M ac c 4 co = some (.inl (cI, 300, .inl (rk_nf fc)))) (hv : ∀ c, mw_ov M ac c 4 v = some (.inl (cI, 8, .inl (rk_nf u)))) (hu : rk_okV u) (hfc : ∀ i, i < L.length → fc i = L.getD i 0) (hL3 : L.length ≤ 300) (hlt : ∀ k, k ∈ L → k < 32768) (len Bd : Nat) (hlen : len ≤ L.length) (hBd : Bd < 256) (hK0 : K < 256) (hpl0 : ∀ q, pl q = 0) :
    Met l y_Co_fill (.code y_Co_fill b_Co_fill 10 none :: gw) ({ frames := 1, cells := 0, slots := 0, locals := 24 }) (va_Pc [.ref (ac 0), .ref tr, .int (nI len), .int (nI Bd), .ref v] (mw_B D k_cl (k_tys cI cZ cP cR cC) (k_g tS) (mw_ov M ac cw 4) sz)) (va_Qv (fun (M1 : mw_M) => ∃ cw1 n1 pr1 tm1 pl1, M1 = mw_ov M ac cw1 4 ∧ k_co cI ac src K cw1 n1 pr1 tm1 pl1 ∧ (∀ q, pl1 q = 0) ∧ n1 ≤ 300 ∧ (∀ i, i < n1 → 0 < tm1 i ∧ pr1 i < 32768) ∧ ∀ g : Nat → Nat, rk_sum (List.range n1) (fun j => tm1 j * g (pr1 j)) = rk_sum (L.take len) (fun k => rk_if (rk_mt P (rk_tb Bd) u k) (g (rk_part P (rk_tb K) k)))) (mw_E D k_cl (mw_ov M ac cw 4) sz) (mw_A (mw_ov M ac cw 4) sz)) 0 0 (mw_A (mw_ov M ac cw 4) sz) := by
  refine mw_met (by decide) rfl (Nat.le_of_ble_eq_true rfl) ?_
  intro p e s m below meth c hsz J hr hlk hnm hK hZ hP hS hA ls hl
  subst hsz
  have hx := J.1
  have hb := J.2.1
  have hts := J.2.2.2.2
  have hl : lv_has ls 10 [(0, .ref (ac 0)), (1, .ref tr), (2, .int (nI len)), (3, .int (nI Bd)), (4, .ref v)] := hl
  obtain ⟨hc0, hc1, hc2, hc3⟩ := hc
  have hK8 := hK0
  obtain ⟨hok, b, q, fb, fq, hs1, -⟩ := hpat cw
  have srcp : ∀ c, ∃ b q, mw_ov M ac c 4 src = some (.inr (2, k_pf P b q)) := fun c => by
    obtain ⟨-, b, q, _, _, h, -⟩ := hpat c
    exact ⟨b, q, h⟩
  refine lv_aload_n hx hb d_Co_fill_0 rfl (lv_at hl 0 rfl) ?_
  refine mw_get (v := .ref src) (ci := 4) (C := R_Co) (T := T_Co) (N := 6) J i_Co hK hP (mw_ov_is (i := 0) hj (by decide) hc0) rfl 3 (by decide) (hts _ k_109) (fun _ h9 => h9) rfl d_Co_fill_1 ?_
  refine mw_get (v := .int (nI (rk_m (rk_num P)))) (ci := 2) (C := R_Pt) (T := T_Pt) (N := 8) J i_Pt hK hP hs1 rfl 3 (by decide) (hts _ k_79) (fun _ h9 => h9) rfl d_Co_fill_4 ?_
  refine lv_aload_n hx hb d_Co_fill_7 rfl (lv_at hl 0 rfl) ?_
  refine mw_get (v := .ref src) (ci := 4) (C := R_Co) (T := T_Co) (N := 6) J i_Co hK hP (mw_ov_is (i := 0) hj (by decide) hc0) rfl 3 (by decide) (hts _ k_109) (fun _ h9 => h9) rfl d_Co_fill_8 ?_
  refine lv_iload_n hx hb d_Co_fill_11 rfl (lv_at hl 3 rfl) ?_
  refine mw_afterI hP hS hA (mw_runV (As := [.int (nI Bd)]) (rest := [.int (nI (rk_m (rk_num P)))]) J hK hZ hP hS hA hs1 rfl (c_Pt_maskOf l D cI cZ cP cR cC tS _ (mw_ov M ac cw 4) src P (hpat cw) Bd hBd) (cwV 1 hts (mw_gV k_268 k_252 k_253 k_6 k_254) rfl rfl rfl (by decide +kernel) ⟨Nat.le_of_ble_eq_true rfl, Nat.le_of_ble_eq_true rfl⟩) rfl hl.1 rfl (Nat.le_of_ble_eq_true rfl) d_Co_fill_12 ⟨Nat.le_of_ble_eq_true rfl, Nat.le_of_ble_eq_true rfl⟩) (fun r M1 H locs hw hP hS => ?_)
  obtain ⟨rfl, rfl⟩ := hw
  refine lv_ior hx hb d_Co_fill_15 ?_
  refine mw_top (x' := nI (rk_m (fun j => rk_num P j || rk_ink P (rk_tb Bd) j))) (by rw [nx_or, rk_m_or]) ?_
  refine lv_istore (lv' := [(5, .int (nI (rk_m (fun j => rk_num P j || rk_ink P (rk_tb Bd) j)))), (0, .ref (ac 0)), (1, .ref tr), (2, .int (nI len)), (3, .int (nI Bd)), (4, .ref v)]) hx hb d_Co_fill_16 hl (by decide) rfl (fun ls hl => ?_)
  refine lv_aload_n hx hb d_Co_fill_18 rfl (lv_at hl 1 rfl) ?_
  refine mw_get (v := .ref src) (ci := 4) (C := R_Co) (T := T_Co) (N := 6) J i_Co hK hP (mw_ov_is (i := 0) hj (by decide) hc0) rfl 3 (by decide) (hts _ k_109) (fun _ h9 => h9) rfl d_Co_fill_19 ?_
  refine mw_get (v := .int (nI (rk_v (rk_num P) (rk_at P)))) (ci := 2) (C := R_Pt) (T := T_Pt) (N := 8) J i_Pt hK hP hs1 rfl 4 (by decide) (hts _ k_82) (fun _ h9 => h9) rfl d_Co_fill_22 ?_
  refine lv_aload_n hx hb d_Co_fill_25 rfl (lv_at hl 1 rfl) ?_
  refine mw_get (v := .ref src) (ci := 4) (C := R_Co) (T := T_Co) (N := 6) J i_Co hK hP (mw_ov_is (i := 0) hj (by decide) hc0) rfl 3 (by decide) (hts _ k_109) (fun _ h9 => h9) rfl d_Co_fill_26 ?_
  refine lv_iload_n hx hb d_Co_fill_29 rfl (lv_at hl 4 rfl) ?_
  refine lv_aload hx hb d_Co_fill_30 (lv_at hl 5 rfl) ?_
  refine mw_afterI hP hS hA (mw_runV (As := [.int (nI Bd), .ref v]) (rest := [.int (nI (rk_v (rk_num P) (rk_at P)))]) J hK hZ hP hS hA hs1 rfl (c_Pt_filled l D cI cZ cP cR cC tS _ (mw_ov M ac cw 4) src P (hpat cw) Bd hBd v u hu (hv cw)) (cwV 2 hts (mw_gV k_269 k_256 k_257 k_6 k_258) rfl rfl rfl (by decide +kernel) ⟨Nat.le_of_ble_eq_true rfl, Nat.le_of_ble_eq_true rfl⟩) rfl hl.1 rfl (Nat.le_of_ble_eq_true rfl) d_Co_fill_32 ⟨Nat.le_of_ble_eq_true rfl, Nat.le_of_ble_eq_true rfl⟩) (fun r M1 H locs hw hP hS => ?_)
  obtain ⟨rfl, rfl⟩ := hw
  refine lv_ior hx hb d_Co_fill_35 ?_
  refine mw_top (x' := nI (rk_v (fun j => rk_num P j || rk_ink P (rk_tb Bd) j) (rk_wt P u))) (by rw [nx_or, rk_want hu]) ?_
  refine lv_istore (lv' := [(6, .int (nI (rk_v (fun j => rk_num P j || rk_ink P (rk_tb Bd) j) (rk_wt P u)))), (5, .int (nI (rk_m (fun j => rk_num P j || rk_ink P (rk_tb Bd) j)))), (0, .ref (ac 0)), (1, .ref tr), (2, .int (nI len)), (3, .int (nI Bd)), (4, .ref v)]) hx hb d_Co_fill_36 hl (by decide) rfl (fun ls hl => ?_)
  refine lv_aload_n hx hb d_Co_fill_38 rfl (lv_at hl 2 rfl) ?_
  refine mw_get (v := .ref src) (ci := 4) (C := R_Co) (T := T_Co) (N := 6) J i_Co hK hP (mw_ov_is (i := 0) hj (by decide) hc0) rfl 3 (by decide) (hts _ k_109) (fun _ h9 => h9) rfl d_Co_fill_39 ?_
  refine lv_aload_n hx hb d_Co_fill_42 rfl (lv_at hl 2 rfl) ?_
  refine mw_get (v := .int (nI K)) (ci := 4) (C := R_Co) (T := T_Co) (N := 6) J i_Co hK hP (mw_ov_is (i := 0) hj (by decide) hc0) rfl 4 (by decide) (hts _ k_111) (fun _ h9 => h9) rfl d_Co_fill_43 ?_
  refine mw_afterI hP hS hA (mw_runV (As := [.int (nI K)]) (rest := []) J hK hZ hP hS hA hs1 rfl (c_Pt_maskOf l D cI cZ cP cR cC tS _ (mw_ov M ac cw 4) src P (hpat cw) K hK8) (cwV 1 hts (mw_gV k_268 k_252 k_253 k_6 k_254) rfl rfl rfl (by decide +kernel) ⟨Nat.le_of_ble_eq_true rfl, Nat.le_of_ble_eq_true rfl⟩) rfl hl.1 rfl (Nat.le_of_ble_eq_true rfl) d_Co_fill_46 ⟨Nat.le_of_ble_eq_true rfl, Nat.le_of_ble_eq_true rfl⟩) (fun r M1 H locs hw hP hS => ?_)
  obtain ⟨rfl, rfl⟩ := hw
  refine lv_istore (lv' := [(7, .int (nI (rk_m (rk_ink P (rk_tb K))))), (6, .int (nI (rk_v (fun j => rk_num P j || rk_ink P (rk_tb Bd) j) (rk_wt P u)))), (5, .int (nI (rk_m (fun j => rk_num P j || rk_ink P (rk_tb Bd) j)))), (0, .ref (ac 0)), (1, .ref tr), (2, .int (nI len)), (3, .int (nI Bd)), (4, .ref v)]) hx hb d_Co_fill_49 hl (by decide) rfl (fun ls hl => ?_)
  refine lv_aload_n hx hb d_Co_fill_51 rfl (lv_at hl 3 rfl) ?_
  refine lv_iconst (v := 0) hx hb d_Co_fill_52 (by decide) ?_
  refine mw_top (x' := nI 0) nI_0.symm ?_
  refine mw_put (v := .int (nI 0)) (ty := .int) (ci := 4) (C := R_Co) (T := T_Co) (N := 6) J i_Co t_Co o_Co n_Co hK hP hS (mw_ov_is (i := 0) hj (by decide) hc0) rfl 5 (by decide) (hts _ k_113) (fun _ h9 => h9) rfl rfl rfl rfl (Nat.le_of_ble_eq_true rfl) d_Co_fill_53 (fun H locs hP hS => ?_)
  rw [mw_ov_set hj (by decide)] at hP
  have hP : mw_P D k_cl (mw_ov M ac (va_up cw 0 (.inr (4, [.ref (ac 1), .ref (ac 2), .ref (ac 3), .ref src, .int (nI K), .int (nI 0)]))) 4) _ H := hP
  refine lv_iconst (v := 0) hx hb d_Co_fill_56 (by decide) ?_
  refine mw_top (x' := nI 0) nI_0.symm ?_
  refine lv_istore (lv' := [(8, .int (nI 0)), (7, .int (nI (rk_m (rk_ink P (rk_tb K))))), (6, .int (nI (rk_v (fun j => rk_num P j || rk_ink P (rk_tb Bd) j) (rk_wt P u)))), (5, .int (nI (rk_m (fun j => rk_num P j || rk_ink P (rk_tb Bd) j)))), (0, .ref (ac 0)), (1, .ref tr), (2, .int (nI len)), (3, .int (nI Bd)), (4, .ref v)]) hx hb d_Co_fill_57 hl (by decide) rfl (fun ls hl => ?_)
  refine mw_loop (W' := fun H locs ls => W p l e _ s m _ below meth c H locs _ _ _ (F0 m 59 ls [])) len (fun i H locs ls => ∃ (cx : Nat → va_E), ∃ (n1 : Nat), ∃ (pr1 : Nat → Nat), ∃ (tm1 : Nat → Nat), ∃ (pl1 : Nat → Nat), lv_has ls 10 [(0, .ref (ac 0)), (1, .ref tr), (2, .int (nI len)), (3, .int (nI Bd)), (4, .ref v), (5, .int (nI (rk_m (fun j => rk_num P j || rk_ink P (rk_tb Bd) j)))), (6, .int (nI (rk_v (fun j => rk_num P j || rk_ink P (rk_tb Bd) j) (rk_wt P u)))), (7, .int (nI (rk_m (rk_ink P (rk_tb K))))), (8, .int (nI i))] ∧ (k_co cI ac src K cx n1 pr1 tm1 pl1) ∧ (rk_fi (rk_ink P (rk_tb K)) n1 pr1 tm1 pl1 (rk_seq P (rk_tb Bd) u (rk_tb K) (L.take i))) ∧ (∀ q, pl1 q ≤ 300) ∧ mw_P D k_cl (mw_ov M ac cx 4) (mw_A (mw_ov M ac cw 4) s.heap.size) H ∧ va_S (mw_A (mw_ov M ac cw 4) s.heap.size) s.heap H locs) ?_ len 0 (by omega) (by omega) _ _ _ ⟨(va_up cw 0 (.inr (4, [.ref (ac 1), .ref (ac 2), .ref (ac 3), .ref src, .int (nI K), .int (nI 0)]))), 0, pr, tm, pl, lv_sub hl [4, 5, 6, 7, 8, 3, 2, 1, 0] rfl, ⟨rfl, hc1, hc2, hc3⟩, (rk_fi_0 hpl0), (fun q => by rw [hpl0 q]; exact Nat.zero_le _), hP, hS⟩
  intro i H locs ls hi_59 hI ih_59
  obtain ⟨cx, n1, pr1, tm1, pl1, hl, hcx, hfi, hpb, hP, hS⟩ := hI
  obtain ⟨hx0, hx1, hx2, hx3⟩ := id hcx
  have hn3 := rk_fi_ge hfi
  have hsl := rk_seq_len (P := P) (B := rk_tb Bd) (u := u) (K := rk_tb K) (L.take i)
  rw [List.length_take] at hsl
  refine lv_iload hx hb d_Co_fill_59 (lv_at hl 8 rfl) ?_
  refine lv_iload_n hx hb d_Co_fill_61 rfl (lv_at hl 2 rfl) ?_
  refine lv_icmp_ge (tgt := 132) hx hb d_Co_fill_62 (by decide) (fun c_62 => ?_) (fun c_62 => ?_)
  · have c_62 : len ≤ i := (nI_leI (by omega) (by omega)).mp c_62
    have hie : i = len := by omega
    rw [hie] at hfi
    have hprl : ∀ j, j < n1 → pr1 j < 32768 := fun j hj => by
      obtain ⟨w0, hw0, e0⟩ := rk_seq_ps _ _ (hfi.2.2.1 j hj).2
      rw [e0]
      exact rk_v_lt hw0
    refine lv_iconst (v := 0) hx hb d_Co_fill_132 (by decide) ?_
    refine mw_top (x' := nI 0) nI_0.symm ?_
    refine lv_istore (lv' := [(8, .int (nI 0)), (0, .ref (ac 0)), (1, .ref tr), (2, .int (nI len)), (3, .int (nI Bd)), (4, .ref v), (5, .int (nI (rk_m (fun j => rk_num P j || rk_ink P (rk_tb Bd) j)))), (6, .int (nI (rk_v (fun j => rk_num P j || rk_ink P (rk_tb Bd) j) (rk_wt P u)))), (7, .int (nI (rk_m (rk_ink P (rk_tb K)))))]) hx hb d_Co_fill_133 hl (by decide) rfl (fun ls hl => ?_)
    refine mw_loop (W' := fun H locs ls => W p l e _ s m _ below meth c H locs _ _ _ (F0 m 135 ls [])) n1 (fun i2 H locs ls => ∃ (cy : Nat → va_E), ∃ (pl3 : Nat → Nat), lv_has ls 10 [(0, .ref (ac 0)), (1, .ref tr), (2, .int (nI len)), (3, .int (nI Bd)), (4, .ref v), (5, .int (nI (rk_m (fun j => rk_num P j || rk_ink P (rk_tb Bd) j)))), (6, .int (nI (rk_v (fun j => rk_num P j || rk_ink P (rk_tb Bd) j) (rk_wt P u)))), (7, .int (nI (rk_m (rk_ink P (rk_tb K))))), (8, .int (nI i2))] ∧ (k_co cI ac src K cy n1 pr1 tm1 pl3) ∧ (∀ q, pl3 q = 0 ∨ ∃ j, i2 ≤ j ∧ j < n1 ∧ q = rk_place ((rk_ink P (rk_tb K)) 0) (pr1 j)) ∧ mw_P D k_cl (mw_ov M ac cy 4) (mw_A (mw_ov M ac cw 4) s.heap.size) H ∧ va_S (mw_A (mw_ov M ac cw 4) s.heap.size) s.heap H locs) ?_ n1 0 (by omega) (by omega) _ _ _ ⟨cx, pl1, lv_sub hl [1, 2, 3, 4, 5, 6, 7, 8, 0] rfl, hcx, (fun q => (hfi.2.2.2.1 q).imp id (fun ⟨j, h1, h2⟩ => ⟨j, Nat.zero_le _, h1, h2⟩)), hP, hS⟩
    intro i2 H locs ls hi_135 hI ih_135
    obtain ⟨cy, pl3, hl, hcy, hwp, hP, hS⟩ := hI
    obtain ⟨hx0, hx1, hx2, hx3⟩ := id hcy
    refine lv_iload hx hb d_Co_fill_135 (lv_at hl 8 rfl) ?_
    refine lv_aload_n hx hb d_Co_fill_137 rfl (lv_at hl 0 rfl) ?_
    refine mw_get (v := .int (nI n1)) (ci := 4) (C := R_Co) (T := T_Co) (N := 6) J i_Co hK hP (mw_ov_is (i := 0) hj (by decide) hx0) rfl 5 (by decide) (hts _ k_113) (fun _ h9 => h9) rfl d_Co_fill_138 ?_
    refine lv_icmp_ge (tgt := 168) hx hb d_Co_fill_141 (by decide) (fun c_141 => ?_) (fun c_141 => ?_)
    · have c_141 : n1 ≤ i2 := (nI_leI (by omega) (by omega)).mp c_141
      exact mw_vret J hr hlk hP hS d_Co_fill_168 (⟨cy, n1, pr1, tm1, pl3, rfl, hcy, fun q => (hwp q).elim id (fun ⟨j, h1, h2, _⟩ => by omega), by omega, fun j hj => ⟨(hfi.2.2.1 j hj).1, hprl j hj⟩, fun g => by rw [hfi.2.1 g, rk_seq_sum]⟩)
    · have c_141 : ¬ (n1 ≤ i2) := fun z => c_141 ((nI_leI (by omega) (by omega)).mpr z)
      refine lv_aload_n hx hb d_Co_fill_144 rfl (lv_at hl 0 rfl) ?_
      refine mw_get (v := .ref (ac 3)) (ci := 4) (C := R_Co) (T := T_Co) (N := 6) J i_Co hK hP (mw_ov_is (i := 0) hj (by decide) hx0) rfl 2 (by decide) (hts _ k_108) (fun _ h9 => h9) rfl d_Co_fill_145 ?_
      refine lv_aload_n hx hb d_Co_fill_148 rfl (lv_at hl 0 rfl) ?_
      refine mw_get (v := .ref (ac 1)) (ci := 4) (C := R_Co) (T := T_Co) (N := 6) J i_Co hK hP (mw_ov_is (i := 0) hj (by decide) hx0) rfl 0 (by decide) (hts _ k_104) (fun _ h9 => h9) rfl d_Co_fill_149 ?_
      refine lv_iload hx hb d_Co_fill_152 (lv_at hl 8 rfl) ?_
      refine mw_nald (k := i2) J hK hP 0 (mw_ov_is (i := 1) hj (by decide) hx1) rfl (by omega) (by decide) d_Co_fill_154 ?_
      refine lv_iload hx hb d_Co_fill_155 (lv_at hl 7 rfl) ?_
      refine mw_afterI hP hS hA (mw_runS (As := [.int (nI (pr1 i2)), .int (nI (rk_m (rk_ink P (rk_tb K))))]) (rest := [.ref (ac 3)]) J hK hZ hP hS hA (c_Co_placeOf l D cI cZ cP cR cC tS _ (mw_ov M ac cy 4) (rk_ink P (rk_tb K)) (pr1 i2) (hprl i2 (by omega))) (cwS 2 hts (mw_gS k_271 k_272 k_5 k_273) rfl rfl rfl (by decide +kernel) ⟨Nat.le_of_ble_eq_true rfl, Nat.le_of_ble_eq_true rfl⟩) rfl hl.1 rfl (Nat.le_of_ble_eq_true rfl) d_Co_fill_157 ⟨Nat.le_of_ble_eq_true rfl, Nat.le_of_ble_eq_true rfl⟩) (fun r M1 H locs hw hP hS => ?_)
      obtain ⟨rfl, rfl⟩ := hw
      refine lv_iconst (v := 0) hx hb d_Co_fill_160 (by decide) ?_
      refine mw_top (x' := nI 0) nI_0.symm ?_
      refine mw_nast (k := (rk_place ((rk_ink P (rk_tb K)) 0) (pr1 i2))) (x := 0) J hK hP hS 0 (mw_ov_is (i := 3) hj (by decide) hx3) rfl (rk_place_lt _ _) (by decide) d_Co_fill_161 (fun H locs hP hS => ?_)
      rw [mw_ov_set hj (by decide)] at hP
      have hP : mw_P D k_cl (mw_ov M ac (va_up cy 3 (.inl (cI, 1024, .inl (rk_nf (va_up pl3 (rk_place ((rk_ink P (rk_tb K)) 0) (pr1 i2)) 0))))) 4) _ H := hP
      refine lv_iinc (v := nI (i2 + 1)) (lv' := [(8, .int (nI (i2 + 1))), (0, .ref (ac 0)), (1, .ref tr), (2, .int (nI len)), (3, .int (nI Bd)), (4, .ref v), (5, .int (nI (rk_m (fun j => rk_num P j || rk_ink P (rk_tb Bd) j)))), (6, .int (nI (rk_v (fun j => rk_num P j || rk_ink P (rk_tb Bd) j) (rk_wt P u)))), (7, .int (nI (rk_m (rk_ink P (rk_tb K)))))]) hx hb d_Co_fill_162 hl (k := 8) rfl (nI_1 i2) (by decide) rfl (fun ls hl => ?_)
      refine lv_goto (tgt := 135) hx hb d_Co_fill_165 (by decide) ?_
      exact ih_135 _ _ _ (by omega) ⟨(va_up cy 3 (.inl (cI, 1024, .inl (rk_nf (va_up pl3 (rk_place ((rk_ink P (rk_tb K)) 0) (pr1 i2)) 0))))), (va_up pl3 (rk_place ((rk_ink P (rk_tb K)) 0) (pr1 i2)) 0), lv_sub hl [1, 2, 3, 4, 5, 6, 7, 8, 0] rfl, ⟨hx0, hx1, hx2, rfl⟩, (rk_wipe (by omega) hwp), hP, hS⟩
  · have c_62 : ¬ (len ≤ i) := fun z => c_62 ((nI_leI (by omega) (by omega)).mpr z)
    refine lv_iload hx hb d_Co_fill_65 (lv_at hl 8 rfl) ?_
    refine lv_aload_n hx hb d_Co_fill_67 rfl (lv_at hl 1 rfl) ?_
    refine mw_get (v := .int (nI L.length)) (ci := 1) (C := R_Tr) (T := T_Tr) (N := 3) J i_Tr hK hP (htr _) rfl 2 (by decide) (hts _ k_47) (fun _ h9 => h9) rfl d_Co_fill_68 ?_
    refine lv_icmp_ge (tgt := 132) hx hb d_Co_fill_71 (by decide) (fun c_71 => ?_) (fun c_71 => ?_)
    · have c_71 : L.length ≤ i := (nI_leI (by omega) (by omega)).mp c_71
      have hie : i = len := by omega
      rw [hie] at hfi
      have hprl : ∀ j, j < n1 → pr1 j < 32768 := fun j hj => by
        obtain ⟨w0, hw0, e0⟩ := rk_seq_ps _ _ (hfi.2.2.1 j hj).2
        rw [e0]
        exact rk_v_lt hw0
      refine lv_iconst (v := 0) hx hb d_Co_fill_132 (by decide) ?_
      refine mw_top (x' := nI 0) nI_0.symm ?_
      refine lv_istore (lv' := [(8, .int (nI 0)), (0, .ref (ac 0)), (1, .ref tr), (2, .int (nI len)), (3, .int (nI Bd)), (4, .ref v), (5, .int (nI (rk_m (fun j => rk_num P j || rk_ink P (rk_tb Bd) j)))), (6, .int (nI (rk_v (fun j => rk_num P j || rk_ink P (rk_tb Bd) j) (rk_wt P u)))), (7, .int (nI (rk_m (rk_ink P (rk_tb K)))))]) hx hb d_Co_fill_133 hl (by decide) rfl (fun ls hl => ?_)
      refine mw_loop (W' := fun H locs ls => W p l e _ s m _ below meth c H locs _ _ _ (F0 m 135 ls [])) n1 (fun i2 H locs ls => ∃ (cy : Nat → va_E), ∃ (pl3 : Nat → Nat), lv_has ls 10 [(0, .ref (ac 0)), (1, .ref tr), (2, .int (nI len)), (3, .int (nI Bd)), (4, .ref v), (5, .int (nI (rk_m (fun j => rk_num P j || rk_ink P (rk_tb Bd) j)))), (6, .int (nI (rk_v (fun j => rk_num P j || rk_ink P (rk_tb Bd) j) (rk_wt P u)))), (7, .int (nI (rk_m (rk_ink P (rk_tb K))))), (8, .int (nI i2))] ∧ (k_co cI ac src K cy n1 pr1 tm1 pl3) ∧ (∀ q, pl3 q = 0 ∨ ∃ j, i2 ≤ j ∧ j < n1 ∧ q = rk_place ((rk_ink P (rk_tb K)) 0) (pr1 j)) ∧ mw_P D k_cl (mw_ov M ac cy 4) (mw_A (mw_ov M ac cw 4) s.heap.size) H ∧ va_S (mw_A (mw_ov M ac cw 4) s.heap.size) s.heap H locs) ?_ n1 0 (by omega) (by omega) _ _ _ ⟨cx, pl1, lv_sub hl [1, 2, 3, 4, 5, 6, 7, 8, 0] rfl, hcx, (fun q => (hfi.2.2.2.1 q).imp id (fun ⟨j, h1, h2⟩ => ⟨j, Nat.zero_le _, h1, h2⟩)), hP, hS⟩
      intro i2 H locs ls hi_135 hI ih_135
      obtain ⟨cy, pl3, hl, hcy, hwp, hP, hS⟩ := hI
      obtain ⟨hx0, hx1, hx2, hx3⟩ := id hcy
      refine lv_iload hx hb d_Co_fill_135 (lv_at hl 8 rfl) ?_
      refine lv_aload_n hx hb d_Co_fill_137 rfl (lv_at hl 0 rfl) ?_
      refine mw_get (v := .int (nI n1)) (ci := 4) (C := R_Co) (T := T_Co) (N := 6) J i_Co hK hP (mw_ov_is (i := 0) hj (by decide) hx0) rfl 5 (by decide) (hts _ k_113) (fun _ h9 => h9) rfl d_Co_fill_138 ?_
      refine lv_icmp_ge (tgt := 168) hx hb d_Co_fill_141 (by decide) (fun c_141 => ?_) (fun c_141 => ?_)
      · have c_141 : n1 ≤ i2 := (nI_leI (by omega) (by omega)).mp c_141
        exact mw_vret J hr hlk hP hS d_Co_fill_168 (⟨cy, n1, pr1, tm1, pl3, rfl, hcy, fun q => (hwp q).elim id (fun ⟨j, h1, h2, _⟩ => by omega), by omega, fun j hj => ⟨(hfi.2.2.1 j hj).1, hprl j hj⟩, fun g => by rw [hfi.2.1 g, rk_seq_sum]⟩)
      · have c_141 : ¬ (n1 ≤ i2) := fun z => c_141 ((nI_leI (by omega) (by omega)).mpr z)
        refine lv_aload_n hx hb d_Co_fill_144 rfl (lv_at hl 0 rfl) ?_
        refine mw_get (v := .ref (ac 3)) (ci := 4) (C := R_Co) (T := T_Co) (N := 6) J i_Co hK hP (mw_ov_is (i := 0) hj (by decide) hx0) rfl 2 (by decide) (hts _ k_108) (fun _ h9 => h9) rfl d_Co_fill_145 ?_
        refine lv_aload_n hx hb d_Co_fill_148 rfl (lv_at hl 0 rfl) ?_
        refine mw_get (v := .ref (ac 1)) (ci := 4) (C := R_Co) (T := T_Co) (N := 6) J i_Co hK hP (mw_ov_is (i := 0) hj (by decide) hx0) rfl 0 (by decide) (hts _ k_104) (fun _ h9 => h9) rfl d_Co_fill_149 ?_
        refine lv_iload hx hb d_Co_fill_152 (lv_at hl 8 rfl) ?_
        refine mw_nald (k := i2) J hK hP 0 (mw_ov_is (i := 1) hj (by decide) hx1) rfl (by omega) (by decide) d_Co_fill_154 ?_
        refine lv_iload hx hb d_Co_fill_155 (lv_at hl 7 rfl) ?_
        refine mw_afterI hP hS hA (mw_runS (As := [.int (nI (pr1 i2)), .int (nI (rk_m (rk_ink P (rk_tb K))))]) (rest := [.ref (ac 3)]) J hK hZ hP hS hA (c_Co_placeOf l D cI cZ cP cR cC tS _ (mw_ov M ac cy 4) (rk_ink P (rk_tb K)) (pr1 i2) (hprl i2 (by omega))) (cwS 2 hts (mw_gS k_271 k_272 k_5 k_273) rfl rfl rfl (by decide +kernel) ⟨Nat.le_of_ble_eq_true rfl, Nat.le_of_ble_eq_true rfl⟩) rfl hl.1 rfl (Nat.le_of_ble_eq_true rfl) d_Co_fill_157 ⟨Nat.le_of_ble_eq_true rfl, Nat.le_of_ble_eq_true rfl⟩) (fun r M1 H locs hw hP hS => ?_)
        obtain ⟨rfl, rfl⟩ := hw
        refine lv_iconst (v := 0) hx hb d_Co_fill_160 (by decide) ?_
        refine mw_top (x' := nI 0) nI_0.symm ?_
        refine mw_nast (k := (rk_place ((rk_ink P (rk_tb K)) 0) (pr1 i2))) (x := 0) J hK hP hS 0 (mw_ov_is (i := 3) hj (by decide) hx3) rfl (rk_place_lt _ _) (by decide) d_Co_fill_161 (fun H locs hP hS => ?_)
        rw [mw_ov_set hj (by decide)] at hP
        have hP : mw_P D k_cl (mw_ov M ac (va_up cy 3 (.inl (cI, 1024, .inl (rk_nf (va_up pl3 (rk_place ((rk_ink P (rk_tb K)) 0) (pr1 i2)) 0))))) 4) _ H := hP
        refine lv_iinc (v := nI (i2 + 1)) (lv' := [(8, .int (nI (i2 + 1))), (0, .ref (ac 0)), (1, .ref tr), (2, .int (nI len)), (3, .int (nI Bd)), (4, .ref v), (5, .int (nI (rk_m (fun j => rk_num P j || rk_ink P (rk_tb Bd) j)))), (6, .int (nI (rk_v (fun j => rk_num P j || rk_ink P (rk_tb Bd) j) (rk_wt P u)))), (7, .int (nI (rk_m (rk_ink P (rk_tb K)))))]) hx hb d_Co_fill_162 hl (k := 8) rfl (nI_1 i2) (by decide) rfl (fun ls hl => ?_)
        refine lv_goto (tgt := 135) hx hb d_Co_fill_165 (by decide) ?_
        exact ih_135 _ _ _ (by omega) ⟨(va_up cy 3 (.inl (cI, 1024, .inl (rk_nf (va_up pl3 (rk_place ((rk_ink P (rk_tb K)) 0) (pr1 i2)) 0))))), (va_up pl3 (rk_place ((rk_ink P (rk_tb K)) 0) (pr1 i2)) 0), lv_sub hl [1, 2, 3, 4, 5, 6, 7, 8, 0] rfl, ⟨hx0, hx1, hx2, rfl⟩, (rk_wipe (by omega) hwp), hP, hS⟩
    · have c_71 : ¬ (L.length ≤ i) := fun z => c_71 ((nI_leI (by omega) (by omega)).mpr z)
      have hkc : L.getD i 0 < 32768 := hlt _ (rk_getD_mem (by omega))
      refine lv_aload_n hx hb d_Co_fill_74 rfl (lv_at hl 1 rfl) ?_
      refine mw_get (v := .ref co) (ci := 1) (C := R_Tr) (T := T_Tr) (N := 3) J i_Tr hK hP (htr _) rfl 0 (by decide) (hts _ k_43) (fun _ h9 => h9) rfl d_Co_fill_75 ?_
      refine lv_iload hx hb d_Co_fill_78 (lv_at hl 8 rfl) ?_
      refine mw_nald (k := i) J hK hP 0 (hco _) rfl (by omega) (by decide) d_Co_fill_80 ?_
      refine mw_top (x' := nI (L.getD i 0)) (by rw [hfc i (by omega)]) ?_
      refine lv_istore (lv' := [(9, .int (nI (L.getD i 0))), (0, .ref (ac 0)), (1, .ref tr), (2, .int (nI len)), (3, .int (nI Bd)), (4, .ref v), (5, .int (nI (rk_m (fun j => rk_num P j || rk_ink P (rk_tb Bd) j)))), (6, .int (nI (rk_v (fun j => rk_num P j || rk_ink P (rk_tb Bd) j) (rk_wt P u)))), (7, .int (nI (rk_m (rk_ink P (rk_tb K))))), (8, .int (nI i))]) hx hb d_Co_fill_81 hl (by decide) rfl (fun ls hl => ?_)
      refine lv_iload hx hb d_Co_fill_83 (lv_at hl 0 rfl) ?_
      refine lv_iload hx hb d_Co_fill_85 (lv_at hl 6 rfl) ?_
      refine lv_iand hx hb d_Co_fill_87 ?_
      refine mw_top (x' := nI (L.getD i 0 &&& rk_m (fun j => rk_num P j || rk_ink P (rk_tb Bd) j))) (nx_and _ _) ?_
      refine lv_iload hx hb d_Co_fill_88 (lv_at hl 7 rfl) ?_
      refine lv_icmp_ne (tgt := 126) hx hb d_Co_fill_90 (by decide) (fun c_90 => ?_) (fun c_90 => ?_)
      · have c_90 : ¬ ((L.getD i 0 &&& rk_m (fun j => rk_num P j || rk_ink P (rk_tb Bd) j)) = (rk_v (fun j => rk_num P j || rk_ink P (rk_tb Bd) j) (rk_wt P u))) := fun z => c_90 ((nI_eq (Nat.lt_of_le_of_lt Nat.and_le_left (by omega)) (Nat.lt_trans (rk_v_lt (fun j _ => rk_wt_lt hu j)) (by decide))).mpr z)
        have hmt : ¬ rk_mt P (rk_tb Bd) u (L.getD i 0) := fun z => c_90 ((rk_mt_sel hkc hu).mp z).1
        refine lv_iinc (v := nI (i + 1)) (lv' := [(8, .int (nI (i + 1))), (9, .int (nI (L.getD i 0))), (0, .ref (ac 0)), (1, .ref tr), (2, .int (nI len)), (3, .int (nI Bd)), (4, .ref v), (5, .int (nI (rk_m (fun j => rk_num P j || rk_ink P (rk_tb Bd) j)))), (6, .int (nI (rk_v (fun j => rk_num P j || rk_ink P (rk_tb Bd) j) (rk_wt P u)))), (7, .int (nI (rk_m (rk_ink P (rk_tb K)))))]) hx hb d_Co_fill_126 hl (k := 9) rfl (nI_1 i) (by decide) rfl (fun ls hl => ?_)
        refine lv_goto (tgt := 59) hx hb d_Co_fill_129 (by decide) ?_
        exact ih_59 _ _ _ (by omega) ⟨cx, n1, pr1, tm1, pl1, lv_sub hl [2, 3, 4, 5, 6, 7, 8, 9, 0] rfl, hcx, (by rw [rk_take_succ (by omega), rk_seq_no hmt]; exact hfi), hpb, hP, hS⟩
      · have c_90 : (L.getD i 0 &&& rk_m (fun j => rk_num P j || rk_ink P (rk_tb Bd) j)) = (rk_v (fun j => rk_num P j || rk_ink P (rk_tb Bd) j) (rk_wt P u)) := (nI_eq (Nat.lt_of_le_of_lt Nat.and_le_left (by omega)) (Nat.lt_trans (rk_v_lt (fun j _ => rk_wt_lt hu j)) (by decide))).mp c_90
        refine lv_aload_n hx hb d_Co_fill_93 rfl (lv_at hl 1 rfl) ?_
        refine mw_get (v := .ref src) (ci := 4) (C := R_Co) (T := T_Co) (N := 6) J i_Co hK hP (mw_ov_is (i := 0) hj (by decide) hx0) rfl 3 (by decide) (hts _ k_109) (fun _ h9 => h9) rfl d_Co_fill_94 ?_
        refine lv_iload hx hb d_Co_fill_97 (lv_at hl 0 rfl) ?_
        refine mw_afterI hP hS hA (mw_runV (As := [.int (nI (L.getD i 0))]) (rest := []) J hK hZ hP hS hA (srcp _).choose_spec.choose_spec rfl (c_Pt_agrees l D cI cZ cP cR cC tS _ (mw_ov M ac cx 4) src P (hpat cx) (L.getD i 0) hkc) (cwV 1 hts (mw_gV k_270 k_240 k_241 k_6 k_242) rfl rfl rfl (by decide +kernel) ⟨Nat.le_of_ble_eq_true rfl, Nat.le_of_ble_eq_true rfl⟩) rfl hl.1 rfl (Nat.le_of_ble_eq_true rfl) d_Co_fill_99 ⟨Nat.le_of_ble_eq_true rfl, Nat.le_of_ble_eq_true rfl⟩) (fun r M1 H locs hw hP hS => ?_)
        obtain ⟨rfl, hw⟩ := hw
        refine lv_if_eq (tgt := 126) hx hb d_Co_fill_102 (by decide) (fun c_102 => ?_) (fun c_102 => ?_)
        · have hmt : ¬ rk_mt P (rk_tb Bd) u (L.getD i 0) := fun z => by
            rcases hw with ⟨h, _⟩ | ⟨_, h⟩
            · rw [h] at c_102
              exact absurd c_102 (by decide)
            · exact h ((rk_mt_sel hkc hu).mp z).2
          refine lv_iinc (v := nI (i + 1)) (lv' := [(8, .int (nI (i + 1))), (9, .int (nI (L.getD i 0))), (0, .ref (ac 0)), (1, .ref tr), (2, .int (nI len)), (3, .int (nI Bd)), (4, .ref v), (5, .int (nI (rk_m (fun j => rk_num P j || rk_ink P (rk_tb Bd) j)))), (6, .int (nI (rk_v (fun j => rk_num P j || rk_ink P (rk_tb Bd) j) (rk_wt P u)))), (7, .int (nI (rk_m (rk_ink P (rk_tb K)))))]) hx hb d_Co_fill_126 hl (k := 9) rfl (nI_1 i) (by decide) rfl (fun ls hl => ?_)
          refine lv_goto (tgt := 59) hx hb d_Co_fill_129 (by decide) ?_
          exact ih_59 _ _ _ (by omega) ⟨cx, n1, pr1, tm1, pl1, lv_sub hl [2, 3, 4, 5, 6, 7, 8, 9, 0] rfl, hcx, (by rw [rk_take_succ (by omega), rk_seq_no hmt]; exact hfi), hpb, hP, hS⟩
        · have hmt : rk_mt P (rk_tb Bd) u (L.getD i 0) := (rk_mt_sel hkc hu).mpr ⟨c_90, by
            rcases hw with ⟨_, h⟩ | ⟨h, _⟩
            · exact h
            · exact absurd h c_102⟩
          refine lv_aload_n hx hb d_Co_fill_105 rfl (lv_at hl 1 rfl) ?_
          refine lv_iload hx hb d_Co_fill_106 (lv_at hl 0 rfl) ?_
          refine lv_iload hx hb d_Co_fill_108 (lv_at hl 8 rfl) ?_
          refine lv_iand hx hb d_Co_fill_110 ?_
          refine mw_top (x' := nI (rk_part P (rk_tb K) (L.getD i 0))) (by rw [nx_and, rk_part_mask hkc]) ?_
          refine lv_iload hx hb d_Co_fill_111 (lv_at hl 0 rfl) ?_
          refine lv_iload hx hb d_Co_fill_113 (lv_at hl 8 rfl) ?_
          refine lv_iand hx hb d_Co_fill_115 ?_
          refine mw_top (x' := nI (rk_part P (rk_tb K) (L.getD i 0))) (by rw [nx_and, rk_part_mask hkc]) ?_
          refine lv_iload hx hb d_Co_fill_116 (lv_at hl 8 rfl) ?_
          refine mw_afterI hP hS hA (mw_runS (As := [.int (nI (rk_part P (rk_tb K) (L.getD i 0))), .int (nI (rk_m (rk_ink P (rk_tb K))))]) (rest := [.int (nI (rk_part P (rk_tb K) (L.getD i 0))), .ref (ac 0)]) J hK hZ hP hS hA (c_Co_placeOf l D cI cZ cP cR cC tS _ (mw_ov M ac cx 4) (rk_ink P (rk_tb K)) (rk_part P (rk_tb K) (L.getD i 0)) (rk_part_lt _ _ _)) (cwS 2 hts (mw_gS k_271 k_272 k_5 k_273) rfl rfl rfl (by decide +kernel) ⟨Nat.le_of_ble_eq_true rfl, Nat.le_of_ble_eq_true rfl⟩) rfl hl.1 rfl (Nat.le_of_ble_eq_true rfl) d_Co_fill_118 ⟨Nat.le_of_ble_eq_true rfl, Nat.le_of_ble_eq_true rfl⟩) (fun r M1 H locs hw hP hS => ?_)
          obtain ⟨rfl, rfl⟩ := hw
          refine lv_iload hx hb d_Co_fill_121 (lv_at hl 8 rfl) ?_
          refine mw_afterV hP hS hA (mw_runV (As := [.int (nI (rk_part P (rk_tb K) (L.getD i 0))), .int (nI (rk_place ((rk_ink P (rk_tb K)) 0) (rk_part P (rk_tb K) (L.getD i 0)))), .int (nI (rk_m (rk_ink P (rk_tb K))))]) (rest := []) J hK hZ hP hS hA (mw_ov_is (i := 0) hj (by decide) hx0) rfl (c_Co_take l D cI cZ cP cR cC tS _ M ac hj src K cx n1 pr1 tm1 pl1 hcx (rk_ink P (rk_tb K)) _ (rk_dg (L.getD i 0)) hfi (rk_seq_ps _) (fun j _ => rk_dg_lt _ j) (by omega) hpb) (cwV 3 hts (mw_gV k_274 k_276 s_Co_take k_5 k_277) rfl rfl rfl (by decide +kernel) ⟨Nat.le_of_ble_eq_true rfl, Nat.le_of_ble_eq_true rfl⟩) rfl hl.1 rfl (Nat.le_of_ble_eq_true rfl) d_Co_fill_123 ⟨Nat.le_of_ble_eq_true rfl, Nat.le_of_ble_eq_true rfl⟩) (fun M1 H locs hw hP hS => ?_)
          obtain ⟨cx2, n2, pr2, tm2, pl2, rfl, hc2x, hfi2, hpb2⟩ := hw
          refine lv_iinc (v := nI (i + 1)) (lv' := [(8, .int (nI (i + 1))), (9, .int (nI (L.getD i 0))), (0, .ref (ac 0)), (1, .ref tr), (2, .int (nI len)), (3, .int (nI Bd)), (4, .ref v), (5, .int (nI (rk_m (fun j => rk_num P j || rk_ink P (rk_tb Bd) j)))), (6, .int (nI (rk_v (fun j => rk_num P j || rk_ink P (rk_tb Bd) j) (rk_wt P u)))), (7, .int (nI (rk_m (rk_ink P (rk_tb K)))))]) hx hb d_Co_fill_126 hl (k := 9) rfl (nI_1 i) (by decide) rfl (fun ls hl => ?_)
          refine lv_goto (tgt := 59) hx hb d_Co_fill_129 (by decide) ?_
          exact ih_59 _ _ _ (by omega) ⟨cx2, n2, pr2, tm2, pl2, lv_sub hl [2, 3, 4, 5, 6, 7, 8, 9, 0] rfl, hc2x, (by rw [rk_take_succ (by omega), rk_seq_yes hmt]; exact hfi2), hpb2, hP, hS⟩
end
section
/-! rules and columns as they stand in cells; a part of an overlay -/
def k_rule (cI cP : ClassId) (M : mw_M) (a : Nat) (r : rk_Ru) : Prop :=
  r.1.length ≤ 3 ∧ ∃ (bo hd sh : Nat) (fo : Nat → Option Nat) (fs : Nat → Nat), M a = some (.inr (3, [.ref bo, .ref hd, .ref sh])) ∧ M bo = some (.inl (cP, r.1.length, .inr (.inr (.inr (.inr fo))))) ∧ M sh = some (.inl (cI, r.1.length, .inl (rk_nf fs))) ∧ k_pat cI M hd r.2 ∧ (∀ i, i < r.1.length → ∃ p, fo i = some p ∧ k_pat cI M p (rk_nth r i)) ∧ ∀ i, i < r.1.length → fs i = rk_shm r i
theorem k_rule_mono {cI cP : ClassId} {M M1 : mw_M} {a : Nat} {r : rk_Ru} (h : k_rule cI cP M a r) (hM : ∀ q e, M q = some e → M1 q = some e) : k_rule cI cP M1 a r := by
  obtain ⟨h0, bo, hd, sh, fo, fs, h1, h2, h3, h4, h5, h6⟩ := h
  refine ⟨h0, bo, hd, sh, fo, fs, hM _ _ h1, hM _ _ h2, hM _ _ h3, k_pat_mono h4 hM, fun i hi => ?_, h6⟩
  obtain ⟨p, e, hp⟩ := h5 i hi
  exact ⟨p, e, k_pat_mono hp hM⟩
theorem rk_shm_lt {r : rk_Ru} {i : Nat} (h : rk_okP (rk_nth r i)) : rk_shm r i < 256 := Nat.lt_of_le_of_lt Nat.and_le_left (rk_vars_lt h)
/-- what the overlay holds outside the frozen part -/
theorem k_fr {B : mw_M} {ad : Nat → Nat} (ho : k_ov B ad) (cw : Nat → va_E) : ∀ q e, B q = some e → mw_ov B ad cw 21 q = some e := fun _ _ h => mw_ov_fr ho.2 h
/-- four cells of the overlay from place o on, replaced -/
def rk_spl (cw : Nat → va_E) (o : Nat) (c1 : Nat → va_E) (i : Nat) : va_E := if o ≤ i ∧ i < o + 4 then c1 (i - o) else cw i
theorem rk_spl_in {cw c1 : Nat → va_E} {o i : Nat} (h : i < 4) : rk_spl cw o c1 (o + i) = c1 i := by
  unfold rk_spl
  rw [if_pos (by omega), Nat.add_sub_cancel_left]
theorem rk_spl_out {cw c1 : Nat → va_E} {o i : Nat} (h : i < o ∨ o + 4 ≤ i) : rk_spl cw o c1 i = cw i := by
  unfold rk_spl
  rw [if_neg (by omega)]
theorem k_inj4 {ad : Nat → Nat} (hj : mw_inj ad 21) {o : Nat} (ho : o + 4 ≤ 21) : mw_inj (fun i => ad (o + i)) 4 := by
  intro i j hi hj' e
  have := hj (o + i) (o + j) (by omega) (by omega) e
  omega
theorem mw_ov_sub {B : mw_M} {ad : Nat → Nat} {cw c1 : Nat → va_E} {o : Nat} (hj : mw_inj ad 21) (ho : o + 4 ≤ 21) : mw_ov (mw_ov B ad cw 21) (fun i => ad (o + i)) c1 4 = mw_ov B ad (rk_spl cw o c1) 21 := by
  funext q
  by_cases hq : ∃ i, i < 21 ∧ ad i = q
  · obtain ⟨i, hi, rfl⟩ := hq
    rw [mw_ov_at hj hi]
    by_cases h : o ≤ i ∧ i < o + 4
    · have e : ad i = (fun i => ad (o + i)) (i - o) := by
        show ad i = ad (o + (i - o))
        rw [show o + (i - o) = i by omega]
      rw [e, mw_ov_at (k_inj4 hj ho) (by omega)]
      unfold rk_spl
      rw [if_pos h]
    · rw [mw_ov_off (fun j hj2 z => ?_), mw_ov_at hj hi]
      · unfold rk_spl
        rw [if_neg h]
      · have := hj (o + j) i (by omega) hi z
        omega
  · have h1 : ∀ j, j < 21 → ad j ≠ q := fun j hj2 e => hq ⟨j, hj2, e⟩
    rw [mw_ov_off (fun j hj2 => h1 (o + j) (by omega)), mw_ov_off h1, mw_ov_off h1]
theorem mw_ov_slf {B : mw_M} {ad : Nat → Nat} {cw : Nat → va_E} {o : Nat} (hj : mw_inj ad 21) (ho : o + 4 ≤ 21) : mw_ov (mw_ov B ad cw 21) (fun i => ad (o + i)) (fun i => cw (o + i)) 4 = mw_ov B ad cw 21 :=
  mw_ov_self (fun i hi => mw_ov_at hj (by omega))
/-- what lies outside the four cells is seen through any overlay of them -/
theorem k_thru {B : mw_M} {ad : Nat → Nat} {cw : Nat → va_E} {o : Nat} (hk : k_ov B ad) (ho : o + 4 ≤ 21) {q : Nat} {e : va_E} (h : B q = some e) : ∀ c, mw_ov (mw_ov B ad cw 21) (fun i => ad (o + i)) c 4 q = some e := by
  intro c
  rw [mw_ov_sub hk.1 ho]
  exact mw_ov_fr hk.2 h
theorem k_thruA {B : mw_M} {ad : Nat → Nat} {cw : Nat → va_E} {o j : Nat} (hk : k_ov B ad) (ho : o + 4 ≤ 21) (hj : j < 21) (hx : j < o ∨ o + 4 ≤ j) {e : va_E} (h : cw j = e) : ∀ c, mw_ov (mw_ov B ad cw 21) (fun i => ad (o + i)) c 4 (ad j) = some e := by
  intro c
  rw [mw_ov_sub hk.1 ho, mw_ov_at hk.1 hj, rk_spl_out hx, h]
/-- the column c stands at place d -/
def k_cold (cI : ClassId) (B : mw_M) (ad : Nat → Nat) (cw : Nat → va_E) (d : Nat) (c : rk_Col) : Prop :=
  ∃ (src K : Nat) (pl : Nat → Nat), k_co cI (fun i => ad (9 + 4 * d + i)) src K (fun i => cw (9 + 4 * d + i)) c.2.2.1 c.2.2.2.1 c.2.2.2.2 pl ∧ c.2.1 = rk_tb K ∧ K < 256 ∧ k_pat cI B src c.1 ∧ (∀ q, pl q = 0) ∧ c.2.2.1 ≤ 300 ∧ ∀ i, i < c.2.2.1 → c.2.2.2.1 i < 32768
/-- a column's cells, whatever is in them -/
def k_blank (cI : ClassId) (ad : Nat → Nat) (cw : Nat → va_E) (d : Nat) : Prop :=
  ∃ (src K n : Nat) (pr tm pl : Nat → Nat), k_co cI (fun i => ad (9 + 4 * d + i)) src K (fun i => cw (9 + 4 * d + i)) n pr tm pl ∧ ∀ q, pl q = 0
theorem k_cold_blank {cI : ClassId} {B : mw_M} {ad : Nat → Nat} {cw : Nat → va_E} {d : Nat} {c : rk_Col} (h : k_cold cI B ad cw d c) : k_blank cI ad cw d := by
  obtain ⟨src, K, pl, h1, -, -, -, h2, -⟩ := h
  exact ⟨src, K, _, _, _, pl, h1, h2⟩
theorem k_co_same {cI : ClassId} {ac : Nat → Nat} {src K : Nat} {cw c1 : Nat → va_E} {n : Nat} {pr tm pl : Nat → Nat} (h : k_co cI ac src K cw n pr tm pl) (he : ∀ i, i < 4 → c1 i = cw i) : k_co cI ac src K c1 n pr tm pl :=
  ⟨(he 0 (by decide)).trans h.1, (he 1 (by decide)).trans h.2.1, (he 2 (by decide)).trans h.2.2.1, (he 3 (by decide)).trans h.2.2.2⟩
theorem k_blank_same {cI : ClassId} {ad : Nat → Nat} {cw c1 : Nat → va_E} {d : Nat} (h : k_blank cI ad cw d) (he : ∀ i, i < 4 → c1 (9 + 4 * d + i) = cw (9 + 4 * d + i)) : k_blank cI ad c1 d := by
  obtain ⟨src, K, n, pr, tm, pl, h1, h2⟩ := h
  exact ⟨src, K, n, pr, tm, pl, k_co_same h1 he, h2⟩
theorem k_cold_same {cI : ClassId} {B : mw_M} {ad : Nat → Nat} {cw c1 : Nat → va_E} {d : Nat} {c : rk_Col} (h : k_cold cI B ad cw d c) (he : ∀ i, i < 4 → c1 (9 + 4 * d + i) = cw (9 + 4 * d + i)) : k_cold cI B ad c1 d c := by
  obtain ⟨src, K, pl, h1, h2⟩ := h
  exact ⟨src, K, pl, k_co_same h1 he, h2⟩
/-- the solver itself, its values, the array of its columns -/
def k_sv (cI cC : ClassId) (B : mw_M) (ad : Nat → Nat) (cw : Nat → va_E) (ca cc : Nat) (u : Nat → Nat) : Prop :=
  cw 1 = .inr (5, [.ref (ad 2), .ref (ad 8), .ref ca, .int (nI cc)]) ∧ cw 8 = .inl (cI, 8, .inl (rk_nf u)) ∧ rk_okV u ∧ ∃ fa : Nat → Option Nat, B ca = some (.inl (cC, 3, .inr (.inr (.inr (.inr fa))))) ∧ ∀ d, d < 3 → fa d = some (ad (9 + 4 * d))
end
section
/-! Solver.isMatchedBefore -/
set_option maxHeartbeats 4000000 in
set_option maxRecDepth 100000 in
theorem c_Sv_isMatchedBefore (l : Launch) (D : va_G) (cI cZ cP cR cC : ClassId) (tS : Nat) (sz : Nat) (B : mw_M) (ad : Nat → Nat) (cw : Nat → va_E) (pm : Nat) (L : List Nat) (ho : k_ov B ad) (hpm : B pm = some (.inr (0, [.ref (ad 4)]))) (ht : k_tr cI ad cw pm L) (ca cc : Nat) (u : Nat → Nat) (hsv : k_sv cI cC B ad cw ca cc u) (pt : Nat) (P : rk_Pt) (hp : k_pat cI B pt P) (Bd len : Nat) (hBd : Bd < 256) (hlen : len ≤ L.length) :
    Met l y_Sv_isMatchedBefore (.code y_Sv_isMatchedBefore b_Sv_isMatchedBefore 8 (some .boolean) :: gw) ({ frames := 1, cells := 0, slots := 0, locals := 24 }) (va_Pc [.ref (ad 1), .ref pt, .int (nI Bd), .int (nI len)] (mw_B D k_cl (k_tys cI cZ cP cR cC) (k_g tS) (mw_ov B ad cw 21) sz)) (va_Qi (fun (r : Int32) (M1 : mw_M) => M1 = mw_ov B ad cw 21 ∧ ((r = 1 ∧ ∃ j, j < len ∧ rk_mt P (rk_tb Bd) u (L.getD j 0)) ∨ (r = 0 ∧ ∀ j, j < len → ¬ rk_mt P (rk_tb Bd) u (L.getD j 0)))) (mw_E D k_cl (mw_ov B ad cw 21) sz) (mw_A (mw_ov B ad cw 21) sz)) 0 0 (mw_A (mw_ov B ad cw 21) sz) := by
  refine mw_met (by decide) rfl (Nat.le_of_ble_eq_true rfl) ?_
  intro p e s m below meth c hsz J hr hlk hnm hK hZ hP hS hA ls hl
  subst hsz
  have hx := J.1
  have hb := J.2.1
  have hts := J.2.2.2.2
  have hl : lv_has ls 8 [(0, .ref (ad 1)), (1, .ref pt), (2, .int (nI Bd)), (3, .int (nI len))] := hl
  obtain ⟨fc, w, hc2, hc3, hc4, hfc, hW, hL3, hnd, hlt⟩ := ht
  obtain ⟨hc1, hc8, hu, fa, hca, hfa⟩ := hsv
  have hpw := k_pat_mono hp (k_fr ho cw)
  obtain ⟨hok, b, q, fb, fq, hs1, -⟩ := id hpw
  refine lv_aload_n hx hb d_Sv_isMatchedBefore_0 rfl (lv_at hl 1 rfl) ?_
  refine mw_get (v := .int (nI (rk_m (rk_num P)))) (ci := 2) (C := R_Pt) (T := T_Pt) (N := 8) J i_Pt hK hP hs1 rfl 3 (by decide) (hts _ k_80) (fun _ h9 => h9) rfl d_Sv_isMatchedBefore_1 ?_
  refine lv_aload_n hx hb d_Sv_isMatchedBefore_4 rfl (lv_at hl 1 rfl) ?_
  refine lv_iload_n hx hb d_Sv_isMatchedBefore_5 rfl (lv_at hl 2 rfl) ?_
  refine mw_afterI hP hS hA (mw_runV (As := [.int (nI Bd)]) (rest := [.int (nI (rk_m (rk_num P)))]) J hK hZ hP hS hA hs1 rfl (c_Pt_maskOf l D cI cZ cP cR cC tS _ (mw_ov B ad cw 21) pt P hpw Bd hBd) (cwV 1 hts (mw_gV k_251 k_252 k_253 k_6 k_254) rfl rfl rfl (by decide +kernel) ⟨Nat.le_of_ble_eq_true rfl, Nat.le_of_ble_eq_true rfl⟩) rfl hl.1 rfl (Nat.le_of_ble_eq_true rfl) d_Sv_isMatchedBefore_6 ⟨Nat.le_of_ble_eq_true rfl, Nat.le_of_ble_eq_true rfl⟩) (fun r M1 H locs hw hP hS => ?_)
  obtain ⟨rfl, rfl⟩ := hw
  refine lv_ior hx hb d_Sv_isMatchedBefore_9 ?_
  refine mw_top (x' := nI (rk_m (fun j => rk_num P j || rk_ink P (rk_tb Bd) j))) (by rw [nx_or, rk_m_or]) ?_
  refine lv_istore (lv' := [(4, .int (nI (rk_m (fun j => rk_num P j || rk_ink P (rk_tb Bd) j)))), (0, .ref (ad 1)), (1, .ref pt), (2, .int (nI Bd)), (3, .int (nI len))]) hx hb d_Sv_isMatchedBefore_10 hl (by decide) rfl (fun ls hl => ?_)
  refine lv_aload_n hx hb d_Sv_isMatchedBefore_12 rfl (lv_at hl 2 rfl) ?_
  refine mw_get (v := .int (nI (rk_v (rk_num P) (rk_at P)))) (ci := 2) (C := R_Pt) (T := T_Pt) (N := 8) J i_Pt hK hP hs1 rfl 4 (by decide) (hts _ k_83) (fun _ h9 => h9) rfl d_Sv_isMatchedBefore_13 ?_
  refine lv_aload_n hx hb d_Sv_isMatchedBefore_16 rfl (lv_at hl 2 rfl) ?_
  refine lv_iload_n hx hb d_Sv_isMatchedBefore_17 rfl (lv_at hl 3 rfl) ?_
  refine lv_aload_n hx hb d_Sv_isMatchedBefore_18 rfl (lv_at hl 1 rfl) ?_
  refine mw_get (v := .ref (ad 8)) (ci := 5) (C := R_Sv) (T := T_Sv) (N := 4) J i_Sv hK hP (mw_ov_is (i := 1) ho.1 (by decide) hc1) rfl 1 (by decide) (hts _ k_130) (fun _ h9 => h9) rfl d_Sv_isMatchedBefore_19 ?_
  refine mw_afterI hP hS hA (mw_runV (As := [.int (nI Bd), .ref (ad 8)]) (rest := [.int (nI (rk_v (rk_num P) (rk_at P)))]) J hK hZ hP hS hA hs1 rfl (c_Pt_filled l D cI cZ cP cR cC tS _ (mw_ov B ad cw 21) pt P hpw Bd hBd (ad 8) u hu (mw_ov_is (i := 8) ho.1 (by decide) hc8)) (cwV 2 hts (mw_gV k_255 k_256 k_257 k_6 k_258) rfl rfl rfl (by decide +kernel) ⟨Nat.le_of_ble_eq_true rfl, Nat.le_of_ble_eq_true rfl⟩) rfl hl.1 rfl (Nat.le_of_ble_eq_true rfl) d_Sv_isMatchedBefore_22 ⟨Nat.le_of_ble_eq_true rfl, Nat.le_of_ble_eq_true rfl⟩) (fun r M1 H locs hw hP hS => ?_)
  obtain ⟨rfl, rfl⟩ := hw
  refine lv_ior hx hb d_Sv_isMatchedBefore_25 ?_
  refine mw_top (x' := nI (rk_v (fun j => rk_num P j || rk_ink P (rk_tb Bd) j) (rk_wt P u))) (by rw [nx_or, rk_want hu]) ?_
  refine lv_istore (lv' := [(5, .int (nI (rk_v (fun j => rk_num P j || rk_ink P (rk_tb Bd) j) (rk_wt P u)))), (4, .int (nI (rk_m (fun j => rk_num P j || rk_ink P (rk_tb Bd) j)))), (0, .ref (ad 1)), (1, .ref pt), (2, .int (nI Bd)), (3, .int (nI len))]) hx hb d_Sv_isMatchedBefore_26 hl (by decide) rfl (fun ls hl => ?_)
  refine lv_iconst (v := 0) hx hb d_Sv_isMatchedBefore_28 (by decide) ?_
  refine mw_top (x' := nI 0) nI_0.symm ?_
  refine lv_istore (lv' := [(6, .int (nI 0)), (5, .int (nI (rk_v (fun j => rk_num P j || rk_ink P (rk_tb Bd) j) (rk_wt P u)))), (4, .int (nI (rk_m (fun j => rk_num P j || rk_ink P (rk_tb Bd) j)))), (0, .ref (ad 1)), (1, .ref pt), (2, .int (nI Bd)), (3, .int (nI len))]) hx hb d_Sv_isMatchedBefore_29 hl (by decide) rfl (fun ls hl => ?_)
  refine mw_loop (W' := fun H locs ls => W p l e _ s m _ below meth c H locs _ _ _ (F0 m 31 ls [])) len (fun i H locs ls => lv_has ls 8 [(0, .ref (ad 1)), (1, .ref pt), (2, .int (nI Bd)), (3, .int (nI len)), (4, .int (nI (rk_m (fun j => rk_num P j || rk_ink P (rk_tb Bd) j)))), (5, .int (nI (rk_v (fun j => rk_num P j || rk_ink P (rk_tb Bd) j) (rk_wt P u)))), (6, .int (nI i))] ∧ (∀ j, j < i → ¬ rk_mt P (rk_tb Bd) u (L.getD j 0)) ∧ mw_P D k_cl (mw_ov B ad cw 21) (mw_A (mw_ov B ad cw 21) s.heap.size) H ∧ va_S (mw_A (mw_ov B ad cw 21) s.heap.size) s.heap H locs) ?_ len 0 (by omega) (by omega) _ _ _ ⟨lv_sub hl [3, 4, 5, 6, 2, 1, 0] rfl, (fun j hj => absurd hj (Nat.not_lt_zero j)), hP, hS⟩
  intro i H locs ls hi_31 hI ih_31
  obtain ⟨hl, hno, hP, hS⟩ := hI
  refine lv_iload hx hb d_Sv_isMatchedBefore_31 (lv_at hl 6 rfl) ?_
  refine lv_iload_n hx hb d_Sv_isMatchedBefore_33 rfl (lv_at hl 3 rfl) ?_
  refine lv_icmp_ge (tgt := 76) hx hb d_Sv_isMatchedBefore_34 (by decide) (fun c_34 => ?_) (fun c_34 => ?_)
  · have c_34 : len ≤ i := (nI_leI (by omega) (by omega)).mp c_34
    refine lv_iconst (v := 0) hx hb d_Sv_isMatchedBefore_76 (by decide) ?_
    exact mw_zret J hr hlk rfl hP hS d_Sv_isMatchedBefore_77 (⟨rfl, Or.inr ⟨rfl, fun j hj => hno j (by omega)⟩⟩)
  · have c_34 : ¬ (len ≤ i) := fun z => c_34 ((nI_leI (by omega) (by omega)).mpr z)
    have hkc : L.getD i 0 < 32768 := hlt _ (rk_getD_mem (by omega))
    refine lv_aload_n hx hb d_Sv_isMatchedBefore_37 rfl (lv_at hl 0 rfl) ?_
    refine mw_get (v := .ref (ad 2)) (ci := 5) (C := R_Sv) (T := T_Sv) (N := 4) J i_Sv hK hP (mw_ov_is (i := 1) ho.1 (by decide) hc1) rfl 0 (by decide) (hts _ k_128) (fun _ h9 => h9) rfl d_Sv_isMatchedBefore_38 ?_
    refine mw_get (v := .ref (ad 3)) (ci := 1) (C := R_Tr) (T := T_Tr) (N := 3) J i_Tr hK hP (mw_ov_is (i := 2) ho.1 (by decide) hc2) rfl 0 (by decide) (hts _ k_42) (fun _ h9 => h9) rfl d_Sv_isMatchedBefore_41 ?_
    refine lv_iload hx hb d_Sv_isMatchedBefore_44 (lv_at hl 6 rfl) ?_
    refine mw_nald (k := i) J hK hP 0 (mw_ov_is (i := 3) ho.1 (by decide) hc3) rfl (by omega) (by decide) d_Sv_isMatchedBefore_46 ?_
    refine mw_top (x' := nI (L.getD i 0)) (by rw [hfc i (by omega)]) ?_
    refine lv_istore (lv' := [(7, .int (nI (L.getD i 0))), (0, .ref (ad 1)), (1, .ref pt), (2, .int (nI Bd)), (3, .int (nI len)), (4, .int (nI (rk_m (fun j => rk_num P j || rk_ink P (rk_tb Bd) j)))), (5, .int (nI (rk_v (fun j => rk_num P j || rk_ink P (rk_tb Bd) j) (rk_wt P u)))), (6, .int (nI i))]) hx hb d_Sv_isMatchedBefore_47 hl (by decide) rfl (fun ls hl => ?_)
    refine lv_iload hx hb d_Sv_isMatchedBefore_49 (lv_at hl 0 rfl) ?_
    refine lv_iload hx hb d_Sv_isMatchedBefore_51 (lv_at hl 5 rfl) ?_
    refine lv_iand hx hb d_Sv_isMatchedBefore_53 ?_
    refine mw_top (x' := nI (L.getD i 0 &&& rk_m (fun j => rk_num P j || rk_ink P (rk_tb Bd) j))) (nx_and _ _) ?_
    refine lv_iload hx hb d_Sv_isMatchedBefore_54 (lv_at hl 6 rfl) ?_
    refine lv_icmp_ne (tgt := 70) hx hb d_Sv_isMatchedBefore_56 (by decide) (fun c_56 => ?_) (fun c_56 => ?_)
    · have c_56 : ¬ ((L.getD i 0 &&& rk_m (fun j => rk_num P j || rk_ink P (rk_tb Bd) j)) = (rk_v (fun j => rk_num P j || rk_ink P (rk_tb Bd) j) (rk_wt P u))) := fun z => c_56 ((nI_eq (Nat.lt_of_le_of_lt Nat.and_le_left (by omega)) (Nat.lt_trans (rk_v_lt (fun j _ => rk_wt_lt hu j)) (by decide))).mpr z)
      have hmt : ¬ rk_mt P (rk_tb Bd) u (L.getD i 0) := fun z => c_56 ((rk_mt_sel hkc hu).mp z).1
      refine lv_iinc (v := nI (i + 1)) (lv' := [(6, .int (nI (i + 1))), (7, .int (nI (L.getD i 0))), (0, .ref (ad 1)), (1, .ref pt), (2, .int (nI Bd)), (3, .int (nI len)), (4, .int (nI (rk_m (fun j => rk_num P j || rk_ink P (rk_tb Bd) j)))), (5, .int (nI (rk_v (fun j => rk_num P j || rk_ink P (rk_tb Bd) j) (rk_wt P u))))]) hx hb d_Sv_isMatchedBefore_70 hl (k := 7) rfl (nI_1 i) (by decide) rfl (fun ls hl => ?_)
      refine lv_goto (tgt := 31) hx hb d_Sv_isMatchedBefore_73 (by decide) ?_
      exact ih_31 _ _ _ (by omega) ⟨lv_sub hl [2, 3, 4, 5, 6, 7, 0] rfl, (lt_s hno hmt), hP, hS⟩
    · have c_56 : (L.getD i 0 &&& rk_m (fun j => rk_num P j || rk_ink P (rk_tb Bd) j)) = (rk_v (fun j => rk_num P j || rk_ink P (rk_tb Bd) j) (rk_wt P u)) := (nI_eq (Nat.lt_of_le_of_lt Nat.and_le_left (by omega)) (Nat.lt_trans (rk_v_lt (fun j _ => rk_wt_lt hu j)) (by decide))).mp c_56
      refine lv_aload_n hx hb d_Sv_isMatchedBefore_59 rfl (lv_at hl 2 rfl) ?_
      refine lv_iload hx hb d_Sv_isMatchedBefore_60 (lv_at hl 0 rfl) ?_
      refine mw_afterI hP hS hA (mw_runV (As := [.int (nI (L.getD i 0))]) (rest := []) J hK hZ hP hS hA hs1 rfl (c_Pt_agrees l D cI cZ cP cR cC tS _ (mw_ov B ad cw 21) pt P hpw (L.getD i 0) hkc) (cwV 1 hts (mw_gV k_259 k_240 k_241 k_6 k_242) rfl rfl rfl (by decide +kernel) ⟨Nat.le_of_ble_eq_true rfl, Nat.le_of_ble_eq_true rfl⟩) rfl hl.1 rfl (Nat.le_of_ble_eq_true rfl) d_Sv_isMatchedBefore_62 ⟨Nat.le_of_ble_eq_true rfl, Nat.le_of_ble_eq_true rfl⟩) (fun r M1 H locs hw hP hS => ?_)
      obtain ⟨rfl, hw⟩ := hw
      refine lv_if_eq (tgt := 70) hx hb d_Sv_isMatchedBefore_65 (by decide) (fun c_65 => ?_) (fun c_65 => ?_)
      · have hmt : ¬ rk_mt P (rk_tb Bd) u (L.getD i 0) := fun z => by
          rcases hw with ⟨h, _⟩ | ⟨_, h⟩
          · rw [h] at c_65
            exact absurd c_65 (by decide)
          · exact h ((rk_mt_sel hkc hu).mp z).2
        refine lv_iinc (v := nI (i + 1)) (lv' := [(6, .int (nI (i + 1))), (7, .int (nI (L.getD i 0))), (0, .ref (ad 1)), (1, .ref pt), (2, .int (nI Bd)), (3, .int (nI len)), (4, .int (nI (rk_m (fun j => rk_num P j || rk_ink P (rk_tb Bd) j)))), (5, .int (nI (rk_v (fun j => rk_num P j || rk_ink P (rk_tb Bd) j) (rk_wt P u))))]) hx hb d_Sv_isMatchedBefore_70 hl (k := 7) rfl (nI_1 i) (by decide) rfl (fun ls hl => ?_)
        refine lv_goto (tgt := 31) hx hb d_Sv_isMatchedBefore_73 (by decide) ?_
        exact ih_31 _ _ _ (by omega) ⟨lv_sub hl [2, 3, 4, 5, 6, 7, 0] rfl, (lt_s hno hmt), hP, hS⟩
      · have hmt : rk_mt P (rk_tb Bd) u (L.getD i 0) := (rk_mt_sel hkc hu).mpr ⟨c_56, by
          rcases hw with ⟨_, h⟩ | ⟨h, _⟩
          · exact h
          · exact absurd h c_65⟩
        refine lv_iconst (v := 1) hx hb d_Sv_isMatchedBefore_68 (by decide) ?_
        exact mw_zret J hr hlk rfl hP hS d_Sv_isMatchedBefore_69 (⟨rfl, Or.inl ⟨rfl, i, by omega, hmt⟩⟩)
end
section
/-! the list of a rule's columns -/
def rk_col0 : rk_Col := ((0, 0, 0), fun _ => false, 0, fun _ => 0, fun _ => 0)
theorem rk_cols_len {r : rk_Ru} {i : Nat} {cf : Nat → rk_Col} : ∀ n, (rk_cols r i cf n).length ≤ n
  | 0 => Nat.le_refl 0
  | n + 1 => by
    show (rk_cols r i cf n ++ (if n = i then [] else [cf n])).length ≤ n + 1
    rw [List.length_append]
    have := rk_cols_len (r := r) (i := i) (cf := cf) n
    split
    · simp
      omega
    · simp
      omega
theorem rk_cols_congr {r : rk_Ru} {i : Nat} {cf cg : Nat → rk_Col} : ∀ {n : Nat}, (∀ j, j < n → cf j = cg j) → rk_cols r i cf n = rk_cols r i cg n
  | 0, _ => rfl
  | n + 1, h => by
    show rk_cols r i cf n ++ (if n = i then [] else [cf n]) = rk_cols r i cg n ++ (if n = i then [] else [cg n])
    rw [rk_cols_congr (fun j hj => h j (by omega)), h n (by omega)]
theorem rk_cols_skip {r : rk_Ru} {i : Nat} {cf : Nat → rk_Col} {n : Nat} (h : n = i) : rk_cols r i cf (n + 1) = rk_cols r i cf n := by
  show rk_cols r i cf n ++ (if n = i then [] else [cf n]) = _
  rw [if_pos h, List.append_nil]
theorem rk_cols_new {r : rk_Ru} {i : Nat} {cf : Nat → rk_Col} {n : Nat} {c : rk_Col} (h : n ≠ i) : rk_cols r i (va_up cf n c) (n + 1) = rk_cols r i cf n ++ [c] := by
  show rk_cols r i (va_up cf n c) n ++ (if n = i then [] else [va_up cf n c n]) = _
  rw [if_neg h, va_up_self, rk_cols_congr (cg := cf) (fun j hj => va_up_ne _ _ (by omega))]
theorem rk_colD_app {L K : List rk_Col} {i : Nat} (h : i < L.length) : (L ++ K).getD i rk_col0 = L.getD i rk_col0 := by
  rw [List.getD_eq_getElem?_getD, List.getD_eq_getElem?_getD, List.getElem?_append_left h]
theorem rk_colD_last (L : List rk_Col) (x : rk_Col) : (L ++ [x]).getD L.length rk_col0 = x := by
  rw [List.getD_eq_getElem?_getD, List.getElem?_append_right (Nat.le_refl _)]
  simp
/-- an empty column: nothing fits -/
theorem rk_col_none {L : List Nat} {P : rk_Pt} {B K : Nat → Bool} {u : Nat → Nat} {pr tm : Nat → Nat} (h : ∀ g : Nat → Nat, rk_sum (List.range 0) (fun j => tm j * g (pr j)) = rk_sum L (fun k => rk_if (rk_mt P B u k) (g (rk_part P K k)))) : ∀ k, k ∈ L → ¬ rk_mt P B u k := by
  intro k hk hm
  have h1 := h (fun _ => 1)
  have h2 : 0 < rk_sum L (fun k => rk_if (rk_mt P B u k) 1) := rk_sum_pos.mpr ⟨k, hk, by rw [rk_if_t hm]; exact Nat.one_pos⟩
  rw [← h1] at h2
  exact absurd h2 (Nat.lt_irrefl 0)
end
section
/-! Solver.fillColumns -/
set_option maxHeartbeats 4000000 in
set_option maxRecDepth 100000 in
theorem c_Sv_fillColumns (l : Launch) (D : va_G) (cI cZ cP cR cC : ClassId) (tS : Nat) (sz : Nat) (B : mw_M) (ad : Nat → Nat) (cw : Nat → va_E) (pm : Nat) (L : List Nat) (ho : k_ov B ad) (hpm : B pm = some (.inr (0, [.ref (ad 4)]))) (ht : k_tr cI ad cw pm L) (ca cc : Nat) (u : Nat → Nat) (hsv : k_sv cI cC B ad cw ca cc u) (ra : Nat) (r : rk_Ru) (hrule : k_rule cI cP B ra r) (woI : Int32) (wo : Nat) (hwo : ∀ j, j < 3 → (nI j = woI ↔ j = wo)) (Bd len : Nat) (hBd : Bd < 256) (hlen : len ≤ L.length) (hbl : ∀ d, d < 3 → k_blank cI ad cw d) :
    Met l y_Sv_fillColumns (.code y_Sv_fillColumns b_Sv_fillColumns 7 (some .boolean) :: gw) ({ frames := 2, cells := 0, slots := 0, locals := 53 }) (va_Pc [.ref (ad 1), .ref ra, .int woI, .int (nI Bd), .int (nI len)] (mw_B D k_cl (k_tys cI cZ cP cR cC) (k_g tS) (mw_ov B ad cw 21) sz)) (va_Qi (fun (rr : Int32) (M1 : mw_M) => ∃ cw1 cc1, M1 = mw_ov B ad cw1 21 ∧ k_sv cI cC B ad cw1 ca cc1 u ∧ (∀ i, i ≠ 1 → i < 9 → cw1 i = cw i) ∧ (∀ d, d < 3 → k_blank cI ad cw1 d) ∧ ((rr = 1 ∧ ∃ cf, cc1 = (rk_cols r wo cf r.1.length).length ∧ (∀ j, j < r.1.length → j ≠ wo → rk_iscol r Bd j (cf j) ∧ rk_colok (L.take len) (rk_tb Bd) u (cf j)) ∧ ∀ e, e < cc1 → k_cold cI B ad cw1 e ((rk_cols r wo cf r.1.length).getD e rk_col0)) ∨ (rr = 0 ∧ ∃ j, j < r.1.length ∧ j ≠ wo ∧ ∀ k, k ∈ L.take len → ¬ rk_mt (rk_nth r j) (rk_tb Bd) u k))) (mw_E D k_cl (mw_ov B ad cw 21) sz) (mw_A (mw_ov B ad cw 21) sz)) 0 0 (mw_A (mw_ov B ad cw 21) sz) := by
  refine mw_met (by decide) rfl (Nat.le_of_ble_eq_true rfl) ?_
  intro p e s m below meth c hsz J hr hlk hnm hK hZ hP hS hA ls hl
  subst hsz
  have hx := J.1
  have hb := J.2.1
  have hts := J.2.2.2.2
  have hl : lv_has ls 7 [(0, .ref (ad 1)), (1, .ref ra), (2, .int woI), (3, .int (nI Bd)), (4, .int (nI len))] := hl
  obtain ⟨fc, w, hc2, hc3, hc4, hfc, hW, hL3, hnd, hlt⟩ := ht
  obtain ⟨hc1, hc8, hu, fa, hca, hfa⟩ := hsv
  obtain ⟨hr3, bo, hd, sh, fo, fs, hr1, hr2, hr4, hrh, hfo, hfs⟩ := hrule
  refine lv_aload_n hx hb d_Sv_fillColumns_0 rfl (lv_at hl 0 rfl) ?_
  refine lv_iconst (v := 0) hx hb d_Sv_fillColumns_1 (by decide) ?_
  refine mw_top (x' := nI 0) nI_0.symm ?_
  refine mw_put (v := .int (nI 0)) (ty := .int) (ci := 5) (C := R_Sv) (T := T_Sv) (N := 4) J i_Sv t_Sv o_Sv n_Sv hK hP hS (mw_ov_is (i := 1) ho.1 (by decide) hc1) rfl 3 (by decide) (hts _ k_132) (fun _ h9 => h9) rfl rfl rfl rfl (Nat.le_of_ble_eq_true rfl) d_Sv_fillColumns_2 (fun H locs hP hS => ?_)
  rw [mw_ov_set ho.1 (by decide)] at hP
  have hP : mw_P D k_cl (mw_ov B ad (va_up cw 1 (.inr (5, [.ref (ad 2), .ref (ad 8), .ref ca, .int (nI 0)]))) 21) _ H := hP
  refine lv_iconst (v := 0) hx hb d_Sv_fillColumns_5 (by decide) ?_
  refine mw_top (x' := nI 0) nI_0.symm ?_
  refine lv_istore (lv' := [(5, .int (nI 0)), (0, .ref (ad 1)), (1, .ref ra), (2, .int woI), (3, .int (nI Bd)), (4, .int (nI len))]) hx hb d_Sv_fillColumns_6 hl (by decide) rfl (fun ls hl => ?_)
  refine mw_loop (W' := fun H locs ls => W p l e _ s m _ below meth c H locs _ _ _ (F0 m 8 ls [])) r.1.length (fun i H locs ls => ∃ (cx : Nat → va_E), ∃ (cf : Nat → rk_Col), ∃ (d : Nat), lv_has ls 7 [(0, .ref (ad 1)), (1, .ref ra), (2, .int woI), (3, .int (nI Bd)), (4, .int (nI len)), (5, .int (nI i))] ∧ (d = (rk_cols r wo cf i).length) ∧ (k_sv cI cC B ad cx ca d u) ∧ (∀ i, i ≠ 1 → i < 9 → cx i = cw i) ∧ (∀ d, d < 3 → k_blank cI ad cx d) ∧ (∀ j, j < i → j ≠ wo → rk_iscol r Bd j (cf j) ∧ rk_colok (L.take len) (rk_tb Bd) u (cf j)) ∧ (∀ e, e < d → k_cold cI B ad cx e ((rk_cols r wo cf i).getD e rk_col0)) ∧ mw_P D k_cl (mw_ov B ad cx 21) (mw_A (mw_ov B ad cw 21) s.heap.size) H ∧ va_S (mw_A (mw_ov B ad cw 21) s.heap.size) s.heap H locs) ?_ r.1.length 0 (by omega) (by omega) _ _ _ ⟨(va_up cw 1 (.inr (5, [.ref (ad 2), .ref (ad 8), .ref ca, .int (nI 0)]))), fun _ => rk_col0, 0, lv_sub hl [1, 2, 3, 4, 5, 0] rfl, rfl, ⟨rfl, hc8, hu, fa, hca, hfa⟩, (fun i h _ => va_up_ne _ _ h), (fun e he => k_blank_same (hbl e he) (fun i hi => va_up_ne _ _ (by omega))), (fun j hj => absurd hj (Nat.not_lt_zero j)), (fun e he => absurd he (Nat.not_lt_zero e)), hP, hS⟩
  intro i H locs ls hi_8 hI ih_8
  obtain ⟨cx, cf, d, hl, hd, hsx, hlo, hbx, hcf, hcd, hP, hS⟩ := hI
  obtain ⟨hx1, hx8, -, -⟩ := id hsx
  have hdl : d ≤ i := by rw [hd]; exact rk_cols_len i
  refine lv_iload hx hb d_Sv_fillColumns_8 (lv_at hl 5 rfl) ?_
  refine lv_aload_n hx hb d_Sv_fillColumns_10 rfl (lv_at hl 1 rfl) ?_
  refine mw_get (v := .ref bo) (ci := 3) (C := R_Ru) (T := T_Ru) (N := 3) J i_Ru hK hP (mw_ov_fr ho.2 hr1) rfl 0 (by decide) (hts _ k_155) (fun _ h9 => h9) rfl d_Sv_fillColumns_11 ?_
  refine mw_alen (v := nI r.1.length) J hK hP 2 (mw_ov_fr ho.2 hr2) rfl rfl d_Sv_fillColumns_14 ?_
  refine lv_icmp_ge (tgt := 116) hx hb d_Sv_fillColumns_15 (by decide) (fun c_15 => ?_) (fun c_15 => ?_)
  · have c_15 : r.1.length ≤ i := (nI_leI (by omega) (by omega)).mp c_15
    have hie : i = r.1.length := by omega
    rw [hie] at hd hcf hcd
    refine lv_iconst (v := 1) hx hb d_Sv_fillColumns_116 (by decide) ?_
    exact mw_zret J hr hlk rfl hP hS d_Sv_fillColumns_117 (⟨cx, d, rfl, hsx, hlo, hbx, Or.inl ⟨rfl, cf, hd, hcf, hcd⟩⟩)
  · have c_15 : ¬ (r.1.length ≤ i) := fun z => c_15 ((nI_leI (by omega) (by omega)).mpr z)
    refine lv_aload_n hx hb d_Sv_fillColumns_18 rfl (lv_at hl 0 rfl) ?_
    refine mw_get (v := .int (nI d)) (ci := 5) (C := R_Sv) (T := T_Sv) (N := 4) J i_Sv hK hP (mw_ov_is (i := 1) ho.1 (by decide) hx1) rfl 3 (by decide) (hts _ k_132) (fun _ h9 => h9) rfl d_Sv_fillColumns_19 ?_
    refine lv_iconst (v := 3) hx hb d_Sv_fillColumns_22 (by decide) ?_
    refine mw_top (x' := nI 3) rfl ?_
    refine lv_icmp_ge (tgt := 116) hx hb d_Sv_fillColumns_23 (by decide) (fun c_23 => absurd c_23 (fun z => by have := (nI_leI (by omega) (by omega)).mp z; omega)) (fun c_23 => ?_)
    refine lv_iload hx hb d_Sv_fillColumns_26 (lv_at hl 5 rfl) ?_
    refine lv_iload_n hx hb d_Sv_fillColumns_28 rfl (lv_at hl 2 rfl) ?_
    refine lv_icmp_ne (tgt := 35) hx hb d_Sv_fillColumns_29 (by decide) (fun c_29 => ?_) (fun c_29 => ?_)
    · have hne : i ≠ wo := fun z => c_29 ((hwo i (by omega)).mpr z)
      obtain ⟨p0, hpo, hpp⟩ := hfo i (by omega)
      obtain ⟨src0, K0, n0, pr0, tm0, pl0, hco0, hpl0⟩ := hbx d (by omega)
      have hb0 : cx (9 + 4 * d) = .inr (4, [.ref (ad (9 + 4 * d + 1)), .ref (ad (9 + 4 * d + 2)), .ref (ad (9 + 4 * d + 3)), .ref src0, .int (nI K0), .int (nI n0)]) := hco0.1
      have hok := hpp.1
      have hsh8 : rk_an (rk_shm r i) Bd < 256 := rk_an_lt (rk_shm_lt hok)
      have hpw : ∃ b q, mw_ov B ad cx 21 p0 = some (.inr (2, k_pf (rk_nth r i) b q)) := by
        obtain ⟨-, b, q, _, _, h, -⟩ := k_pat_mono hpp (k_fr ho cx)
        exact ⟨b, q, h⟩
      obtain ⟨pb, pq, hpw⟩ := hpw
      refine lv_aload_n hx hb d_Sv_fillColumns_35 rfl (lv_at hl 0 rfl) ?_
      refine mw_get (v := .ref ca) (ci := 5) (C := R_Sv) (T := T_Sv) (N := 4) J i_Sv hK hP (mw_ov_is (i := 1) ho.1 (by decide) hx1) rfl 2 (by decide) (hts _ k_131) (fun _ h9 => h9) rfl d_Sv_fillColumns_36 ?_
      refine lv_aload_n hx hb d_Sv_fillColumns_39 rfl (lv_at hl 0 rfl) ?_
      refine mw_get (v := .int (nI d)) (ci := 5) (C := R_Sv) (T := T_Sv) (N := 4) J i_Sv hK hP (mw_ov_is (i := 1) ho.1 (by decide) hx1) rfl 3 (by decide) (hts _ k_132) (fun _ h9 => h9) rfl d_Sv_fillColumns_40 ?_
      refine mw_aaldN (k := d) (b := (ad (9 + 4 * d))) J hK hP 4 (mw_ov_fr ho.2 hca) rfl (by omega) (by decide) (hfa d (by omega)) d_Sv_fillColumns_43 ?_
      refine lv_astore (lv' := [(6, .ref (ad (9 + 4 * d))), (0, .ref (ad 1)), (1, .ref ra), (2, .int woI), (3, .int (nI Bd)), (4, .int (nI len)), (5, .int (nI i))]) hx hb d_Sv_fillColumns_44 hl (by decide) rfl (fun ls hl => ?_)
      refine lv_aload hx hb d_Sv_fillColumns_46 (lv_at hl 0 rfl) ?_
      refine lv_aload_n hx hb d_Sv_fillColumns_48 rfl (lv_at hl 2 rfl) ?_
      refine mw_get (v := .ref bo) (ci := 3) (C := R_Ru) (T := T_Ru) (N := 3) J i_Ru hK hP (mw_ov_fr ho.2 hr1) rfl 0 (by decide) (hts _ k_155) (fun _ h9 => h9) rfl d_Sv_fillColumns_49 ?_
      refine lv_iload hx hb d_Sv_fillColumns_52 (lv_at hl 6 rfl) ?_
      refine mw_aaldN (k := i) (b := p0) J hK hP 2 (mw_ov_fr ho.2 hr2) rfl (by omega) (by omega) hpo d_Sv_fillColumns_54 ?_
      refine mw_put (v := .ref p0) (ty := .object "RuleKeeper$Pattern") (ci := 4) (C := R_Co) (T := T_Co) (N := 6) J i_Co t_Co o_Co n_Co hK hP hS (mw_ov_is (i := (9 + 4 * d)) ho.1 (by omega) hb0) rfl 3 (by decide) (hts _ k_110) (fun _ h9 => h9) rfl rfl rfl rfl (Nat.le_of_ble_eq_true rfl) d_Sv_fillColumns_55 (fun H locs hP hS => ?_)
      rw [mw_ov_set ho.1 (by omega)] at hP
      have hP : mw_P D k_cl (mw_ov B ad (va_up cx (9 + 4 * d) (.inr (4, [.ref (ad (9 + 4 * d + 1)), .ref (ad (9 + 4 * d + 2)), .ref (ad (9 + 4 * d + 3)), .ref p0, .int (nI K0), .int (nI n0)]))) 21) _ H := hP
      refine lv_aload hx hb d_Sv_fillColumns_58 (lv_at hl 0 rfl) ?_
      refine lv_aload_n hx hb d_Sv_fillColumns_60 rfl (lv_at hl 2 rfl) ?_
      refine mw_get (v := .ref sh) (ci := 3) (C := R_Ru) (T := T_Ru) (N := 3) J i_Ru hK hP (mw_ov_fr ho.2 hr1) rfl 2 (by decide) (hts _ k_160) (fun _ h9 => h9) rfl d_Sv_fillColumns_61 ?_
      refine lv_iload hx hb d_Sv_fillColumns_64 (lv_at hl 6 rfl) ?_
      refine mw_nald (k := i) J hK hP 0 (mw_ov_fr ho.2 hr4) rfl (by omega) (by omega) d_Sv_fillColumns_66 ?_
      refine mw_top (x' := nI (rk_shm r i)) (by rw [hfs i (by omega)]) ?_
      refine lv_iload_n hx hb d_Sv_fillColumns_67 rfl (lv_at hl 4 rfl) ?_
      refine lv_iconst (v := (-1)) hx hb d_Sv_fillColumns_68 (by decide) ?_
      refine lv_ixor hx hb d_Sv_fillColumns_69 ?_
      refine lv_iand hx hb d_Sv_fillColumns_70 ?_
      refine mw_top (x' := nI (rk_an (rk_shm r i) Bd)) (rk_an_i _ _) ?_
      refine mw_put (v := .int (nI (rk_an (rk_shm r i) Bd))) (ty := .int) (ci := 4) (C := R_Co) (T := T_Co) (N := 6) J i_Co t_Co o_Co n_Co hK hP hS (mw_ov_is (i := (9 + 4 * d)) ho.1 (by omega) (va_up_self _ _ _)) rfl 4 (by decide) (hts _ k_112) (fun _ h9 => h9) rfl rfl rfl rfl (Nat.le_of_ble_eq_true rfl) d_Sv_fillColumns_71 (fun H locs hP hS => ?_)
      rw [mw_ov_set ho.1 (by omega)] at hP
      have hP : mw_P D k_cl (mw_ov B ad (va_up (va_up cx (9 + 4 * d) (.inr (4, [.ref (ad (9 + 4 * d + 1)), .ref (ad (9 + 4 * d + 2)), .ref (ad (9 + 4 * d + 3)), .ref p0, .int (nI K0), .int (nI n0)]))) (9 + 4 * d) (.inr (4, [.ref (ad (9 + 4 * d + 1)), .ref (ad (9 + 4 * d + 2)), .ref (ad (9 + 4 * d + 3)), .ref p0, .int (nI (rk_an (rk_shm r i) Bd)), .int (nI n0)]))) 21) _ H := hP
      refine lv_aload hx hb d_Sv_fillColumns_74 (lv_at hl 0 rfl) ?_
      refine lv_aload_n hx hb d_Sv_fillColumns_76 rfl (lv_at hl 1 rfl) ?_
      refine mw_get (v := .ref (ad 2)) (ci := 5) (C := R_Sv) (T := T_Sv) (N := 4) J i_Sv hK hP (mw_ov_is (i := 1) ho.1 (by decide) ((va_up_ne _ _ (by omega)).trans ((va_up_ne _ _ (by omega)).trans hx1))) rfl 0 (by decide) (hts _ k_128) (fun _ h9 => h9) rfl d_Sv_fillColumns_77 ?_
      refine lv_iload hx hb d_Sv_fillColumns_80 (lv_at hl 5 rfl) ?_
      refine lv_iload_n hx hb d_Sv_fillColumns_82 rfl (lv_at hl 4 rfl) ?_
      refine lv_aload_n hx hb d_Sv_fillColumns_83 rfl (lv_at hl 1 rfl) ?_
      refine mw_get (v := .ref (ad 8)) (ci := 5) (C := R_Sv) (T := T_Sv) (N := 4) J i_Sv hK hP (mw_ov_is (i := 1) ho.1 (by decide) ((va_up_ne _ _ (by omega)).trans ((va_up_ne _ _ (by omega)).trans hx1))) rfl 1 (by decide) (hts _ k_130) (fun _ h9 => h9) rfl d_Sv_fillColumns_84 ?_
      obtain ⟨cy, ecy⟩ : ∃ z : Nat → va_E, z = (va_up (va_up cx (9 + 4 * d) (.inr (4, [.ref (ad (9 + 4 * d + 1)), .ref (ad (9 + 4 * d + 2)), .ref (ad (9 + 4 * d + 3)), .ref p0, .int (nI K0), .int (nI n0)]))) (9 + 4 * d) (.inr (4, [.ref (ad (9 + 4 * d + 1)), .ref (ad (9 + 4 * d + 2)), .ref (ad (9 + 4 * d + 3)), .ref p0, .int (nI (rk_an (rk_shm r i) Bd)), .int (nI n0)]))) := ⟨_, rfl⟩
      have hy0 : cy (9 + 4 * d) = .inr (4, [.ref (ad (9 + 4 * d + 1)), .ref (ad (9 + 4 * d + 2)), .ref (ad (9 + 4 * d + 3)), .ref p0, .int (nI (rk_an (rk_shm r i) Bd)), .int (nI n0)]) := by rw [ecy]; exact va_up_self _ _ _
      have hyo : ∀ z, z ≠ 9 + 4 * d → cy z = cx z := fun z hz => by rw [ecy, va_up_ne _ _ hz, va_up_ne _ _ hz]
      have hP : mw_P D k_cl (mw_ov (mw_ov B ad cy 21) (fun i => ad (9 + 4 * d + i)) (fun i => cy (9 + 4 * d + i)) 4) (mw_A (mw_ov B ad cw 21) s.heap.size) H := by
        rw [mw_ov_slf ho.1 (by omega), ecy]
        exact hP
      have hkc : k_co cI (fun i => ad (9 + 4 * d + i)) p0 (rk_an (rk_shm r i) Bd) (fun i => cy (9 + 4 * d + i)) n0 pr0 tm0 pl0 := ⟨hy0, (hyo _ (by omega)).trans hco0.2.1, (hyo _ (by omega)).trans hco0.2.2.1, (hyo _ (by omega)).trans hco0.2.2.2⟩
      refine mw_afterV hP hS hA (mw_runV (As := [.ref (ad 2), .int (nI len), .int (nI Bd), .ref (ad 8)]) (rest := []) J hK hZ hP hS hA (mw_ov_at (i := 0) (k_inj4 ho.1 (by omega)) (by decide) |>.trans (congrArg some hy0)) rfl (c_Co_fill l D cI cZ cP cR cC tS _ (mw_ov B ad cy 21) (fun i => ad (9 + 4 * d + i)) (k_inj4 ho.1 (by omega)) p0 (rk_an (rk_shm r i) Bd) (fun i => cy (9 + 4 * d + i)) n0 pr0 tm0 pl0 hkc (rk_nth r i) (fun c => by rw [mw_ov_sub ho.1 (by omega)]; exact k_pat_mono hpp (k_fr ho _)) (ad 2) (ad 3) pm (ad 8) L fc u (k_thruA ho (by omega) (by decide) (by omega) ((hyo 2 (by omega)).trans ((hlo 2 (by decide) (by decide)).trans hc2))) (k_thruA ho (by omega) (by decide) (by omega) ((hyo 3 (by omega)).trans ((hlo 3 (by decide) (by decide)).trans hc3))) (k_thruA ho (by omega) (by decide) (by omega) ((hyo 8 (by omega)).trans hx8)) hu hfc hL3 hlt len Bd hlen hBd hsh8 hpl0) (cwV 4 hts (mw_gV k_264 k_265 k_266 k_5 k_267) rfl rfl rfl (by decide +kernel) ⟨Nat.le_of_ble_eq_true rfl, Nat.le_of_ble_eq_true rfl⟩) rfl hl.1 rfl (Nat.le_of_ble_eq_true rfl) d_Sv_fillColumns_87 ⟨Nat.le_of_ble_eq_true rfl, Nat.le_of_ble_eq_true rfl⟩) (fun M1 H locs hw hP hS => ?_)
      obtain ⟨cz, n1, pr1, tm1, pl1, rfl, hcz, hpz, hn1, htz, hsum⟩ := hw
      rw [mw_ov_sub ho.1 (by omega)] at hP
      obtain ⟨cv, ecv⟩ : ∃ z : Nat → va_E, z = rk_spl cy (9 + 4 * d) cz := ⟨_, rfl⟩
      rw [← ecv] at hP
      have hvo : ∀ z, (z < 9 + 4 * d ∨ 9 + 4 * d + 4 ≤ z) → cv z = cx z := fun z hz => by rw [ecv, rk_spl_out hz, hyo z (by omega)]
      have hvi : ∀ z, z < 4 → cv (9 + 4 * d + z) = cz z := fun z hz => by rw [ecv, rk_spl_in hz]
      have hv0 : cv (9 + 4 * d) = .inr (4, [.ref (ad (9 + 4 * d + 1)), .ref (ad (9 + 4 * d + 2)), .ref (ad (9 + 4 * d + 3)), .ref p0, .int (nI (rk_an (rk_shm r i) Bd)), .int (nI n1)]) := (hvi 0 (by decide)).trans hcz.1
      have hcol : k_cold cI B ad cv d (rk_nth r i, rk_tb (rk_an (rk_shm r i) Bd), n1, pr1, tm1) := ⟨p0, rk_an (rk_shm r i) Bd, pl1, k_co_same hcz (fun z hz => hvi z hz), rfl, hsh8, hpp, hpz, hn1, fun z hz => (htz z hz).2⟩
      have hbv : ∀ e, e < 3 → k_blank cI ad cv e := fun e he => by
        by_cases hde : e = d
        · rw [hde]
          exact k_cold_blank hcol
        · exact k_blank_same (hbx e he) (fun z hz => hvo _ (by omega))
      refine lv_aload hx hb d_Sv_fillColumns_90 (lv_at hl 0 rfl) ?_
      refine mw_get (v := .int (nI n1)) (ci := 4) (C := R_Co) (T := T_Co) (N := 6) J i_Co hK hP (mw_ov_is (i := (9 + 4 * d)) ho.1 (by omega) hv0) rfl 5 (by decide) (hts _ k_114) (fun _ h9 => h9) rfl d_Sv_fillColumns_92 ?_
      refine lv_if_ne (tgt := 100) hx hb d_Sv_fillColumns_95 (by decide) (fun c_95 => ?_) (fun c_95 => ?_)
      · refine lv_aload_n hx hb d_Sv_fillColumns_100 rfl (lv_at hl 1 rfl) ?_
        refine lv_dup hx hb d_Sv_fillColumns_101 rfl ?_
        refine mw_get (v := .int (nI d)) (ci := 5) (C := R_Sv) (T := T_Sv) (N := 4) J i_Sv hK hP (mw_ov_is (i := 1) ho.1 (by decide) ((hvo 1 (by omega)).trans hx1)) rfl 3 (by decide) (hts _ k_132) (fun _ h9 => h9) rfl d_Sv_fillColumns_102 ?_
        refine lv_iconst (v := 1) hx hb d_Sv_fillColumns_105 (by decide) ?_
        refine lv_iadd hx hb d_Sv_fillColumns_106 ?_
        refine mw_top (x' := nI (d + 1)) (nI_1 d) ?_
        refine mw_put (v := .int (nI (d + 1))) (ty := .int) (ci := 5) (C := R_Sv) (T := T_Sv) (N := 4) J i_Sv t_Sv o_Sv n_Sv hK hP hS (mw_ov_is (i := 1) ho.1 (by decide) ((hvo 1 (by omega)).trans hx1)) rfl 3 (by decide) (hts _ k_132) (fun _ h9 => h9) rfl rfl rfl rfl (Nat.le_of_ble_eq_true rfl) d_Sv_fillColumns_107 (fun H locs hP hS => ?_)
        rw [mw_ov_set ho.1 (by decide)] at hP
        have hP : mw_P D k_cl (mw_ov B ad (va_up cv 1 (.inr (5, [.ref (ad 2), .ref (ad 8), .ref ca, .int (nI (d + 1))]))) 21) _ H := hP
        have hcf2 : ∀ j, j < i + 1 → j ≠ wo → rk_iscol r Bd j (va_up cf i (rk_nth r i, rk_tb (rk_an (rk_shm r i) Bd), n1, pr1, tm1) j) ∧ rk_colok (L.take len) (rk_tb Bd) u (va_up cf i (rk_nth r i, rk_tb (rk_an (rk_shm r i) Bd), n1, pr1, tm1) j) := by
          intro j hj hjw
          by_cases e : j = i
          · subst e
            rw [va_up_self]
            exact ⟨⟨rfl, rfl⟩, hsum, fun z hz => (htz z hz).1, fun x hx => rk_iscol_in (r := r) (b := Bd) (j := j) (c := (rk_nth r j, rk_tb (rk_an (rk_shm r j) Bd), n1, pr1, tm1)) ⟨rfl, rfl⟩ hx⟩
          · rw [va_up_ne _ _ e]
            exact hcf j (by omega) hjw
        have hcd2 : ∀ e, e < d + 1 → k_cold cI B ad (va_up cv 1 (.inr (5, [.ref (ad 2), .ref (ad 8), .ref ca, .int (nI (d + 1))]))) e ((rk_cols r wo (va_up cf i (rk_nth r i, rk_tb (rk_an (rk_shm r i) Bd), n1, pr1, tm1)) (i + 1)).getD e rk_col0) := by
          intro e he
          rw [rk_cols_new hne]
          by_cases hed : e = d
          · rw [hed]
            have e1 : (rk_cols r wo cf i ++ [(rk_nth r i, rk_tb (rk_an (rk_shm r i) Bd), n1, pr1, tm1)]).getD d rk_col0 = (rk_nth r i, rk_tb (rk_an (rk_shm r i) Bd), n1, pr1, tm1) := by rw [hd]; exact rk_colD_last _ _
            rw [e1]
            exact k_cold_same hcol (fun z hz => va_up_ne _ _ (by omega))
          · rw [rk_colD_app (by omega)]
            exact k_cold_same (hcd e (by omega)) (fun z hz => by rw [va_up_ne _ _ (by omega)]; exact hvo _ (by omega))
        refine lv_iinc (v := nI (i + 1)) (lv' := [(5, .int (nI (i + 1))), (6, .ref (ad (9 + 4 * d))), (0, .ref (ad 1)), (1, .ref ra), (2, .int woI), (3, .int (nI Bd)), (4, .int (nI len))]) hx hb d_Sv_fillColumns_110 hl (k := 6) rfl (nI_1 i) (by decide) rfl (fun ls hl => ?_)
        refine lv_goto (tgt := 8) hx hb d_Sv_fillColumns_113 (by decide) ?_
        exact ih_8 _ _ _ (by omega) ⟨(va_up cv 1 (.inr (5, [.ref (ad 2), .ref (ad 8), .ref ca, .int (nI (d + 1))]))), (va_up cf i (rk_nth r i, rk_tb (rk_an (rk_shm r i) Bd), n1, pr1, tm1)), (d + 1), lv_sub hl [2, 3, 4, 5, 6, 0] rfl, (by rw [rk_cols_new hne, List.length_append, ← hd]; rfl), ⟨rfl, (hvo 8 (by omega)).trans hx8, hu, fa, hca, hfa⟩, (fun z h1 h9 => by rw [va_up_ne _ _ h1, hvo z (by omega)]; exact hlo z h1 h9), (fun e he => k_blank_same (hbv e he) (fun z hz => va_up_ne _ _ (by omega))), hcf2, hcd2, hP, hS⟩
      · have hn0 : n1 = 0 := (rk_nI0 (by omega)).mp c_95
        subst hn0
        refine lv_iconst (v := 0) hx hb d_Sv_fillColumns_98 (by decide) ?_
        exact mw_zret J hr hlk rfl hP hS d_Sv_fillColumns_99 (⟨cv, d, rfl, ⟨(hvo 1 (by omega)).trans hx1, (hvo 8 (by omega)).trans hx8, hu, fa, hca, hfa⟩, fun z h1 h9 => by rw [hvo z (by omega)]; exact hlo z h1 h9, hbv, Or.inr ⟨rfl, i, by omega, hne, rk_col_none hsum⟩⟩)
    · have heq : i = wo := (hwo i (by omega)).mp c_29
      refine lv_goto (tgt := 110) hx hb d_Sv_fillColumns_32 (by decide) ?_
      refine lv_iinc (v := nI (i + 1)) (lv' := [(5, .int (nI (i + 1))), (0, .ref (ad 1)), (1, .ref ra), (2, .int woI), (3, .int (nI Bd)), (4, .int (nI len))]) hx hb d_Sv_fillColumns_110 hl (k := 5) rfl (nI_1 i) (by decide) rfl (fun ls hl => ?_)
      refine lv_goto (tgt := 8) hx hb d_Sv_fillColumns_113 (by decide) ?_
      exact ih_8 _ _ _ (by omega) ⟨cx, cf, d, lv_sub hl [1, 2, 3, 4, 5, 0] rfl, (by rw [rk_cols_skip heq]; exact hd), hsx, hlo, hbx, (fun j hj hne => hcf j (by omega) hne), (by rw [rk_cols_skip heq]; exact hcd), hP, hS⟩
end
section
/-! joins depend on what is known alone; masks against sets -/
theorem rk_tb_and (a b : Nat) : rk_tb (a &&& b) = fun x => rk_tb a x && rk_tb b x := by
  funext x
  exact Nat.testBit_and a b x
theorem rk_tb_or (a b : Nat) : rk_tb (a ||| b) = fun x => rk_tb a x || rk_tb b x := by
  funext x
  exact Nat.testBit_or a b x
theorem rk_tb_an (a b : Nat) : rk_tb (rk_an a b) = fun x => rk_tb a x && !rk_tb b x := by
  funext x
  exact rk_an_tb a b x
theorem rk_bindn_eq {P : rk_Pt} {S : Nat → Bool} {p : Nat} {u u' : Nat → Nat} {x : Nat} : ∀ n, (∃ j, j < n ∧ rk_at P j = 32 + x ∧ S x = true) → rk_bindn P S p u n x = rk_bindn P S p u' n x
  | 0, ⟨j, h, _⟩ => absurd h (Nat.not_lt_zero j)
  | n + 1, ⟨j, hj, e, hS⟩ => by
    show (if rk_ink P S n then va_up (rk_bindn P S p u n) (rk_at P n - 32) (rk_dg p n) else rk_bindn P S p u n) x = (if rk_ink P S n then va_up (rk_bindn P S p u' n) (rk_at P n - 32) (rk_dg p n) else rk_bindn P S p u' n) x
    by_cases hi : rk_ink P S n = true
    · rw [if_pos hi, if_pos hi]
      by_cases hx : x = rk_at P n - 32
      · rw [hx, va_up_self, va_up_self]
      · rw [va_up_ne _ _ hx, va_up_ne _ _ hx]
        exact rk_bindn_eq n ⟨j, by
          by_cases z : j = n
          · subst z
            omega
          · omega, e, hS⟩
    · rw [if_neg hi, if_neg hi]
      exact rk_bindn_eq n ⟨j, by
        by_cases z : j = n
        · subst z
          exact absurd (rk_ink_of e hS) hi
        · omega, e, hS⟩
/-- binding makes of assignments that agree on B ones that agree on B and on what is bound -/
theorem rk_bind_ext {P : rk_Pt} {K B : Nat → Bool} {p : Nat} {u u' : Nat → Nat} (hK : ∀ x, K x = true → rk_in P x) (h : ∀ x, B x = true → u x = u' x) : ∀ x, (B x || K x) = true → rk_bind P (fun x => K x && !B x) p u x = rk_bind P (fun x => K x && !B x) p u' x := by
  intro x hx
  by_cases hB : B x = true
  · rw [rk_bind_off (by simp [hB]), rk_bind_off (by simp [hB])]
    exact h x hB
  · have hB' : B x = false := by simpa using hB
    have hKx : K x = true := by simpa [hB'] using hx
    obtain ⟨j, hj, e⟩ := hK x hKx
    exact rk_bindn_eq 3 ⟨j, hj, e, by simp [hKx, hB']⟩
theorem rk_cons_congr {P : rk_Pt} {K B : Nat → Bool} {p : Nat} {u u' : Nat → Nat} (h : ∀ x, B x = true → u x = u' x) : rk_cons P (fun x => K x && B x) u p ↔ rk_cons P (fun x => K x && B x) u' p := by
  constructor
  · intro g j hj hi
    have := (rk_ink_spec hi).2
    simp at this
    rw [g j hj hi, h _ this.2]
  · intro g j hj hi
    have := (rk_ink_spec hi).2
    simp at this
    rw [g j hj hi, h _ this.2]
theorem rk_cj_congr : ∀ {cs : List rk_Col} {B : Nat → Bool} {u u' : Nat → Nat}, (∀ c, c ∈ cs → ∀ x, c.2.1 x = true → rk_in c.1 x) → (∀ x, B x = true → u x = u' x) → rk_cj cs B u = rk_cj cs B u'
  | [], _, _, _, _, _ => rfl
  | c :: cs, B, u, u', hK, h => by
    refine rk_sum_congr (fun i _ => ?_)
    congr 1
    refine rk_if_congr (rk_cons_congr h) (fun _ => ?_)
    exact rk_cj_congr (fun d hd => hK d (List.mem_cons_of_mem _ hd)) (rk_bind_ext (hK c List.mem_cons_self) h)
theorem rk_cons_sel {P : rk_Pt} {S : Nat → Bool} {u : Nat → Nat} {p : Nat} (hp : p < 32768) (hu : rk_okV u) : p &&& rk_m (rk_ink P S) = rk_v (rk_ink P S) (fun j => u (rk_at P j - 32)) ↔ rk_cons P S u p := rk_sel hp (fun j _ => hu _)
theorem rk_colD_drop {L : List rk_Col} {i : Nat} (h : i < L.length) : L.drop i = L.getD i rk_col0 :: L.drop (i + 1) := by
  rw [List.drop_eq_getElem_cons h, List.getD_eq_getElem?_getD, List.getElem?_eq_getElem h]
  rfl
theorem rk_colD_mem {L : List rk_Col} {i : Nat} (h : i < L.length) : L.getD i rk_col0 ∈ L := by
  rw [List.getD_eq_getElem?_getD, List.getElem?_eq_getElem h]
  exact List.getElem_mem h
end
section
/-! Solver.countJoined, by induction on the columns that are left -/
/-- what is said of countJoined with m0 columns left -/
def k_count (l : Launch) (D : va_G) (cI cZ cP cR cC : ClassId) (tS : Nat) (m0 : Nat) : Prop := ∀ (sz : Nat) (B : mw_M) (ad : Nat → Nat) (cw : Nat → va_E) (ho : k_ov B ad) (ca : Nat) (cs : List rk_Col) (u : Nat → Nat) (hsv : k_sv cI cC B ad cw ca cs.length u) (hcs3 : cs.length ≤ 3) (hcd : ∀ e, e < cs.length → k_cold cI B ad cw e (cs.getD e rk_col0)) (hKi : ∀ c, c ∈ cs → ∀ x, c.2.1 x = true → rk_in c.1 x) (d Bd : Nat) (hBd : Bd < 256) (hdm : d + m0 = cs.length), Met l y_Sv_countJoined (.code y_Sv_countJoined b_Sv_countJoined 8 (some .int) :: gw) { frames := m0 + 1, cells := 0, slots := 0, locals := 27 * m0 + 24 } (va_Pc [.ref (ad 1), .int (nI d), .int (nI Bd)] (mw_B D k_cl (k_tys cI cZ cP cR cC) (k_g tS) (mw_ov B ad cw 21) sz)) (va_Qi (fun (rr : Int32) (M1 : mw_M) => rr = nI (rk_cj (cs.drop d) (rk_tb Bd) u) ∧ ∃ u1, M1 = mw_ov B ad (va_up cw 8 (.inl (cI, 8, .inl (rk_nf u1)))) 21 ∧ rk_okV u1 ∧ ∀ x, rk_tb Bd x = true → u1 x = u x) (mw_E D k_cl (mw_ov B ad cw 21) sz) (mw_A (mw_ov B ad cw 21) sz)) 0 0 (mw_A (mw_ov B ad cw 21) sz)
theorem va_up_same {c : Nat → va_E} {i : Nat} {e : va_E} (h : c i = e) : va_up c i e = c := by
  funext j
  by_cases hj : j = i
  · rw [hj, va_up_self, h]
  · rw [va_up_ne _ _ hj]
set_option maxHeartbeats 4000000 in
set_option maxRecDepth 100000 in
theorem c_Sv_count_step (l : Launch) (D : va_G) (cI cZ cP cR cC : ClassId) (tS : Nat) (m0 : Nat) (IH : ∀ m1, m0 = m1 + 1 → k_count l D cI cZ cP cR cC tS m1) : k_count l D cI cZ cP cR cC tS m0 := by
  intro sz B ad cw ho ca cs u hsv hcs3 hcd hKi d Bd hBd hdm
  refine mw_met (by decide) rfl (Nat.le_of_ble_eq_true rfl) ?_
  intro p e s m below meth c hsz J hr hlk hnm hK hZ hP hS hA ls hl
  subst hsz
  have hx := J.1
  have hb := J.2.1
  have hts := J.2.2.2.2
  have hl : lv_has ls 8 [(0, .ref (ad 1)), (1, .int (nI d)), (2, .int (nI Bd))] := hl
  obtain ⟨hc1, hc8, hu, fa, hca, hfa⟩ := hsv
  refine lv_iload_n hx hb d_Sv_countJoined_0 rfl (lv_at hl 1 rfl) ?_
  refine lv_aload_n hx hb d_Sv_countJoined_1 rfl (lv_at hl 0 rfl) ?_
  refine mw_get (v := .int (nI cs.length)) (ci := 5) (C := R_Sv) (T := T_Sv) (N := 4) J i_Sv hK hP (mw_ov_is (i := 1) ho.1 (by decide) hc1) rfl 3 (by decide) (hts _ k_132) (fun _ h9 => h9) rfl d_Sv_countJoined_2 ?_
  refine lv_icmp_lt (tgt := 10) hx hb d_Sv_countJoined_5 (by decide) (fun c_5 => ?_) (fun c_5 => ?_)
  · have c_5 : d < cs.length := (nI_ltI (by omega) (by omega)).mp c_5
    obtain ⟨m1, hm1⟩ : ∃ z, m0 = z + 1 := ⟨m0 - 1, by omega⟩
    have hcm := rk_colD_mem c_5
    have hdr := rk_colD_drop c_5
    have hcdd := hcd d c_5
    obtain ⟨c0, ec0⟩ : ∃ z, z = cs.getD d rk_col0 := ⟨_, rfl⟩
    rw [← ec0] at hcm hdr hcdd
    obtain ⟨P, Kf, n, pr, tm⟩ := c0
    obtain ⟨src, K, pl, hko, hKf, hK8, hpp, -, hn3, hpr⟩ := hcdd
    have hKf : Kf = rk_tb K := hKf
    subst hKf
    obtain ⟨hk0, hk1, hk2, -⟩ := hko
    have hn3 : n ≤ 300 := hn3
    have hpr : ∀ i, i < n → pr i < 32768 := hpr
    have hpp : k_pat cI B src P := hpp
    have hKP : ∀ x, rk_tb K x = true → rk_in P x := hKi _ hcm
    have srcp : ∀ c, ∃ b q, mw_ov B ad c 21 src = some (.inr (2, k_pf P b q)) := fun c => by
      obtain ⟨-, b, q, _, _, h, -⟩ := k_pat_mono hpp (k_fr ho c)
      exact ⟨b, q, h⟩
    have hKB : K &&& Bd < 256 := Nat.lt_of_le_of_lt Nat.and_le_left hK8
    have hk0 : cw (9 + 4 * d) = .inr (4, [.ref (ad (9 + 4 * d + 1)), .ref (ad (9 + 4 * d + 2)), .ref (ad (9 + 4 * d + 3)), .ref src, .int (nI K), .int (nI n)]) := hk0
    have hk1 : cw (9 + 4 * d + 1) = .inl (cI, 300, .inl (rk_nf pr)) := hk1
    have hk2 : cw (9 + 4 * d + 2) = .inl (cI, 300, .inl (rk_nf tm)) := hk2
    refine lv_aload_n hx hb d_Sv_countJoined_10 rfl (lv_at hl 0 rfl) ?_
    refine mw_get (v := .ref ca) (ci := 5) (C := R_Sv) (T := T_Sv) (N := 4) J i_Sv hK hP (mw_ov_is (i := 1) ho.1 (by decide) hc1) rfl 2 (by decide) (hts _ k_131) (fun _ h9 => h9) rfl d_Sv_countJoined_11 ?_
    refine lv_iload_n hx hb d_Sv_countJoined_14 rfl (lv_at hl 1 rfl) ?_
    refine mw_aaldN (k := d) (b := (ad (9 + 4 * d))) J hK hP 4 (mw_ov_fr ho.2 hca) rfl (by omega) (by decide) (hfa d (by omega)) d_Sv_countJoined_15 ?_
    refine lv_astore_n (lv' := [(3, .ref (ad (9 + 4 * d))), (0, .ref (ad 1)), (1, .int (nI d)), (2, .int (nI Bd))]) hx hb d_Sv_countJoined_16 rfl hl (by decide) rfl (fun ls hl => ?_)
    refine lv_aload_n hx hb d_Sv_countJoined_17 rfl (lv_at hl 0 rfl) ?_
    refine mw_get (v := .ref src) (ci := 4) (C := R_Co) (T := T_Co) (N := 6) J i_Co hK hP (mw_ov_is (i := (9 + 4 * d)) ho.1 (by omega) hk0) rfl 3 (by decide) (hts _ k_110) (fun _ h9 => h9) rfl d_Sv_countJoined_18 ?_
    refine lv_aload_n hx hb d_Sv_countJoined_21 rfl (lv_at hl 0 rfl) ?_
    refine mw_get (v := .int (nI K)) (ci := 4) (C := R_Co) (T := T_Co) (N := 6) J i_Co hK hP (mw_ov_is (i := (9 + 4 * d)) ho.1 (by omega) hk0) rfl 4 (by decide) (hts _ k_112) (fun _ h9 => h9) rfl d_Sv_countJoined_22 ?_
    refine lv_iload_n hx hb d_Sv_countJoined_25 rfl (lv_at hl 3 rfl) ?_
    refine lv_iand hx hb d_Sv_countJoined_26 ?_
    refine mw_top (x' := nI (K &&& Bd)) (nx_and _ _) ?_
    refine mw_afterI hP hS hA (mw_runV (As := [.int (nI (K &&& Bd))]) (rest := []) J hK hZ hP hS hA (srcp _).choose_spec.choose_spec rfl (c_Pt_maskOf l D cI cZ cP cR cC tS _ (mw_ov B ad cw 21) src P (k_pat_mono hpp (k_fr ho _)) (K &&& Bd) hKB) (cwV 1 hts (mw_gV k_251 k_252 k_253 k_6 k_254) rfl rfl rfl (by decide +kernel) ⟨(by dsimp only; omega), (by dsimp only; omega)⟩) rfl hl.1 rfl (Nat.le_of_ble_eq_true rfl) d_Sv_countJoined_27 ⟨Nat.le_of_ble_eq_true rfl, Nat.le_of_ble_eq_true rfl⟩) (fun r M1 H locs hw hP hS => ?_)
    obtain ⟨rfl, rfl⟩ := hw
    refine lv_istore (lv' := [(4, .int (nI (rk_m (rk_ink P (rk_tb (K &&& Bd)))))), (3, .ref (ad (9 + 4 * d))), (0, .ref (ad 1)), (1, .int (nI d)), (2, .int (nI Bd))]) hx hb d_Sv_countJoined_30 hl (by decide) rfl (fun ls hl => ?_)
    refine lv_aload_n hx hb d_Sv_countJoined_32 rfl (lv_at hl 1 rfl) ?_
    refine mw_get (v := .ref src) (ci := 4) (C := R_Co) (T := T_Co) (N := 6) J i_Co hK hP (mw_ov_is (i := (9 + 4 * d)) ho.1 (by omega) hk0) rfl 3 (by decide) (hts _ k_110) (fun _ h9 => h9) rfl d_Sv_countJoined_33 ?_
    refine lv_aload_n hx hb d_Sv_countJoined_36 rfl (lv_at hl 1 rfl) ?_
    refine mw_get (v := .int (nI K)) (ci := 4) (C := R_Co) (T := T_Co) (N := 6) J i_Co hK hP (mw_ov_is (i := (9 + 4 * d)) ho.1 (by omega) hk0) rfl 4 (by decide) (hts _ k_112) (fun _ h9 => h9) rfl d_Sv_countJoined_37 ?_
    refine lv_iload_n hx hb d_Sv_countJoined_40 rfl (lv_at hl 4 rfl) ?_
    refine lv_iand hx hb d_Sv_countJoined_41 ?_
    refine mw_top (x' := nI (K &&& Bd)) (nx_and _ _) ?_
    refine lv_aload_n hx hb d_Sv_countJoined_42 rfl (lv_at hl 2 rfl) ?_
    refine mw_get (v := .ref (ad 8)) (ci := 5) (C := R_Sv) (T := T_Sv) (N := 4) J i_Sv hK hP (mw_ov_is (i := 1) ho.1 (by decide) hc1) rfl 1 (by decide) (hts _ k_130) (fun _ h9 => h9) rfl d_Sv_countJoined_43 ?_
    refine mw_afterI hP hS hA (mw_runV (As := [.int (nI (K &&& Bd)), .ref (ad 8)]) (rest := []) J hK hZ hP hS hA (srcp _).choose_spec.choose_spec rfl (c_Pt_filled l D cI cZ cP cR cC tS _ (mw_ov B ad cw 21) src P (k_pat_mono hpp (k_fr ho _)) (K &&& Bd) hKB (ad 8) u hu (mw_ov_is (i := 8) ho.1 (by decide) hc8)) (cwV 2 hts (mw_gV k_255 k_256 k_257 k_6 k_258) rfl rfl rfl (by decide +kernel) ⟨(by dsimp only; omega), (by dsimp only; omega)⟩) rfl hl.1 rfl (Nat.le_of_ble_eq_true rfl) d_Sv_countJoined_46 ⟨Nat.le_of_ble_eq_true rfl, Nat.le_of_ble_eq_true rfl⟩) (fun r M1 H locs hw hP hS => ?_)
    obtain ⟨rfl, rfl⟩ := hw
    refine lv_istore (lv' := [(5, .int (nI (rk_v (rk_ink P (rk_tb (K &&& Bd))) (fun j => u (rk_at P j - 32))))), (4, .int (nI (rk_m (rk_ink P (rk_tb (K &&& Bd)))))), (3, .ref (ad (9 + 4 * d))), (0, .ref (ad 1)), (1, .int (nI d)), (2, .int (nI Bd))]) hx hb d_Sv_countJoined_49 hl (by decide) rfl (fun ls hl => ?_)
    refine lv_iconst (v := 0) hx hb d_Sv_countJoined_51 (by decide) ?_
    refine mw_top (x' := nI (rk_sum (List.range 0) (fun i => tm i * rk_if (rk_cons P (fun x => rk_tb K x && rk_tb Bd x) u (pr i)) (rk_cj (cs.drop (d + 1)) (fun x => rk_tb Bd x || rk_tb K x) (rk_bind P (fun x => rk_tb K x && !rk_tb Bd x) (pr i) u))))) nI_0.symm ?_
    refine lv_istore (lv' := [(6, .int (nI (rk_sum (List.range 0) (fun i => tm i * rk_if (rk_cons P (fun x => rk_tb K x && rk_tb Bd x) u (pr i)) (rk_cj (cs.drop (d + 1)) (fun x => rk_tb Bd x || rk_tb K x) (rk_bind P (fun x => rk_tb K x && !rk_tb Bd x) (pr i) u)))))), (5, .int (nI (rk_v (rk_ink P (rk_tb (K &&& Bd))) (fun j => u (rk_at P j - 32))))), (4, .int (nI (rk_m (rk_ink P (rk_tb (K &&& Bd)))))), (3, .ref (ad (9 + 4 * d))), (0, .ref (ad 1)), (1, .int (nI d)), (2, .int (nI Bd))]) hx hb d_Sv_countJoined_52 hl (by decide) rfl (fun ls hl => ?_)
    have hP : mw_P D k_cl (mw_ov B ad (va_up cw 8 (.inl (cI, 8, .inl (rk_nf u)))) 21) (mw_A (mw_ov B ad cw 21) s.heap.size) H := by
      rw [va_up_same hc8]
      exact hP
    refine lv_iconst (v := 0) hx hb d_Sv_countJoined_54 (by decide) ?_
    refine mw_top (x' := nI 0) nI_0.symm ?_
    refine lv_istore (lv' := [(7, .int (nI 0)), (6, .int (nI (rk_sum (List.range 0) (fun i => tm i * rk_if (rk_cons P (fun x => rk_tb K x && rk_tb Bd x) u (pr i)) (rk_cj (cs.drop (d + 1)) (fun x => rk_tb Bd x || rk_tb K x) (rk_bind P (fun x => rk_tb K x && !rk_tb Bd x) (pr i) u)))))), (5, .int (nI (rk_v (rk_ink P (rk_tb (K &&& Bd))) (fun j => u (rk_at P j - 32))))), (4, .int (nI (rk_m (rk_ink P (rk_tb (K &&& Bd)))))), (3, .ref (ad (9 + 4 * d))), (0, .ref (ad 1)), (1, .int (nI d)), (2, .int (nI Bd))]) hx hb d_Sv_countJoined_55 hl (by decide) rfl (fun ls hl => ?_)
    refine mw_loop (W' := fun H locs ls => W p l e _ s m _ below meth c H locs _ _ _ (F0 m 57 ls [])) n (fun i H locs ls => ∃ (u1 : Nat → Nat), lv_has ls 8 [(0, .ref (ad 1)), (1, .int (nI d)), (2, .int (nI Bd)), (3, .ref (ad (9 + 4 * d))), (4, .int (nI (rk_m (rk_ink P (rk_tb (K &&& Bd)))))), (5, .int (nI (rk_v (rk_ink P (rk_tb (K &&& Bd))) (fun j => u (rk_at P j - 32))))), (6, .int (nI (rk_sum (List.range i) (fun i => tm i * rk_if (rk_cons P (fun x => rk_tb K x && rk_tb Bd x) u (pr i)) (rk_cj (cs.drop (d + 1)) (fun x => rk_tb Bd x || rk_tb K x) (rk_bind P (fun x => rk_tb K x && !rk_tb Bd x) (pr i) u)))))), (7, .int (nI i))] ∧ (rk_okV u1) ∧ (∀ x, rk_tb Bd x = true → u1 x = u x) ∧ mw_P D k_cl (mw_ov B ad (va_up cw 8 (.inl (cI, 8, .inl (rk_nf u1)))) 21) (mw_A (mw_ov B ad cw 21) s.heap.size) H ∧ va_S (mw_A (mw_ov B ad cw 21) s.heap.size) s.heap H locs) ?_ n 0 (by omega) (by omega) _ _ _ ⟨u, lv_sub hl [5, 6, 7, 4, 3, 2, 1, 0] rfl, hu, (fun _ _ => rfl), hP, hS⟩
    intro i H locs ls hi_57 hI ih_57
    obtain ⟨u1, hl, hu1, hex, hP, hS⟩ := hI
    refine lv_iload hx hb d_Sv_countJoined_57 (lv_at hl 7 rfl) ?_
    refine lv_aload_n hx hb d_Sv_countJoined_59 rfl (lv_at hl 3 rfl) ?_
    refine mw_get (v := .int (nI n)) (ci := 4) (C := R_Co) (T := T_Co) (N := 6) J i_Co hK hP (mw_ov_is (i := (9 + 4 * d)) ho.1 (by omega) ((va_up_ne _ _ (by omega)).trans hk0)) rfl 5 (by decide) (hts _ k_114) (fun _ h9 => h9) rfl d_Sv_countJoined_60 ?_
    refine lv_icmp_ge (tgt := 139) hx hb d_Sv_countJoined_63 (by decide) (fun c_63 => ?_) (fun c_63 => ?_)
    · have c_63 : n ≤ i := (nI_leI (by omega) (by omega)).mp c_63
      have hin : i = n := by omega
      refine lv_iload hx hb d_Sv_countJoined_139 (lv_at hl 6 rfl) ?_
      exact mw_iret J hr hlk hP hS d_Sv_countJoined_141 (⟨by rw [hdr, hin]; rfl, u1, rfl, hu1, hex⟩)
    · have c_63 : ¬ (n ≤ i) := fun z => c_63 ((nI_leI (by omega) (by omega)).mpr z)
      refine lv_aload_n hx hb d_Sv_countJoined_66 rfl (lv_at hl 3 rfl) ?_
      refine mw_get (v := .ref (ad (9 + 4 * d + 1))) (ci := 4) (C := R_Co) (T := T_Co) (N := 6) J i_Co hK hP (mw_ov_is (i := (9 + 4 * d)) ho.1 (by omega) ((va_up_ne _ _ (by omega)).trans hk0)) rfl 0 (by decide) (hts _ k_105) (fun _ h9 => h9) rfl d_Sv_countJoined_67 ?_
      refine lv_iload hx hb d_Sv_countJoined_70 (lv_at hl 7 rfl) ?_
      refine mw_nald (k := i) J hK hP 0 (mw_ov_is (i := (9 + 4 * d + 1)) ho.1 (by omega) ((va_up_ne _ _ (by omega)).trans hk1)) rfl (by omega) (by decide) d_Sv_countJoined_72 ?_
      refine lv_iload hx hb d_Sv_countJoined_73 (lv_at hl 4 rfl) ?_
      refine lv_iand hx hb d_Sv_countJoined_75 ?_
      refine mw_top (x' := nI (pr i &&& rk_m (rk_ink P (rk_tb (K &&& Bd))))) (nx_and _ _) ?_
      refine lv_iload hx hb d_Sv_countJoined_76 (lv_at hl 5 rfl) ?_
      refine lv_icmp_ne (tgt := 133) hx hb d_Sv_countJoined_78 (by decide) (fun c_78 => ?_) (fun c_78 => ?_)
      · have c_78 : ¬ ((pr i &&& rk_m (rk_ink P (rk_tb (K &&& Bd)))) = (rk_v (rk_ink P (rk_tb (K &&& Bd))) (fun j => u (rk_at P j - 32)))) := fun z => c_78 ((nI_eq (Nat.lt_of_le_of_lt Nat.and_le_left (by have := hpr i (by omega); omega)) (Nat.lt_trans (rk_v_lt (fun j _ => hu _)) (by decide))).mpr z)
        have hcn : ¬ rk_cons P (fun x => rk_tb K x && rk_tb Bd x) u (pr i) := fun z => c_78 ((rk_cons_sel (hpr i (by omega)) hu).mpr (by rw [rk_tb_and]; exact z))
        refine lv_iinc (v := nI (i + 1)) (lv' := [(7, .int (nI (i + 1))), (0, .ref (ad 1)), (1, .int (nI d)), (2, .int (nI Bd)), (3, .ref (ad (9 + 4 * d))), (4, .int (nI (rk_m (rk_ink P (rk_tb (K &&& Bd)))))), (5, .int (nI (rk_v (rk_ink P (rk_tb (K &&& Bd))) (fun j => u (rk_at P j - 32))))), (6, .int (nI (rk_sum (List.range i) (fun i => tm i * rk_if (rk_cons P (fun x => rk_tb K x && rk_tb Bd x) u (pr i)) (rk_cj (cs.drop (d + 1)) (fun x => rk_tb Bd x || rk_tb K x) (rk_bind P (fun x => rk_tb K x && !rk_tb Bd x) (pr i) u))))))]) hx hb d_Sv_countJoined_133 hl (k := 7) rfl (nI_1 i) (by decide) rfl (fun ls hl => ?_)
        refine lv_goto (tgt := 57) hx hb d_Sv_countJoined_136 (by decide) ?_
        exact ih_57 _ _ _ (by omega) ⟨u1, (by rw [rk_range_sum, rk_if_f hcn, Nat.mul_zero, Nat.add_zero]; exact lv_sub hl [1, 2, 3, 4, 5, 6, 7, 0] rfl), hu1, hex, hP, hS⟩
      · have c_78 : (pr i &&& rk_m (rk_ink P (rk_tb (K &&& Bd)))) = (rk_v (rk_ink P (rk_tb (K &&& Bd))) (fun j => u (rk_at P j - 32))) := (nI_eq (Nat.lt_of_le_of_lt Nat.and_le_left (by have := hpr i (by omega); omega)) (Nat.lt_trans (rk_v_lt (fun j _ => hu _)) (by decide))).mp c_78
        have hcn : rk_cons P (fun x => rk_tb K x && rk_tb Bd x) u (pr i) := by rw [← rk_tb_and]; exact (rk_cons_sel (hpr i (by omega)) hu).mp c_78
        refine lv_aload_n hx hb d_Sv_countJoined_81 rfl (lv_at hl 3 rfl) ?_
        refine mw_get (v := .ref src) (ci := 4) (C := R_Co) (T := T_Co) (N := 6) J i_Co hK hP (mw_ov_is (i := (9 + 4 * d)) ho.1 (by omega) ((va_up_ne _ _ (by omega)).trans hk0)) rfl 3 (by decide) (hts _ k_110) (fun _ h9 => h9) rfl d_Sv_countJoined_82 ?_
        refine lv_aload_n hx hb d_Sv_countJoined_85 rfl (lv_at hl 3 rfl) ?_
        refine mw_get (v := .ref (ad (9 + 4 * d + 1))) (ci := 4) (C := R_Co) (T := T_Co) (N := 6) J i_Co hK hP (mw_ov_is (i := (9 + 4 * d)) ho.1 (by omega) ((va_up_ne _ _ (by omega)).trans hk0)) rfl 0 (by decide) (hts _ k_105) (fun _ h9 => h9) rfl d_Sv_countJoined_86 ?_
        refine lv_iload hx hb d_Sv_countJoined_89 (lv_at hl 7 rfl) ?_
        refine mw_nald (k := i) J hK hP 0 (mw_ov_is (i := (9 + 4 * d + 1)) ho.1 (by omega) ((va_up_ne _ _ (by omega)).trans hk1)) rfl (by omega) (by decide) d_Sv_countJoined_91 ?_
        refine lv_aload_n hx hb d_Sv_countJoined_92 rfl (lv_at hl 3 rfl) ?_
        refine mw_get (v := .int (nI K)) (ci := 4) (C := R_Co) (T := T_Co) (N := 6) J i_Co hK hP (mw_ov_is (i := (9 + 4 * d)) ho.1 (by omega) ((va_up_ne _ _ (by omega)).trans hk0)) rfl 4 (by decide) (hts _ k_112) (fun _ h9 => h9) rfl d_Sv_countJoined_93 ?_
        refine lv_iload_n hx hb d_Sv_countJoined_96 rfl (lv_at hl 2 rfl) ?_
        refine lv_iconst (v := (-1)) hx hb d_Sv_countJoined_97 (by decide) ?_
        refine lv_ixor hx hb d_Sv_countJoined_98 ?_
        refine lv_iand hx hb d_Sv_countJoined_99 ?_
        refine mw_top (x' := nI (rk_an K Bd)) (rk_an_i _ _) ?_
        refine lv_aload_n hx hb d_Sv_countJoined_100 rfl (lv_at hl 0 rfl) ?_
        refine mw_get (v := .ref (ad 8)) (ci := 5) (C := R_Sv) (T := T_Sv) (N := 4) J i_Sv hK hP (mw_ov_is (i := 1) ho.1 (by decide) hc1) rfl 1 (by decide) (hts _ k_130) (fun _ h9 => h9) rfl d_Sv_countJoined_101 ?_
        refine mw_afterV hP hS hA (mw_runV (As := [.int (nI (pr i)), .int (nI (rk_an K Bd)), .ref (ad 8)]) (rest := []) J hK hZ hP hS hA (srcp _).choose_spec.choose_spec rfl (c_Pt_bind l D cI cZ cP cR cC tS _ (mw_ov B ad (va_up cw 8 (.inl (cI, 8, .inl (rk_nf u1)))) 21) src P (k_pat_mono hpp (k_fr ho _)) (pr i) (hpr i (by omega)) (rk_an K Bd) (rk_an_lt hK8) (ad 8) u1 hu1 (mw_ov_is (i := 8) ho.1 (by decide) rfl)) (cwV 3 hts (mw_gV k_243 k_244 k_245 k_6 k_246) rfl rfl rfl (by decide +kernel) ⟨(by dsimp only; omega), (by dsimp only; omega)⟩) rfl hl.1 rfl (Nat.le_of_ble_eq_true rfl) d_Sv_countJoined_104 ⟨Nat.le_of_ble_eq_true rfl, Nat.le_of_ble_eq_true rfl⟩) (fun M1 H locs hw hP hS => ?_)
        obtain rfl := hw
        rw [mw_ov_set ho.1 (by decide), bx_uu] at hP
        obtain ⟨u2, eu2⟩ : ∃ z, z = rk_bind P (rk_tb (rk_an K Bd)) (pr i) u1 := ⟨_, rfl⟩
        rw [← eu2] at hP
        have hu2 : rk_okV u2 := by rw [eu2]; exact rk_bind_ok hu1
        have he2 : ∀ x, (rk_tb Bd x || rk_tb K x) = true → u2 x = rk_bind P (fun x => rk_tb K x && !rk_tb Bd x) (pr i) u x := by rw [eu2, rk_tb_an]; exact rk_bind_ext hKP hex
        have he3 : ∀ x, rk_tb Bd x = true → u2 x = u x := fun x hx => by rw [he2 x (by simp [hx]), rk_bind_off (by simp [hx])]
        refine lv_iload hx hb d_Sv_countJoined_107 (lv_at hl 6 rfl) ?_
        refine lv_aload_n hx hb d_Sv_countJoined_109 rfl (lv_at hl 3 rfl) ?_
        refine mw_get (v := .ref (ad (9 + 4 * d + 2))) (ci := 4) (C := R_Co) (T := T_Co) (N := 6) J i_Co hK hP (mw_ov_is (i := (9 + 4 * d)) ho.1 (by omega) ((va_up_ne _ _ (by omega)).trans hk0)) rfl 1 (by decide) (hts _ k_107) (fun _ h9 => h9) rfl d_Sv_countJoined_110 ?_
        refine lv_iload hx hb d_Sv_countJoined_113 (lv_at hl 7 rfl) ?_
        refine mw_nald (k := i) J hK hP 0 (mw_ov_is (i := (9 + 4 * d + 2)) ho.1 (by omega) ((va_up_ne _ _ (by omega)).trans hk2)) rfl (by omega) (by decide) d_Sv_countJoined_115 ?_
        refine lv_aload_n hx hb d_Sv_countJoined_116 rfl (lv_at hl 0 rfl) ?_
        refine lv_iload_n hx hb d_Sv_countJoined_117 rfl (lv_at hl 1 rfl) ?_
        refine lv_iconst (v := 1) hx hb d_Sv_countJoined_118 (by decide) ?_
        refine mw_top (x' := nI 1) rfl ?_
        refine lv_iadd hx hb d_Sv_countJoined_119 ?_
        refine mw_top (x' := nI (d + 1)) (nI_add _ _) ?_
        refine lv_iload_n hx hb d_Sv_countJoined_120 rfl (lv_at hl 2 rfl) ?_
        refine lv_aload_n hx hb d_Sv_countJoined_121 rfl (lv_at hl 3 rfl) ?_
        refine mw_get (v := .int (nI K)) (ci := 4) (C := R_Co) (T := T_Co) (N := 6) J i_Co hK hP (mw_ov_is (i := (9 + 4 * d)) ho.1 (by omega) ((va_up_ne _ _ (by omega)).trans hk0)) rfl 4 (by decide) (hts _ k_112) (fun _ h9 => h9) rfl d_Sv_countJoined_122 ?_
        refine lv_ior hx hb d_Sv_countJoined_125 ?_
        refine mw_top (x' := nI (Bd ||| K)) (nx_or _ _) ?_
        refine mw_afterI hP hS hA (mw_runS (As := [.ref (ad 1), .int (nI (d + 1)), .int (nI (Bd ||| K))]) (rest := [.int (nI (tm i)), .int (nI (rk_sum (List.range i) (fun i => tm i * rk_if (rk_cons P (fun x => rk_tb K x && rk_tb Bd x) u (pr i)) (rk_cj (cs.drop (d + 1)) (fun x => rk_tb Bd x || rk_tb K x) (rk_bind P (fun x => rk_tb K x && !rk_tb Bd x) (pr i) u)))))]) J hK hZ hP hS hA (IH m1 hm1 _ B ad (va_up cw 8 (.inl (cI, 8, .inl (rk_nf u2)))) ho ca cs u2 ⟨hc1, rfl, hu2, fa, hca, hfa⟩ hcs3 (fun e he => k_cold_same (hcd e he) (fun z hz => va_up_ne _ _ (by omega))) hKi (d + 1) (Bd ||| K) (rk_or_lt hBd hK8) (by omega)) (cwS 3 hts (mw_gS k_351 k_352 k_2 k_353) rfl rfl rfl (by decide +kernel) ⟨(by dsimp only; omega), (by dsimp only; omega)⟩) rfl hl.1 rfl (Nat.le_of_ble_eq_true rfl) d_Sv_countJoined_126 ⟨Nat.le_of_ble_eq_true rfl, Nat.le_of_ble_eq_true rfl⟩) (fun r M1 H locs hw hP hS => ?_)
        obtain ⟨rfl, u3, rfl, hu3, he4⟩ := hw
        rw [bx_uu] at hP
        refine mw_top (x' := nI (rk_cj (cs.drop (d + 1)) (fun x => rk_tb Bd x || rk_tb K x) (rk_bind P (fun x => rk_tb K x && !rk_tb Bd x) (pr i) u))) (by congr 1; rw [rk_tb_or]; exact rk_cj_congr (fun c hc => hKi c (List.mem_of_mem_drop hc)) he2) ?_
        refine lv_imul hx hb d_Sv_countJoined_129 ?_
        refine mw_top (x' := nI (tm i * (rk_cj (cs.drop (d + 1)) (fun x => rk_tb Bd x || rk_tb K x) (rk_bind P (fun x => rk_tb K x && !rk_tb Bd x) (pr i) u)))) (pk_mul _ _) ?_
        refine lv_iadd hx hb d_Sv_countJoined_130 ?_
        refine mw_top (x' := nI (rk_sum (List.range (i + 1)) (fun i => tm i * rk_if (rk_cons P (fun x => rk_tb K x && rk_tb Bd x) u (pr i)) (rk_cj (cs.drop (d + 1)) (fun x => rk_tb Bd x || rk_tb K x) (rk_bind P (fun x => rk_tb K x && !rk_tb Bd x) (pr i) u))))) (by rw [nI_add, rk_range_sum, rk_if_t hcn]) ?_
        refine lv_istore (lv' := [(6, .int (nI (rk_sum (List.range (i + 1)) (fun i => tm i * rk_if (rk_cons P (fun x => rk_tb K x && rk_tb Bd x) u (pr i)) (rk_cj (cs.drop (d + 1)) (fun x => rk_tb Bd x || rk_tb K x) (rk_bind P (fun x => rk_tb K x && !rk_tb Bd x) (pr i) u)))))), (0, .ref (ad 1)), (1, .int (nI d)), (2, .int (nI Bd)), (3, .ref (ad (9 + 4 * d))), (4, .int (nI (rk_m (rk_ink P (rk_tb (K &&& Bd)))))), (5, .int (nI (rk_v (rk_ink P (rk_tb (K &&& Bd))) (fun j => u (rk_at P j - 32))))), (7, .int (nI i))]) hx hb d_Sv_countJoined_131 hl (by decide) rfl (fun ls hl => ?_)
        refine lv_iinc (v := nI (i + 1)) (lv' := [(7, .int (nI (i + 1))), (6, .int (nI (rk_sum (List.range (i + 1)) (fun i => tm i * rk_if (rk_cons P (fun x => rk_tb K x && rk_tb Bd x) u (pr i)) (rk_cj (cs.drop (d + 1)) (fun x => rk_tb Bd x || rk_tb K x) (rk_bind P (fun x => rk_tb K x && !rk_tb Bd x) (pr i) u)))))), (0, .ref (ad 1)), (1, .int (nI d)), (2, .int (nI Bd)), (3, .ref (ad (9 + 4 * d))), (4, .int (nI (rk_m (rk_ink P (rk_tb (K &&& Bd)))))), (5, .int (nI (rk_v (rk_ink P (rk_tb (K &&& Bd))) (fun j => u (rk_at P j - 32)))))]) hx hb d_Sv_countJoined_133 hl (k := 7) rfl (nI_1 i) (by decide) rfl (fun ls hl => ?_)
        refine lv_goto (tgt := 57) hx hb d_Sv_countJoined_136 (by decide) ?_
        exact ih_57 _ _ _ (by omega) ⟨u3, lv_sub hl [2, 3, 4, 5, 6, 7, 1, 0] rfl, hu3, (fun x hx => by rw [he4 x (by rw [rk_tb_or]; simp [hx]), he3 x hx]), hP, hS⟩
  · have c_5 : ¬ (d < cs.length) := fun z => c_5 ((nI_ltI (by omega) (by omega)).mpr z)
    have hdr : cs.drop d = [] := List.drop_eq_nil_of_le (by omega)
    refine lv_iconst (v := 1) hx hb d_Sv_countJoined_8 (by decide) ?_
    exact mw_iret J hr hlk hP hS d_Sv_countJoined_9 (⟨by rw [hdr]; rfl, u, by rw [va_up_same hc8], hu, fun _ _ => rfl⟩)
theorem c_Sv_count (l : Launch) (D : va_G) (cI cZ cP cR cC : ClassId) (tS : Nat) : ∀ m0, k_count l D cI cZ cP cR cC tS m0
  | 0 => c_Sv_count_step l D cI cZ cP cR cC tS 0 (fun m1 h => absurd h (by omega))
  | m0 + 1 => c_Sv_count_step l D cI cZ cP cR cC tS (m0 + 1) (fun m1 h => by
    have e : m1 = m0 := by omega
    rw [e]
    exact c_Sv_count l D cI cZ cP cR cC tS m0)
end
section
/-! what a join rests on, all of it -/
def rk_jn (L0 : List Nat) (B0 : Nat → Bool) (u0 : Nat → Nat) (hd : rk_Pt) (cs : List rk_Col) (B : Nat → Bool) (u : Nat → Nat) : Prop :=
  rk_okV u ∧ (∀ x, B0 x = true → B x = true ∧ u0 x = u x) ∧ (∀ c, c ∈ cs → rk_colok L0 B0 u0 c) ∧ cs.Pairwise (rk_shr2 B0) ∧ (∀ c, c ∈ cs → ∀ x, rk_in c.1 x → B x = true → B0 x = true ∨ c.2.1 x = true) ∧ (∀ c, c ∈ cs → ∀ x, rk_in hd x → rk_in c.1 x → c.2.1 x = true ∨ B x = true) ∧ ∀ x, rk_in hd x → B x = true ∨ ∃ c, c ∈ cs ∧ c.2.1 x = true
theorem rk_jn_step {L0 : List Nat} {B0 : Nat → Bool} {u0 : Nat → Nat} {hd : rk_Pt} {c : rk_Col} {cs : List rk_Col} {B : Nat → Bool} {u : Nat → Nat} (h : rk_jn L0 B0 u0 hd (c :: cs) B u) (p : Nat) : rk_jn L0 B0 u0 hd cs (fun x => B x || c.2.1 x) (rk_bind c.1 (fun x => c.2.1 x && !B x) p u) := by
  obtain ⟨h1, h2, h3, h4, h5, h6, h7⟩ := h
  have hp1 := (List.pairwise_cons.mp h4).1
  refine ⟨rk_bind_ok h1, fun x hx => ⟨by simp [(h2 x hx).1], by rw [rk_bind_off (by simp [(h2 x hx).1])]; exact (h2 x hx).2⟩, fun d hd' => h3 d (List.mem_cons_of_mem _ hd'), (List.pairwise_cons.mp h4).2, fun d hd' x hx hB => ?_, fun d hd' x hx hin => ?_, fun x hx => ?_⟩
  · by_cases hB1 : B x = true
    · exact h5 d (List.mem_cons_of_mem _ hd') x hx hB1
    · have hKx : c.2.1 x = true := by
        simp at hB
        rcases hB with z | z
        · exact absurd z hB1
        · exact z
      exact ((hp1 d hd' x ((h3 c List.mem_cons_self).2.2 x hKx) hx).2).symm
  · rcases h6 d (List.mem_cons_of_mem _ hd') x hx hin with z | z
    · exact Or.inl z
    · exact Or.inr (by simp [z])
  · rcases h7 x hx with z | ⟨d, hd', hz⟩
    · exact Or.inl (by simp [z])
    · rcases List.mem_cons.mp hd' with rfl | h
      · exact Or.inl (by simp [hz])
      · exact Or.inr ⟨d, h, hz⟩
theorem rk_jn_congr {L0 : List Nat} {B0 : Nat → Bool} {u0 : Nat → Nat} {hd : rk_Pt} {cs : List rk_Col} {B : Nat → Bool} {u u' : Nat → Nat} (h : rk_jn L0 B0 u0 hd cs B u) (hu' : rk_okV u') (he : ∀ x, B x = true → u' x = u x) : rk_jn L0 B0 u0 hd cs B u' :=
  ⟨hu', fun x hx => ⟨(h.2.1 x hx).1, by rw [he x (h.2.1 x hx).1]; exact (h.2.1 x hx).2⟩, h.2.2⟩
theorem rk_hd_congr {L : List Nat} {hd : rk_Pt} {cs : List rk_Col} {B : Nat → Bool} {u u' : Nat → Nat} (he : ∀ x, B x = true → u' x = u x) (z : Nat) : rk_hd L hd cs B u' z ↔ rk_hd L hd cs B u z := by
  constructor
  · rintro ⟨v, h1, h2, h3⟩
    exact ⟨v, h1, fun x hx => by rw [h2 x hx, he x hx], h3⟩
  · rintro ⟨v, h1, h2, h3⟩
    exact ⟨v, h1, fun x hx => by rw [h2 x hx, he x hx], h3⟩
theorem rk_hd_jn {L0 : List Nat} (hL : ∀ k, k ∈ L0 → k < 32768) {B0 : Nat → Bool} {u0 : Nat → Nat} {hd : rk_Pt} {c : rk_Col} {cs : List rk_Col} {B : Nat → Bool} {u : Nat → Nat} (h : rk_jn L0 B0 u0 hd (c :: cs) B u) (z : Nat) :
    rk_hd L0 hd (c :: cs) B u z ↔ ∃ i, i < c.2.2.1 ∧ rk_cons c.1 (fun x => c.2.1 x && B x) u (c.2.2.2.1 i) ∧ rk_hd L0 hd cs (fun x => B x || c.2.1 x) (rk_bind c.1 (fun x => c.2.1 x && !B x) (c.2.2.2.1 i) u) z :=
  rk_hd_step hL h.1 h.2.1 (h.2.2.1 c List.mem_cons_self) (List.pairwise_cons.mp h.2.2.2.1).1 (h.2.2.2.2.1 c List.mem_cons_self) (fun x hx hin => h.2.2.2.2.2.1 c List.mem_cons_self x hx hin) z
/-- the code of a head whose variables are known -/
theorem rk_code_hd {P : rk_Pt} {B : Nat → Bool} {u : Nat → Nat} (hk : ∀ x, rk_in P x → B x = true) : rk_v (fun j => rk_num P j || rk_ink P B j) (rk_wt P u) = rk_inst P u := by
  have key : ∀ j, j < 3 → (rk_num P j || rk_ink P B j) = true ∧ rk_wt P u j = rk_val (rk_at P j) u := by
    intro j hj
    by_cases h : rk_at P j < 32
    · refine ⟨by simp [rk_num, h], ?_⟩
      unfold rk_wt rk_val
      rw [if_pos (by simp [rk_num, h]), if_pos h]
    · refine ⟨?_, ?_⟩
      · have := rk_ink_of (P := P) (S := B) (j := j) (x := rk_at P j - 32) (by omega) (hk _ ⟨j, hj, by omega⟩)
        simp [this]
      · unfold rk_wt rk_val
        rw [if_neg (by simp [rk_num, h]), if_neg h]
  unfold rk_v rk_inst
  rw [if_pos (key 0 (by decide)).1, if_pos (key 1 (by decide)).1, if_pos (key 2 (by decide)).1, (key 0 (by decide)).2, (key 1 (by decide)).2, (key 2 (by decide)).2]
  rfl
end
section
/-! Solver.addJoined, by induction on the columns that are left -/
def k_addj (l : Launch) (D : va_G) (cI cZ cP cR cC : ClassId) (tS : Nat) (m0 : Nat) : Prop := ∀ (sz : Nat) (B : mw_M) (ad : Nat → Nat) (cw : Nat → va_E) (pm : Nat) (L : List Nat) (ho : k_ov B ad) (hpm : B pm = some (.inr (0, [.ref (ad 4)]))) (ht : k_tr cI ad cw pm L) (ca : Nat) (cs : List rk_Col) (u : Nat → Nat) (hsv : k_sv cI cC B ad cw ca cs.length u) (hcs3 : cs.length ≤ 3) (hcd : ∀ e, e < cs.length → k_cold cI B ad cw e (cs.getD e rk_col0)) (ra : Nat) (r : rk_Ru) (hrule : k_rule cI cP B ra r) (d Bd : Nat) (hBd : Bd < 256) (hdm : d + m0 = cs.length) (L0 : List Nat) (hL0 : ∀ k, k ∈ L0 → k < 32768) (B0 : Nat → Bool) (u0 : Nat → Nat) (hjn : rk_jn L0 B0 u0 r.2 (cs.drop d) (rk_tb Bd) u), Met l y_Sv_addJoined (.code y_Sv_addJoined b_Sv_addJoined 10 (some .boolean) :: gw) { frames := m0 + 2, cells := 0, slots := 0, locals := 29 * m0 + 42 } (va_Pc [.ref (ad 1), .ref ra, .int (nI d), .int (nI Bd)] (mw_B D k_cl (k_tys cI cZ cP cR cC) (k_g tS) (mw_ov B ad cw 21) sz)) (va_Qi (fun (rr : Int32) (M1 : mw_M) => ∃ cw1 N1 u1, M1 = mw_ov B ad cw1 21 ∧ k_tr cI ad cw1 pm (L ++ N1) ∧ k_sv cI cC B ad cw1 ca cs.length u1 ∧ (∀ x, rk_tb Bd x = true → u1 x = u x) ∧ (∀ i, i ≠ 2 → i ≠ 3 → i ≠ 4 → i ≠ 8 → cw1 i = cw i) ∧ (∀ z, z ∈ N1 → rk_hd L0 r.2 (cs.drop d) (rk_tb Bd) u z) ∧ ((rr = 1 ∧ ∀ z, rk_hd L0 r.2 (cs.drop d) (rk_tb Bd) u z → z ∈ L ++ N1) ∨ (rr = 0 ∧ (L ++ N1).length = 300 ∧ ∃ z, rk_hd L0 r.2 (cs.drop d) (rk_tb Bd) u z ∧ z ∉ L ++ N1))) (mw_E D k_cl (mw_ov B ad cw 21) sz) (mw_A (mw_ov B ad cw 21) sz)) 0 0 (mw_A (mw_ov B ad cw 21) sz)
set_option maxHeartbeats 4000000 in
set_option maxRecDepth 100000 in
theorem c_Sv_addj_step (l : Launch) (D : va_G) (cI cZ cP cR cC : ClassId) (tS : Nat) (m0 : Nat) (IH : ∀ m1, m0 = m1 + 1 → k_addj l D cI cZ cP cR cC tS m1) : k_addj l D cI cZ cP cR cC tS m0 := by
  intro sz B ad cw pm L ho hpm ht ca cs u hsv hcs3 hcd ra r hrule d Bd hBd hdm L0 hL0 B0 u0 hjn
  refine mw_met (by decide) rfl (Nat.le_of_ble_eq_true rfl) ?_
  intro p e s m below meth c hsz J hr hlk hnm hK hZ hP hS hA ls hl
  subst hsz
  have hx := J.1
  have hb := J.2.1
  have hts := J.2.2.2.2
  have hl : lv_has ls 10 [(0, .ref (ad 1)), (1, .ref ra), (2, .int (nI d)), (3, .int (nI Bd))] := hl
  obtain ⟨hc1, hc8, hu, fa, hca, hfa⟩ := id hsv
  obtain ⟨fc, w, hc2, -⟩ := id ht
  obtain ⟨hr3, bo, hdp, sh, fo, fs, hr1, hr2, hr4, hrh, hfo, hfs⟩ := id hrule
  have hdok := hrh.1
  have hdpp : ∀ c, ∃ b q, mw_ov B ad c 21 hdp = some (.inr (2, k_pf r.2 b q)) := fun c => by
    obtain ⟨-, b, q, _, _, h, -⟩ := k_pat_mono hrh (k_fr ho c)
    exact ⟨b, q, h⟩
  refine lv_aload_n hx hb d_Sv_addJoined_0 rfl (lv_at hl 1 rfl) ?_
  refine mw_get (v := .ref hdp) (ci := 3) (C := R_Ru) (T := T_Ru) (N := 3) J i_Ru hK hP (mw_ov_fr ho.2 hr1) rfl 1 (by decide) (hts _ k_158) (fun _ h9 => h9) rfl d_Sv_addJoined_1 ?_
  refine mw_get (v := .int (nI (rk_vars r.2))) (ci := 2) (C := R_Pt) (T := T_Pt) (N := 8) J i_Pt hK hP (hdpp _).choose_spec.choose_spec rfl 2 (by decide) (hts _ k_76) (fun _ h9 => h9) rfl d_Sv_addJoined_4 ?_
  refine lv_iload_n hx hb d_Sv_addJoined_7 rfl (lv_at hl 3 rfl) ?_
  refine lv_iconst (v := (-1)) hx hb d_Sv_addJoined_8 (by decide) ?_
  refine lv_ixor hx hb d_Sv_addJoined_9 ?_
  refine lv_iand hx hb d_Sv_addJoined_10 ?_
  refine mw_top (x' := nI (rk_an (rk_vars r.2) Bd)) (rk_an_i _ _) ?_
  refine lv_if_ne (tgt := 18) hx hb d_Sv_addJoined_11 (by decide) (fun c_11 => ?_) (fun c_11 => ?_)
  · have hkn : ¬ ∀ x, rk_in r.2 x → rk_tb Bd x = true := fun z => c_11 ((rk_nI0 (Nat.lt_trans (rk_an_lt (rk_vars_lt hdok)) (by decide))).mpr (rk_an_0.mpr (fun x hx => z x (rk_vars_tb.mp hx))))
    refine lv_iconst (v := 0) hx hb d_Sv_addJoined_18 (by decide) ?_
    refine lv_istore (lv' := [(4, .int 0), (0, .ref (ad 1)), (1, .ref ra), (2, .int (nI d)), (3, .int (nI Bd))]) hx hb d_Sv_addJoined_19 hl (by decide) rfl (fun ls hl => ?_)
    refine lv_aload_n hx hb d_Sv_addJoined_21 rfl (lv_at hl 2 rfl) ?_
    refine mw_get (v := .ref hdp) (ci := 3) (C := R_Ru) (T := T_Ru) (N := 3) J i_Ru hK hP (mw_ov_fr ho.2 hr1) rfl 1 (by decide) (hts _ k_158) (fun _ h9 => h9) rfl d_Sv_addJoined_22 ?_
    refine mw_get (v := .int (nI (rk_v (rk_num r.2) (rk_at r.2)))) (ci := 2) (C := R_Pt) (T := T_Pt) (N := 8) J i_Pt hK hP (hdpp _).choose_spec.choose_spec rfl 4 (by decide) (hts _ k_83) (fun _ h9 => h9) rfl d_Sv_addJoined_25 ?_
    refine lv_aload_n hx hb d_Sv_addJoined_28 rfl (lv_at hl 2 rfl) ?_
    refine mw_get (v := .ref hdp) (ci := 3) (C := R_Ru) (T := T_Ru) (N := 3) J i_Ru hK hP (mw_ov_fr ho.2 hr1) rfl 1 (by decide) (hts _ k_158) (fun _ h9 => h9) rfl d_Sv_addJoined_29 ?_
    refine lv_iload_n hx hb d_Sv_addJoined_32 rfl (lv_at hl 4 rfl) ?_
    refine lv_aload_n hx hb d_Sv_addJoined_33 rfl (lv_at hl 1 rfl) ?_
    refine mw_get (v := .ref (ad 8)) (ci := 5) (C := R_Sv) (T := T_Sv) (N := 4) J i_Sv hK hP (mw_ov_is (i := 1) ho.1 (by decide) hc1) rfl 1 (by decide) (hts _ k_130) (fun _ h9 => h9) rfl d_Sv_addJoined_34 ?_
    refine mw_afterI hP hS hA (mw_runV (As := [.int (nI Bd), .ref (ad 8)]) (rest := [.int (nI (rk_v (rk_num r.2) (rk_at r.2)))]) J hK hZ hP hS hA (hdpp _).choose_spec.choose_spec rfl (c_Pt_filled l D cI cZ cP cR cC tS _ (mw_ov B ad cw 21) hdp r.2 (k_pat_mono hrh (k_fr ho _)) Bd hBd (ad 8) u hu (mw_ov_is (i := 8) ho.1 (by decide) hc8)) (cwV 2 hts (mw_gV k_255 k_256 k_257 k_6 k_258) rfl rfl rfl (by decide +kernel) ⟨(by dsimp only; omega), (by dsimp only; omega)⟩) rfl hl.1 rfl (Nat.le_of_ble_eq_true rfl) d_Sv_addJoined_37 ⟨Nat.le_of_ble_eq_true rfl, Nat.le_of_ble_eq_true rfl⟩) (fun r M1 H locs hw hP hS => ?_)
    obtain ⟨rfl, rfl⟩ := hw
    refine lv_ior hx hb d_Sv_addJoined_40 ?_
    refine mw_top (x' := nI (rk_v (fun j => rk_num r.2 j || rk_ink r.2 (rk_tb Bd) j) (rk_wt r.2 u))) (by rw [nx_or, rk_want hu]) ?_
    refine lv_istore (lv' := [(5, .int (nI (rk_v (fun j => rk_num r.2 j || rk_ink r.2 (rk_tb Bd) j) (rk_wt r.2 u)))), (4, .int 0), (0, .ref (ad 1)), (1, .ref ra), (2, .int (nI d)), (3, .int (nI Bd))]) hx hb d_Sv_addJoined_41 hl (by decide) rfl (fun ls hl => ?_)
    refine lv_iload hx hb d_Sv_addJoined_43 (lv_at hl 1 rfl) ?_
    refine lv_if_eq (tgt := 62) hx hb d_Sv_addJoined_45 (by decide) (fun c_45 => ?_) (fun c_45 => ?_)
    · refine lv_iload_n hx hb d_Sv_addJoined_62 rfl (lv_at hl 4 rfl) ?_
      refine lv_aload_n hx hb d_Sv_addJoined_63 rfl (lv_at hl 2 rfl) ?_
      refine mw_get (v := .int (nI cs.length)) (ci := 5) (C := R_Sv) (T := T_Sv) (N := 4) J i_Sv hK hP (mw_ov_is (i := 1) ho.1 (by decide) hc1) rfl 3 (by decide) (hts _ k_132) (fun _ h9 => h9) rfl d_Sv_addJoined_64 ?_
      refine lv_icmp_lt (tgt := 80) hx hb d_Sv_addJoined_67 (by decide) (fun c_67 => ?_) (fun c_67 => ?_)
      · have c_67 : d < cs.length := (nI_ltI (by omega) (by omega)).mp c_67
        obtain ⟨m1, hm1⟩ : ∃ z, m0 = z + 1 := ⟨m0 - 1, by omega⟩
        have hdr := rk_colD_drop c_67
        have hcdd := hcd d c_67
        obtain ⟨c0, ec0⟩ : ∃ z, z = cs.getD d rk_col0 := ⟨_, rfl⟩
        rw [← ec0] at hdr hcdd
        rw [hdr] at hjn
        have hstep := rk_hd_jn hL0 hjn
        have hjs := rk_jn_step hjn
        have hKi := (hjn.2.2.1 c0 List.mem_cons_self).2.2
        obtain ⟨P, Kf, n, pr, tm⟩ := c0
        obtain ⟨src, K, pl, hko, hKf, hK8, hpp, -, hn3, hpr⟩ := hcdd
        have hKf : Kf = rk_tb K := hKf
        subst hKf
        obtain ⟨hk0, hk1, -, -⟩ := hko
        have hn3 : n ≤ 300 := hn3
        have hpr : ∀ i, i < n → pr i < 32768 := hpr
        have hpp : k_pat cI B src P := hpp
        have hKP : ∀ x, rk_tb K x = true → rk_in P x := hKi
        have hstep : ∀ z, rk_hd L0 r.2 ((P, rk_tb K, n, pr, tm) :: cs.drop (d + 1)) (rk_tb Bd) u z ↔ ∃ i, i < n ∧ rk_cons P (fun x => rk_tb K x && rk_tb Bd x) u (pr i) ∧ rk_hd L0 r.2 (cs.drop (d + 1)) (fun x => rk_tb Bd x || rk_tb K x) (rk_bind P (fun x => rk_tb K x && !rk_tb Bd x) (pr i) u) z := hstep
        rw [← hdr] at hstep
        have hjs : ∀ p, rk_jn L0 B0 u0 r.2 (cs.drop (d + 1)) (fun x => rk_tb Bd x || rk_tb K x) (rk_bind P (fun x => rk_tb K x && !rk_tb Bd x) p u) := hjs
        have srcp : ∀ c, ∃ b q, mw_ov B ad c 21 src = some (.inr (2, k_pf P b q)) := fun c => by
          obtain ⟨-, b, q, _, _, h, -⟩ := k_pat_mono hpp (k_fr ho c)
          exact ⟨b, q, h⟩
        have hKB : K &&& Bd < 256 := Nat.lt_of_le_of_lt Nat.and_le_left hK8
        have hk0 : cw (9 + 4 * d) = .inr (4, [.ref (ad (9 + 4 * d + 1)), .ref (ad (9 + 4 * d + 2)), .ref (ad (9 + 4 * d + 3)), .ref src, .int (nI K), .int (nI n)]) := hk0
        have hk1 : cw (9 + 4 * d + 1) = .inl (cI, 300, .inl (rk_nf pr)) := hk1
        have hoth : ∀ i, i ≠ 2 → i ≠ 3 → i ≠ 4 → i ≠ 8 → cw i = cw i := fun _ _ _ _ _ => rfl
        refine lv_aload_n hx hb d_Sv_addJoined_80 rfl (lv_at hl 2 rfl) ?_
        refine mw_get (v := .ref ca) (ci := 5) (C := R_Sv) (T := T_Sv) (N := 4) J i_Sv hK hP (mw_ov_is (i := 1) ho.1 (by decide) hc1) rfl 2 (by decide) (hts _ k_131) (fun _ h9 => h9) rfl d_Sv_addJoined_81 ?_
        refine lv_iload_n hx hb d_Sv_addJoined_84 rfl (lv_at hl 4 rfl) ?_
        refine mw_aaldN (k := d) (b := (ad (9 + 4 * d))) J hK hP 4 (mw_ov_fr ho.2 hca) rfl (by omega) (by decide) (hfa d (by omega)) d_Sv_addJoined_85 ?_
        refine lv_astore (lv' := [(6, .ref (ad (9 + 4 * d))), (5, .int (nI (rk_v (fun j => rk_num r.2 j || rk_ink r.2 (rk_tb Bd) j) (rk_wt r.2 u)))), (4, .int 0), (0, .ref (ad 1)), (1, .ref ra), (2, .int (nI d)), (3, .int (nI Bd))]) hx hb d_Sv_addJoined_86 hl (by decide) rfl (fun ls hl => ?_)
        refine lv_aload hx hb d_Sv_addJoined_88 (lv_at hl 0 rfl) ?_
        refine mw_get (v := .ref src) (ci := 4) (C := R_Co) (T := T_Co) (N := 6) J i_Co hK hP (mw_ov_is (i := (9 + 4 * d)) ho.1 (by omega) ((hoth _ (by omega) (by omega) (by omega) (by omega)).trans hk0)) rfl 3 (by decide) (hts _ k_110) (fun _ h9 => h9) rfl d_Sv_addJoined_90 ?_
        refine lv_aload hx hb d_Sv_addJoined_93 (lv_at hl 0 rfl) ?_
        refine mw_get (v := .int (nI K)) (ci := 4) (C := R_Co) (T := T_Co) (N := 6) J i_Co hK hP (mw_ov_is (i := (9 + 4 * d)) ho.1 (by omega) ((hoth _ (by omega) (by omega) (by omega) (by omega)).trans hk0)) rfl 4 (by decide) (hts _ k_112) (fun _ h9 => h9) rfl d_Sv_addJoined_95 ?_
        refine lv_iload_n hx hb d_Sv_addJoined_98 rfl (lv_at hl 6 rfl) ?_
        refine lv_iand hx hb d_Sv_addJoined_99 ?_
        refine mw_top (x' := nI (K &&& Bd)) (nx_and _ _) ?_
        refine mw_afterI hP hS hA (mw_runV (As := [.int (nI (K &&& Bd))]) (rest := []) J hK hZ hP hS hA (srcp _).choose_spec.choose_spec rfl (c_Pt_maskOf l D cI cZ cP cR cC tS _ (mw_ov B ad cw 21) src P (k_pat_mono hpp (k_fr ho _)) (K &&& Bd) hKB) (cwV 1 hts (mw_gV k_251 k_252 k_253 k_6 k_254) rfl rfl rfl (by decide +kernel) ⟨(by dsimp only; omega), (by dsimp only; omega)⟩) rfl hl.1 rfl (Nat.le_of_ble_eq_true rfl) d_Sv_addJoined_100 ⟨Nat.le_of_ble_eq_true rfl, Nat.le_of_ble_eq_true rfl⟩) (fun r M1 H locs hw hP hS => ?_)
        obtain ⟨rfl, rfl⟩ := hw
        refine lv_istore (lv' := [(7, .int (nI (rk_m (rk_ink P (rk_tb (K &&& Bd)))))), (6, .ref (ad (9 + 4 * d))), (5, .int (nI (rk_v (fun j => rk_num r.2 j || rk_ink r.2 (rk_tb Bd) j) (rk_wt r.2 u)))), (4, .int 0), (0, .ref (ad 1)), (1, .ref ra), (2, .int (nI d)), (3, .int (nI Bd))]) hx hb d_Sv_addJoined_103 hl (by decide) rfl (fun ls hl => ?_)
        refine lv_aload hx hb d_Sv_addJoined_105 (lv_at hl 1 rfl) ?_
        refine mw_get (v := .ref src) (ci := 4) (C := R_Co) (T := T_Co) (N := 6) J i_Co hK hP (mw_ov_is (i := (9 + 4 * d)) ho.1 (by omega) ((hoth _ (by omega) (by omega) (by omega) (by omega)).trans hk0)) rfl 3 (by decide) (hts _ k_110) (fun _ h9 => h9) rfl d_Sv_addJoined_107 ?_
        refine lv_aload hx hb d_Sv_addJoined_110 (lv_at hl 1 rfl) ?_
        refine mw_get (v := .int (nI K)) (ci := 4) (C := R_Co) (T := T_Co) (N := 6) J i_Co hK hP (mw_ov_is (i := (9 + 4 * d)) ho.1 (by omega) ((hoth _ (by omega) (by omega) (by omega) (by omega)).trans hk0)) rfl 4 (by decide) (hts _ k_112) (fun _ h9 => h9) rfl d_Sv_addJoined_112 ?_
        refine lv_iload_n hx hb d_Sv_addJoined_115 rfl (lv_at hl 7 rfl) ?_
        refine lv_iand hx hb d_Sv_addJoined_116 ?_
        refine mw_top (x' := nI (K &&& Bd)) (nx_and _ _) ?_
        refine lv_aload_n hx hb d_Sv_addJoined_117 rfl (lv_at hl 4 rfl) ?_
        refine mw_get (v := .ref (ad 8)) (ci := 5) (C := R_Sv) (T := T_Sv) (N := 4) J i_Sv hK hP (mw_ov_is (i := 1) ho.1 (by decide) hc1) rfl 1 (by decide) (hts _ k_130) (fun _ h9 => h9) rfl d_Sv_addJoined_118 ?_
        refine mw_afterI hP hS hA (mw_runV (As := [.int (nI (K &&& Bd)), .ref (ad 8)]) (rest := []) J hK hZ hP hS hA (srcp _).choose_spec.choose_spec rfl (c_Pt_filled l D cI cZ cP cR cC tS _ (mw_ov B ad cw 21) src P (k_pat_mono hpp (k_fr ho _)) (K &&& Bd) hKB (ad 8) u hu (mw_ov_is (i := 8) ho.1 (by decide) hc8)) (cwV 2 hts (mw_gV k_255 k_256 k_257 k_6 k_258) rfl rfl rfl (by decide +kernel) ⟨(by dsimp only; omega), (by dsimp only; omega)⟩) rfl hl.1 rfl (Nat.le_of_ble_eq_true rfl) d_Sv_addJoined_121 ⟨Nat.le_of_ble_eq_true rfl, Nat.le_of_ble_eq_true rfl⟩) (fun r M1 H locs hw hP hS => ?_)
        obtain ⟨rfl, rfl⟩ := hw
        refine lv_istore (lv' := [(8, .int (nI (rk_v (rk_ink P (rk_tb (K &&& Bd))) (fun j => u (rk_at P j - 32))))), (7, .int (nI (rk_m (rk_ink P (rk_tb (K &&& Bd)))))), (6, .ref (ad (9 + 4 * d))), (5, .int (nI (rk_v (fun j => rk_num r.2 j || rk_ink r.2 (rk_tb Bd) j) (rk_wt r.2 u)))), (4, .int 0), (0, .ref (ad 1)), (1, .ref ra), (2, .int (nI d)), (3, .int (nI Bd))]) hx hb d_Sv_addJoined_124 hl (by decide) rfl (fun ls hl => ?_)
        refine lv_iconst (v := 0) hx hb d_Sv_addJoined_126 (by decide) ?_
        refine mw_top (x' := nI 0) nI_0.symm ?_
        refine lv_istore (lv' := [(9, .int (nI 0)), (8, .int (nI (rk_v (rk_ink P (rk_tb (K &&& Bd))) (fun j => u (rk_at P j - 32))))), (7, .int (nI (rk_m (rk_ink P (rk_tb (K &&& Bd)))))), (6, .ref (ad (9 + 4 * d))), (5, .int (nI (rk_v (fun j => rk_num r.2 j || rk_ink r.2 (rk_tb Bd) j) (rk_wt r.2 u)))), (4, .int 0), (0, .ref (ad 1)), (1, .ref ra), (2, .int (nI d)), (3, .int (nI Bd))]) hx hb d_Sv_addJoined_127 hl (by decide) rfl (fun ls hl => ?_)
        refine mw_loop (W' := fun H locs ls => W p l e _ s m _ below meth c H locs _ _ _ (F0 m 129 ls [])) n (fun i H locs ls => ∃ (cx : Nat → va_E), ∃ (Nx : List Nat), ∃ (u1 : Nat → Nat), lv_has ls 10 [(0, .ref (ad 1)), (1, .ref ra), (2, .int (nI d)), (3, .int (nI Bd)), (4, .int 0), (5, .int (nI (rk_v (fun j => rk_num r.2 j || rk_ink r.2 (rk_tb Bd) j) (rk_wt r.2 u)))), (6, .ref (ad (9 + 4 * d))), (7, .int (nI (rk_m (rk_ink P (rk_tb (K &&& Bd)))))), (8, .int (nI (rk_v (rk_ink P (rk_tb (K &&& Bd))) (fun j => u (rk_at P j - 32))))), (9, .int (nI i))] ∧ (k_tr cI ad cx pm (L ++ Nx)) ∧ (k_sv cI cC B ad cx ca cs.length u1) ∧ (∀ x, rk_tb Bd x = true → u1 x = u x) ∧ (∀ i, i ≠ 2 → i ≠ 3 → i ≠ 4 → i ≠ 8 → cx i = cw i) ∧ (∀ z, z ∈ Nx → rk_hd L0 r.2 (cs.drop d) (rk_tb Bd) u z) ∧ (∀ i', i' < i → rk_cons P (fun x => rk_tb K x && rk_tb Bd x) u (pr i') → ∀ z, rk_hd L0 r.2 (cs.drop (d + 1)) (fun x => rk_tb Bd x || rk_tb K x) (rk_bind P (fun x => rk_tb K x && !rk_tb Bd x) (pr i') u) z → z ∈ L ++ Nx) ∧ mw_P D k_cl (mw_ov B ad cx 21) (mw_A (mw_ov B ad cw 21) s.heap.size) H ∧ va_S (mw_A (mw_ov B ad cw 21) s.heap.size) s.heap H locs) ?_ n 0 (by omega) (by omega) _ _ _ ⟨cw, [], u, lv_sub hl [6, 7, 8, 9, 5, 4, 3, 2, 1, 0] rfl, (by rw [List.append_nil]; exact ht), hsv, (fun _ _ => rfl), (fun _ _ _ _ _ => rfl), (fun z hz => absurd hz List.not_mem_nil), (fun i' h => absurd h (Nat.not_lt_zero i')), hP, hS⟩
        intro i H locs ls hi_129 hI ih_129
        obtain ⟨cx, Nx, u1, hl, ktx, ksx, hex, hoth, hNx, hdone, hP, hS⟩ := hI
        obtain ⟨hx1, hx8, hu1, -, -, -⟩ := id ksx
        obtain ⟨fx, wx, hx2, -⟩ := id ktx
        refine lv_iload hx hb d_Sv_addJoined_129 (lv_at hl 9 rfl) ?_
        refine lv_aload hx hb d_Sv_addJoined_131 (lv_at hl 6 rfl) ?_
        refine mw_get (v := .int (nI n)) (ci := 4) (C := R_Co) (T := T_Co) (N := 6) J i_Co hK hP (mw_ov_is (i := (9 + 4 * d)) ho.1 (by omega) ((hoth _ (by omega) (by omega) (by omega) (by omega)).trans hk0)) rfl 5 (by decide) (hts _ k_114) (fun _ h9 => h9) rfl d_Sv_addJoined_133 ?_
        refine lv_icmp_ge (tgt := 232) hx hb d_Sv_addJoined_136 (by decide) (fun c_136 => ?_) (fun c_136 => ?_)
        · have c_136 : n ≤ i := (nI_leI (by omega) (by omega)).mp c_136
          have hin : i = n := by omega
          refine lv_iconst (v := 1) hx hb d_Sv_addJoined_232 (by decide) ?_
          exact mw_zret J hr hlk rfl hP hS d_Sv_addJoined_233 (⟨cx, Nx, u1, rfl, ktx, ksx, hex, hoth, hNx, Or.inl ⟨rfl, fun z hz => by obtain ⟨j, h1, h2, h3⟩ := (hstep z).mp hz; exact hdone j (by omega) h2 z h3⟩⟩)
        · have c_136 : ¬ (n ≤ i) := fun z => c_136 ((nI_leI (by omega) (by omega)).mpr z)
          refine lv_aload hx hb d_Sv_addJoined_139 (lv_at hl 6 rfl) ?_
          refine mw_get (v := .ref (ad (9 + 4 * d + 1))) (ci := 4) (C := R_Co) (T := T_Co) (N := 6) J i_Co hK hP (mw_ov_is (i := (9 + 4 * d)) ho.1 (by omega) ((hoth _ (by omega) (by omega) (by omega) (by omega)).trans hk0)) rfl 0 (by decide) (hts _ k_105) (fun _ h9 => h9) rfl d_Sv_addJoined_141 ?_
          refine lv_iload hx hb d_Sv_addJoined_144 (lv_at hl 9 rfl) ?_
          refine mw_nald (k := i) J hK hP 0 (mw_ov_is (i := (9 + 4 * d + 1)) ho.1 (by omega) ((hoth _ (by omega) (by omega) (by omega) (by omega)).trans hk1)) rfl (by omega) (by decide) d_Sv_addJoined_146 ?_
          refine lv_iload hx hb d_Sv_addJoined_147 (lv_at hl 7 rfl) ?_
          refine lv_iand hx hb d_Sv_addJoined_149 ?_
          refine mw_top (x' := nI (pr i &&& rk_m (rk_ink P (rk_tb (K &&& Bd))))) (nx_and _ _) ?_
          refine lv_iload hx hb d_Sv_addJoined_150 (lv_at hl 8 rfl) ?_
          refine lv_icmp_eq (tgt := 158) hx hb d_Sv_addJoined_152 (by decide) (fun c_152 => ?_) (fun c_152 => ?_)
          · have c_152 : (pr i &&& rk_m (rk_ink P (rk_tb (K &&& Bd)))) = (rk_v (rk_ink P (rk_tb (K &&& Bd))) (fun j => u (rk_at P j - 32))) := (nI_eq (Nat.lt_of_le_of_lt Nat.and_le_left (by have := hpr i (by omega); omega)) (Nat.lt_trans (rk_v_lt (fun j _ => hu _)) (by decide))).mp c_152
            have hcn : rk_cons P (fun x => rk_tb K x && rk_tb Bd x) u (pr i) := by rw [← rk_tb_and]; exact (rk_cons_sel (hpr i (by omega)) hu).mp c_152
            refine lv_aload hx hb d_Sv_addJoined_158 (lv_at hl 6 rfl) ?_
            refine mw_get (v := .ref src) (ci := 4) (C := R_Co) (T := T_Co) (N := 6) J i_Co hK hP (mw_ov_is (i := (9 + 4 * d)) ho.1 (by omega) ((hoth _ (by omega) (by omega) (by omega) (by omega)).trans hk0)) rfl 3 (by decide) (hts _ k_110) (fun _ h9 => h9) rfl d_Sv_addJoined_160 ?_
            refine lv_aload hx hb d_Sv_addJoined_163 (lv_at hl 6 rfl) ?_
            refine mw_get (v := .ref (ad (9 + 4 * d + 1))) (ci := 4) (C := R_Co) (T := T_Co) (N := 6) J i_Co hK hP (mw_ov_is (i := (9 + 4 * d)) ho.1 (by omega) ((hoth _ (by omega) (by omega) (by omega) (by omega)).trans hk0)) rfl 0 (by decide) (hts _ k_105) (fun _ h9 => h9) rfl d_Sv_addJoined_165 ?_
            refine lv_iload hx hb d_Sv_addJoined_168 (lv_at hl 9 rfl) ?_
            refine mw_nald (k := i) J hK hP 0 (mw_ov_is (i := (9 + 4 * d + 1)) ho.1 (by omega) ((hoth _ (by omega) (by omega) (by omega) (by omega)).trans hk1)) rfl (by omega) (by decide) d_Sv_addJoined_170 ?_
            refine lv_aload hx hb d_Sv_addJoined_171 (lv_at hl 6 rfl) ?_
            refine mw_get (v := .int (nI K)) (ci := 4) (C := R_Co) (T := T_Co) (N := 6) J i_Co hK hP (mw_ov_is (i := (9 + 4 * d)) ho.1 (by omega) ((hoth _ (by omega) (by omega) (by omega) (by omega)).trans hk0)) rfl 4 (by decide) (hts _ k_112) (fun _ h9 => h9) rfl d_Sv_addJoined_173 ?_
            refine lv_iload_n hx hb d_Sv_addJoined_176 rfl (lv_at hl 3 rfl) ?_
            refine lv_iconst (v := (-1)) hx hb d_Sv_addJoined_177 (by decide) ?_
            refine lv_ixor hx hb d_Sv_addJoined_178 ?_
            refine lv_iand hx hb d_Sv_addJoined_179 ?_
            refine mw_top (x' := nI (rk_an K Bd)) (rk_an_i _ _) ?_
            refine lv_aload_n hx hb d_Sv_addJoined_180 rfl (lv_at hl 0 rfl) ?_
            refine mw_get (v := .ref (ad 8)) (ci := 5) (C := R_Sv) (T := T_Sv) (N := 4) J i_Sv hK hP (mw_ov_is (i := 1) ho.1 (by decide) hx1) rfl 1 (by decide) (hts _ k_130) (fun _ h9 => h9) rfl d_Sv_addJoined_181 ?_
            refine mw_afterV hP hS hA (mw_runV (As := [.int (nI (pr i)), .int (nI (rk_an K Bd)), .ref (ad 8)]) (rest := []) J hK hZ hP hS hA (srcp _).choose_spec.choose_spec rfl (c_Pt_bind l D cI cZ cP cR cC tS _ (mw_ov B ad cx 21) src P (k_pat_mono hpp (k_fr ho _)) (pr i) (hpr i (by omega)) (rk_an K Bd) (rk_an_lt hK8) (ad 8) u1 hu1 (mw_ov_is (i := 8) ho.1 (by decide) hx8)) (cwV 3 hts (mw_gV k_243 k_244 k_245 k_6 k_246) rfl rfl rfl (by decide +kernel) ⟨(by dsimp only; omega), (by dsimp only; omega)⟩) rfl hl.1 rfl (Nat.le_of_ble_eq_true rfl) d_Sv_addJoined_184 ⟨Nat.le_of_ble_eq_true rfl, Nat.le_of_ble_eq_true rfl⟩) (fun M1 H locs hw hP hS => ?_)
            obtain rfl := hw
            rw [mw_ov_set ho.1 (by decide)] at hP
            obtain ⟨u2, eu2⟩ : ∃ z, z = rk_bind P (rk_tb (rk_an K Bd)) (pr i) u1 := ⟨_, rfl⟩
            rw [← eu2] at hP
            have hu2 : rk_okV u2 := by rw [eu2]; exact rk_bind_ok hu1
            have he2 : ∀ x, (rk_tb Bd x || rk_tb K x) = true → u2 x = rk_bind P (fun x => rk_tb K x && !rk_tb Bd x) (pr i) u x := by rw [eu2, rk_tb_an]; exact rk_bind_ext hKP hex
            have he3 : ∀ x, rk_tb Bd x = true → u2 x = u x := fun x hx => by rw [he2 x (by simp [hx]), rk_bind_off (by simp [hx])]
            obtain ⟨cb, ecb⟩ : ∃ z : Nat → va_E, z = va_up cx 8 (.inl (cI, 8, .inl (rk_nf u2))) := ⟨_, rfl⟩
            rw [← ecb] at hP
            have hbo : ∀ z, z ≠ 8 → cb z = cx z := fun z hz => by rw [ecb, va_up_ne _ _ hz]
            have hb8 : cb 8 = .inl (cI, 8, .inl (rk_nf u2)) := by rw [ecb]; exact va_up_self _ _ _
            have ktb : k_tr cI ad cb pm (L ++ Nx) := by
              obtain ⟨fx, wx, a2, a3, a4, a5⟩ := ktx
              exact ⟨fx, wx, (hbo 2 (by decide)).trans a2, (hbo 3 (by decide)).trans a3, (hbo 4 (by decide)).trans a4, a5⟩
            have ksb : k_sv cI cC B ad cb ca cs.length u2 := ⟨(hbo 1 (by decide)).trans hx1, hb8, hu2, fa, hca, hfa⟩
            have hcdb : ∀ e, e < cs.length → k_cold cI B ad cb e (cs.getD e rk_col0) := fun e he => k_cold_same (hcd e he) (fun z hz => by rw [hbo _ (by omega)]; exact hoth _ (by omega) (by omega) (by omega) (by omega))
            have hjb : rk_jn L0 B0 u0 r.2 (cs.drop (d + 1)) (rk_tb (Bd ||| K)) u2 := by rw [rk_tb_or]; exact rk_jn_congr (hjs (pr i)) hu2 he2
            have hhb : ∀ z, rk_hd L0 r.2 (cs.drop (d + 1)) (rk_tb (Bd ||| K)) u2 z ↔ rk_hd L0 r.2 (cs.drop (d + 1)) (fun x => rk_tb Bd x || rk_tb K x) (rk_bind P (fun x => rk_tb K x && !rk_tb Bd x) (pr i) u) z := fun z => by rw [rk_tb_or]; exact rk_hd_congr he2 z
            refine lv_aload_n hx hb d_Sv_addJoined_187 rfl (lv_at hl 0 rfl) ?_
            refine lv_aload_n hx hb d_Sv_addJoined_188 rfl (lv_at hl 1 rfl) ?_
            refine lv_iload_n hx hb d_Sv_addJoined_189 rfl (lv_at hl 2 rfl) ?_
            refine lv_iconst (v := 1) hx hb d_Sv_addJoined_190 (by decide) ?_
            refine mw_top (x' := nI 1) rfl ?_
            refine lv_iadd hx hb d_Sv_addJoined_191 ?_
            refine mw_top (x' := nI (d + 1)) (nI_add _ _) ?_
            refine lv_iload_n hx hb d_Sv_addJoined_192 rfl (lv_at hl 3 rfl) ?_
            refine lv_aload hx hb d_Sv_addJoined_193 (lv_at hl 6 rfl) ?_
            refine mw_get (v := .int (nI K)) (ci := 4) (C := R_Co) (T := T_Co) (N := 6) J i_Co hK hP (mw_ov_is (i := (9 + 4 * d)) ho.1 (by omega) ((hbo _ (by omega)).trans ((hoth _ (by omega) (by omega) (by omega) (by omega)).trans hk0))) rfl 4 (by decide) (hts _ k_112) (fun _ h9 => h9) rfl d_Sv_addJoined_195 ?_
            refine lv_ior hx hb d_Sv_addJoined_198 ?_
            refine mw_top (x' := nI (Bd ||| K)) (nx_or _ _) ?_
            refine mw_afterI hP hS hA (mw_runS (As := [.ref (ad 1), .ref ra, .int (nI (d + 1)), .int (nI (Bd ||| K))]) (rest := []) J hK hZ hP hS hA (IH m1 hm1 _ B ad cb pm (L ++ Nx) ho hpm ktb ca cs u2 ksb hcs3 hcdb ra r hrule (d + 1) (Bd ||| K) (rk_or_lt hBd hK8) (by omega) L0 hL0 B0 u0 hjb) (cwS 4 hts (mw_gS k_278 k_279 k_2 k_280) rfl rfl rfl (by decide +kernel) ⟨(by dsimp only; omega), (by dsimp only; omega)⟩) rfl hl.1 rfl (Nat.le_of_ble_eq_true rfl) d_Sv_addJoined_199 ⟨Nat.le_of_ble_eq_true rfl, Nat.le_of_ble_eq_true rfl⟩) (fun rr M1 H locs hw hP hS => ?_)
            obtain ⟨cy, Ny, u3, rfl, kty, ksy, hey0, hoy0, hNy0, hcase⟩ := hw
            rw [List.append_assoc] at kty hcase
            have hey : ∀ x, rk_tb Bd x = true → u3 x = u x := fun x hx => by rw [hey0 x (by rw [rk_tb_or]; simp [hx]), he3 x hx]
            have hoy : ∀ i, i ≠ 2 → i ≠ 3 → i ≠ 4 → i ≠ 8 → cy i = cw i := fun z h2 h3 h4 h8 => by rw [hoy0 z h2 h3 h4 h8, hbo z h8]; exact hoth z h2 h3 h4 h8
            have hNy : ∀ z, z ∈ Nx ++ Ny → rk_hd L0 r.2 (cs.drop d) (rk_tb Bd) u z := fun z hz => (List.mem_append.mp hz).elim (hNx z) (fun h => (hstep z).mpr ⟨i, by omega, hcn, (hhb z).mp (hNy0 z h)⟩)
            obtain ⟨hy1, hy8, hu3, -, -, -⟩ := id ksy
            obtain ⟨fy, wy, hy2, -⟩ := id kty
            refine lv_if_ne (tgt := 207) hx hb d_Sv_addJoined_202 (by decide) (fun c_202 => ?_) (fun c_202 => ?_)
            · have hall : ∀ z, rk_hd L0 r.2 (cs.drop (d + 1)) (fun x => rk_tb Bd x || rk_tb K x) (rk_bind P (fun x => rk_tb K x && !rk_tb Bd x) (pr i) u) z → z ∈ L ++ (Nx ++ Ny) := fun z hz => by
                rcases hcase with ⟨_, h⟩ | ⟨h, _⟩
                · exact h z ((hhb z).mpr hz)
                · exact absurd h c_202
              have hdo2 : ∀ i', i' < i → rk_cons P (fun x => rk_tb K x && rk_tb Bd x) u (pr i') → ∀ z, rk_hd L0 r.2 (cs.drop (d + 1)) (fun x => rk_tb Bd x || rk_tb K x) (rk_bind P (fun x => rk_tb K x && !rk_tb Bd x) (pr i') u) z → z ∈ L ++ (Nx ++ Ny) := fun i' hi' hc z hz => by
                have := hdone i' hi' hc z hz
                rw [← List.append_assoc]
                exact List.mem_append_left _ this
              refine lv_iload hx hb d_Sv_addJoined_207 (lv_at hl 4 rfl) ?_
              refine lv_if_eq (tgt := 226) hx hb d_Sv_addJoined_209 (by decide) (fun c_209 => ?_) (fun c_209 => ?_)
              · refine lv_iinc (v := nI (i + 1)) (lv' := [(9, .int (nI (i + 1))), (0, .ref (ad 1)), (1, .ref ra), (2, .int (nI d)), (3, .int (nI Bd)), (4, .int 0), (5, .int (nI (rk_v (fun j => rk_num r.2 j || rk_ink r.2 (rk_tb Bd) j) (rk_wt r.2 u)))), (6, .ref (ad (9 + 4 * d))), (7, .int (nI (rk_m (rk_ink P (rk_tb (K &&& Bd)))))), (8, .int (nI (rk_v (rk_ink P (rk_tb (K &&& Bd))) (fun j => u (rk_at P j - 32)))))]) hx hb d_Sv_addJoined_226 hl (k := 9) rfl (nI_1 i) (by decide) rfl (fun ls hl => ?_)
                refine lv_goto (tgt := 129) hx hb d_Sv_addJoined_229 (by decide) ?_
                exact ih_129 _ _ _ (by omega) ⟨cy, (Nx ++ Ny), u3, lv_sub hl [1, 2, 3, 4, 5, 6, 7, 8, 9, 0] rfl, kty, ksy, hey, hoy, hNy, (lt_s hdo2 (fun _ z hz => hall z hz)), hP, hS⟩
              · exact absurd rfl c_209
            · have hz0 : (L ++ (Nx ++ Ny)).length = 300 ∧ ∃ z, rk_hd L0 r.2 (cs.drop d) (rk_tb Bd) u z ∧ z ∉ L ++ (Nx ++ Ny) := by
                rcases hcase with ⟨h, _⟩ | ⟨_, h, z, hz, hn⟩
                · rw [h] at c_202
                  exact absurd c_202 (by decide)
                · exact ⟨h, z, (hstep z).mpr ⟨i, by omega, hcn, (hhb z).mp hz⟩, hn⟩
              refine lv_iconst (v := 0) hx hb d_Sv_addJoined_205 (by decide) ?_
              exact mw_zret J hr hlk rfl hP hS d_Sv_addJoined_206 (⟨cy, Nx ++ Ny, u3, rfl, kty, ksy, hey, hoy, hNy, Or.inr ⟨rfl, hz0⟩⟩)
          · have c_152 : ¬ ((pr i &&& rk_m (rk_ink P (rk_tb (K &&& Bd)))) = (rk_v (rk_ink P (rk_tb (K &&& Bd))) (fun j => u (rk_at P j - 32)))) := fun z => c_152 ((nI_eq (Nat.lt_of_le_of_lt Nat.and_le_left (by have := hpr i (by omega); omega)) (Nat.lt_trans (rk_v_lt (fun j _ => hu _)) (by decide))).mpr z)
            have hcn : ¬ rk_cons P (fun x => rk_tb K x && rk_tb Bd x) u (pr i) := fun z => c_152 ((rk_cons_sel (hpr i (by omega)) hu).mpr (by rw [rk_tb_and]; exact z))
            refine lv_goto (tgt := 226) hx hb d_Sv_addJoined_155 (by decide) ?_
            refine lv_iinc (v := nI (i + 1)) (lv' := [(9, .int (nI (i + 1))), (0, .ref (ad 1)), (1, .ref ra), (2, .int (nI d)), (3, .int (nI Bd)), (4, .int 0), (5, .int (nI (rk_v (fun j => rk_num r.2 j || rk_ink r.2 (rk_tb Bd) j) (rk_wt r.2 u)))), (6, .ref (ad (9 + 4 * d))), (7, .int (nI (rk_m (rk_ink P (rk_tb (K &&& Bd)))))), (8, .int (nI (rk_v (rk_ink P (rk_tb (K &&& Bd))) (fun j => u (rk_at P j - 32)))))]) hx hb d_Sv_addJoined_226 hl (k := 9) rfl (nI_1 i) (by decide) rfl (fun ls hl => ?_)
            refine lv_goto (tgt := 129) hx hb d_Sv_addJoined_229 (by decide) ?_
            exact ih_129 _ _ _ (by omega) ⟨cx, Nx, u1, lv_sub hl [1, 2, 3, 4, 5, 6, 7, 8, 9, 0] rfl, ktx, ksx, hex, hoth, hNx, (lt_s hdone (fun z => absurd z hcn)), hP, hS⟩
      · have c_67 : ¬ (d < cs.length) := fun z => c_67 ((nI_ltI (by omega) (by omega)).mpr z)
        have hdr : cs.drop d = [] := List.drop_eq_nil_of_le (by omega)
        rw [hdr] at hjn
        have hkn2 : ∀ x, rk_in r.2 x → rk_tb Bd x = true := fun x hx => (hjn.2.2.2.2.2.2 x hx).elim id (fun ⟨c, hc, _⟩ => absurd hc List.not_mem_nil)
        exact absurd hkn2 hkn
    · exact absurd rfl c_45
  · have hkn : ∀ x, rk_in r.2 x → rk_tb Bd x = true := fun x hx => rk_an_0.mp ((rk_nI0 (Nat.lt_trans (rk_an_lt (rk_vars_lt hdok)) (by decide))).mp c_11) x (rk_vars_tb.mpr hx)
    have hcode := rk_code_hd (u := u) hkn
    refine lv_iconst (v := 1) hx hb d_Sv_addJoined_14 (by decide) ?_
    refine lv_goto (tgt := 19) hx hb d_Sv_addJoined_15 (by decide) ?_
    refine lv_istore (lv' := [(4, .int 1), (0, .ref (ad 1)), (1, .ref ra), (2, .int (nI d)), (3, .int (nI Bd))]) hx hb d_Sv_addJoined_19 hl (by decide) rfl (fun ls hl => ?_)
    refine lv_aload_n hx hb d_Sv_addJoined_21 rfl (lv_at hl 2 rfl) ?_
    refine mw_get (v := .ref hdp) (ci := 3) (C := R_Ru) (T := T_Ru) (N := 3) J i_Ru hK hP (mw_ov_fr ho.2 hr1) rfl 1 (by decide) (hts _ k_158) (fun _ h9 => h9) rfl d_Sv_addJoined_22 ?_
    refine mw_get (v := .int (nI (rk_v (rk_num r.2) (rk_at r.2)))) (ci := 2) (C := R_Pt) (T := T_Pt) (N := 8) J i_Pt hK hP (hdpp _).choose_spec.choose_spec rfl 4 (by decide) (hts _ k_83) (fun _ h9 => h9) rfl d_Sv_addJoined_25 ?_
    refine lv_aload_n hx hb d_Sv_addJoined_28 rfl (lv_at hl 2 rfl) ?_
    refine mw_get (v := .ref hdp) (ci := 3) (C := R_Ru) (T := T_Ru) (N := 3) J i_Ru hK hP (mw_ov_fr ho.2 hr1) rfl 1 (by decide) (hts _ k_158) (fun _ h9 => h9) rfl d_Sv_addJoined_29 ?_
    refine lv_iload_n hx hb d_Sv_addJoined_32 rfl (lv_at hl 4 rfl) ?_
    refine lv_aload_n hx hb d_Sv_addJoined_33 rfl (lv_at hl 1 rfl) ?_
    refine mw_get (v := .ref (ad 8)) (ci := 5) (C := R_Sv) (T := T_Sv) (N := 4) J i_Sv hK hP (mw_ov_is (i := 1) ho.1 (by decide) hc1) rfl 1 (by decide) (hts _ k_130) (fun _ h9 => h9) rfl d_Sv_addJoined_34 ?_
    refine mw_afterI hP hS hA (mw_runV (As := [.int (nI Bd), .ref (ad 8)]) (rest := [.int (nI (rk_v (rk_num r.2) (rk_at r.2)))]) J hK hZ hP hS hA (hdpp _).choose_spec.choose_spec rfl (c_Pt_filled l D cI cZ cP cR cC tS _ (mw_ov B ad cw 21) hdp r.2 (k_pat_mono hrh (k_fr ho _)) Bd hBd (ad 8) u hu (mw_ov_is (i := 8) ho.1 (by decide) hc8)) (cwV 2 hts (mw_gV k_255 k_256 k_257 k_6 k_258) rfl rfl rfl (by decide +kernel) ⟨(by dsimp only; omega), (by dsimp only; omega)⟩) rfl hl.1 rfl (Nat.le_of_ble_eq_true rfl) d_Sv_addJoined_37 ⟨Nat.le_of_ble_eq_true rfl, Nat.le_of_ble_eq_true rfl⟩) (fun r M1 H locs hw hP hS => ?_)
    obtain ⟨rfl, rfl⟩ := hw
    refine lv_ior hx hb d_Sv_addJoined_40 ?_
    refine mw_top (x' := nI (rk_v (fun j => rk_num r.2 j || rk_ink r.2 (rk_tb Bd) j) (rk_wt r.2 u))) (by rw [nx_or, rk_want hu]) ?_
    refine lv_istore (lv' := [(5, .int (nI (rk_v (fun j => rk_num r.2 j || rk_ink r.2 (rk_tb Bd) j) (rk_wt r.2 u)))), (4, .int 1), (0, .ref (ad 1)), (1, .ref ra), (2, .int (nI d)), (3, .int (nI Bd))]) hx hb d_Sv_addJoined_41 hl (by decide) rfl (fun ls hl => ?_)
    refine lv_iload hx hb d_Sv_addJoined_43 (lv_at hl 1 rfl) ?_
    refine lv_if_eq (tgt := 62) hx hb d_Sv_addJoined_45 (by decide) (fun c_45 => ?_) (fun c_45 => ?_)
    · exact absurd c_45 (by decide)
    · refine lv_aload_n hx hb d_Sv_addJoined_48 rfl (lv_at hl 2 rfl) ?_
      refine mw_get (v := .ref (ad 2)) (ci := 5) (C := R_Sv) (T := T_Sv) (N := 4) J i_Sv hK hP (mw_ov_is (i := 1) ho.1 (by decide) hc1) rfl 0 (by decide) (hts _ k_128) (fun _ h9 => h9) rfl d_Sv_addJoined_49 ?_
      refine lv_iload hx hb d_Sv_addJoined_52 (lv_at hl 0 rfl) ?_
      refine mw_afterI hP hS hA (mw_runV (As := [.int (nI (rk_v (fun j => rk_num r.2 j || rk_ink r.2 (rk_tb Bd) j) (rk_wt r.2 u)))]) (rest := []) J hK hZ hP hS hA (mw_ov_is (i := 2) ho.1 (by decide) hc2) rfl (c_Tr_has l D cI cZ cP cR cC tS _ B ad cw pm L ho hpm ht (rk_v (fun j => rk_num r.2 j || rk_ink r.2 (rk_tb Bd) j) (rk_wt r.2 u)) (rk_v_lt (fun j _ => rk_wt_lt hu j))) (cwV 1 hts (mw_gV k_281 k_208 k_209 k_3 k_210) rfl rfl rfl (by decide +kernel) ⟨(by dsimp only; omega), (by dsimp only; omega)⟩) rfl hl.1 rfl (Nat.le_of_ble_eq_true rfl) d_Sv_addJoined_54 ⟨Nat.le_of_ble_eq_true rfl, Nat.le_of_ble_eq_true rfl⟩) (fun r M1 H locs hw hP hS => ?_)
      obtain ⟨rfl, rfl⟩ := hw
      refine lv_if_eq (tgt := 62) hx hb d_Sv_addJoined_57 (by decide) (fun c_57 => ?_) (fun c_57 => ?_)
      · have hnc : (rk_v (fun j => rk_num r.2 j || rk_ink r.2 (rk_tb Bd) j) (rk_wt r.2 u)) ∉ L := fun z => by
          rw [if_pos z] at c_57
          exact absurd c_57 (by decide)
        refine lv_iload_n hx hb d_Sv_addJoined_62 rfl (lv_at hl 4 rfl) ?_
        refine lv_aload_n hx hb d_Sv_addJoined_63 rfl (lv_at hl 2 rfl) ?_
        refine mw_get (v := .int (nI cs.length)) (ci := 5) (C := R_Sv) (T := T_Sv) (N := 4) J i_Sv hK hP (mw_ov_is (i := 1) ho.1 (by decide) hc1) rfl 3 (by decide) (hts _ k_132) (fun _ h9 => h9) rfl d_Sv_addJoined_64 ?_
        refine lv_icmp_lt (tgt := 80) hx hb d_Sv_addJoined_67 (by decide) (fun c_67 => ?_) (fun c_67 => ?_)
        · have c_67 : d < cs.length := (nI_ltI (by omega) (by omega)).mp c_67
          obtain ⟨m1, hm1⟩ : ∃ z, m0 = z + 1 := ⟨m0 - 1, by omega⟩
          have hdr := rk_colD_drop c_67
          have hcdd := hcd d c_67
          obtain ⟨c0, ec0⟩ : ∃ z, z = cs.getD d rk_col0 := ⟨_, rfl⟩
          rw [← ec0] at hdr hcdd
          rw [hdr] at hjn
          have hstep := rk_hd_jn hL0 hjn
          have hjs := rk_jn_step hjn
          have hKi := (hjn.2.2.1 c0 List.mem_cons_self).2.2
          obtain ⟨P, Kf, n, pr, tm⟩ := c0
          obtain ⟨src, K, pl, hko, hKf, hK8, hpp, -, hn3, hpr⟩ := hcdd
          have hKf : Kf = rk_tb K := hKf
          subst hKf
          obtain ⟨hk0, hk1, -, -⟩ := hko
          have hn3 : n ≤ 300 := hn3
          have hpr : ∀ i, i < n → pr i < 32768 := hpr
          have hpp : k_pat cI B src P := hpp
          have hKP : ∀ x, rk_tb K x = true → rk_in P x := hKi
          have hstep : ∀ z, rk_hd L0 r.2 ((P, rk_tb K, n, pr, tm) :: cs.drop (d + 1)) (rk_tb Bd) u z ↔ ∃ i, i < n ∧ rk_cons P (fun x => rk_tb K x && rk_tb Bd x) u (pr i) ∧ rk_hd L0 r.2 (cs.drop (d + 1)) (fun x => rk_tb Bd x || rk_tb K x) (rk_bind P (fun x => rk_tb K x && !rk_tb Bd x) (pr i) u) z := hstep
          rw [← hdr] at hstep
          have hjs : ∀ p, rk_jn L0 B0 u0 r.2 (cs.drop (d + 1)) (fun x => rk_tb Bd x || rk_tb K x) (rk_bind P (fun x => rk_tb K x && !rk_tb Bd x) p u) := hjs
          have srcp : ∀ c, ∃ b q, mw_ov B ad c 21 src = some (.inr (2, k_pf P b q)) := fun c => by
            obtain ⟨-, b, q, _, _, h, -⟩ := k_pat_mono hpp (k_fr ho c)
            exact ⟨b, q, h⟩
          have hKB : K &&& Bd < 256 := Nat.lt_of_le_of_lt Nat.and_le_left hK8
          have hk0 : cw (9 + 4 * d) = .inr (4, [.ref (ad (9 + 4 * d + 1)), .ref (ad (9 + 4 * d + 2)), .ref (ad (9 + 4 * d + 3)), .ref src, .int (nI K), .int (nI n)]) := hk0
          have hk1 : cw (9 + 4 * d + 1) = .inl (cI, 300, .inl (rk_nf pr)) := hk1
          have hoth : ∀ i, i ≠ 2 → i ≠ 3 → i ≠ 4 → i ≠ 8 → cw i = cw i := fun _ _ _ _ _ => rfl
          refine lv_aload_n hx hb d_Sv_addJoined_80 rfl (lv_at hl 2 rfl) ?_
          refine mw_get (v := .ref ca) (ci := 5) (C := R_Sv) (T := T_Sv) (N := 4) J i_Sv hK hP (mw_ov_is (i := 1) ho.1 (by decide) hc1) rfl 2 (by decide) (hts _ k_131) (fun _ h9 => h9) rfl d_Sv_addJoined_81 ?_
          refine lv_iload_n hx hb d_Sv_addJoined_84 rfl (lv_at hl 4 rfl) ?_
          refine mw_aaldN (k := d) (b := (ad (9 + 4 * d))) J hK hP 4 (mw_ov_fr ho.2 hca) rfl (by omega) (by decide) (hfa d (by omega)) d_Sv_addJoined_85 ?_
          refine lv_astore (lv' := [(6, .ref (ad (9 + 4 * d))), (5, .int (nI (rk_v (fun j => rk_num r.2 j || rk_ink r.2 (rk_tb Bd) j) (rk_wt r.2 u)))), (4, .int 1), (0, .ref (ad 1)), (1, .ref ra), (2, .int (nI d)), (3, .int (nI Bd))]) hx hb d_Sv_addJoined_86 hl (by decide) rfl (fun ls hl => ?_)
          refine lv_aload hx hb d_Sv_addJoined_88 (lv_at hl 0 rfl) ?_
          refine mw_get (v := .ref src) (ci := 4) (C := R_Co) (T := T_Co) (N := 6) J i_Co hK hP (mw_ov_is (i := (9 + 4 * d)) ho.1 (by omega) ((hoth _ (by omega) (by omega) (by omega) (by omega)).trans hk0)) rfl 3 (by decide) (hts _ k_110) (fun _ h9 => h9) rfl d_Sv_addJoined_90 ?_
          refine lv_aload hx hb d_Sv_addJoined_93 (lv_at hl 0 rfl) ?_
          refine mw_get (v := .int (nI K)) (ci := 4) (C := R_Co) (T := T_Co) (N := 6) J i_Co hK hP (mw_ov_is (i := (9 + 4 * d)) ho.1 (by omega) ((hoth _ (by omega) (by omega) (by omega) (by omega)).trans hk0)) rfl 4 (by decide) (hts _ k_112) (fun _ h9 => h9) rfl d_Sv_addJoined_95 ?_
          refine lv_iload_n hx hb d_Sv_addJoined_98 rfl (lv_at hl 6 rfl) ?_
          refine lv_iand hx hb d_Sv_addJoined_99 ?_
          refine mw_top (x' := nI (K &&& Bd)) (nx_and _ _) ?_
          refine mw_afterI hP hS hA (mw_runV (As := [.int (nI (K &&& Bd))]) (rest := []) J hK hZ hP hS hA (srcp _).choose_spec.choose_spec rfl (c_Pt_maskOf l D cI cZ cP cR cC tS _ (mw_ov B ad cw 21) src P (k_pat_mono hpp (k_fr ho _)) (K &&& Bd) hKB) (cwV 1 hts (mw_gV k_251 k_252 k_253 k_6 k_254) rfl rfl rfl (by decide +kernel) ⟨(by dsimp only; omega), (by dsimp only; omega)⟩) rfl hl.1 rfl (Nat.le_of_ble_eq_true rfl) d_Sv_addJoined_100 ⟨Nat.le_of_ble_eq_true rfl, Nat.le_of_ble_eq_true rfl⟩) (fun r M1 H locs hw hP hS => ?_)
          obtain ⟨rfl, rfl⟩ := hw
          refine lv_istore (lv' := [(7, .int (nI (rk_m (rk_ink P (rk_tb (K &&& Bd)))))), (6, .ref (ad (9 + 4 * d))), (5, .int (nI (rk_v (fun j => rk_num r.2 j || rk_ink r.2 (rk_tb Bd) j) (rk_wt r.2 u)))), (4, .int 1), (0, .ref (ad 1)), (1, .ref ra), (2, .int (nI d)), (3, .int (nI Bd))]) hx hb d_Sv_addJoined_103 hl (by decide) rfl (fun ls hl => ?_)
          refine lv_aload hx hb d_Sv_addJoined_105 (lv_at hl 1 rfl) ?_
          refine mw_get (v := .ref src) (ci := 4) (C := R_Co) (T := T_Co) (N := 6) J i_Co hK hP (mw_ov_is (i := (9 + 4 * d)) ho.1 (by omega) ((hoth _ (by omega) (by omega) (by omega) (by omega)).trans hk0)) rfl 3 (by decide) (hts _ k_110) (fun _ h9 => h9) rfl d_Sv_addJoined_107 ?_
          refine lv_aload hx hb d_Sv_addJoined_110 (lv_at hl 1 rfl) ?_
          refine mw_get (v := .int (nI K)) (ci := 4) (C := R_Co) (T := T_Co) (N := 6) J i_Co hK hP (mw_ov_is (i := (9 + 4 * d)) ho.1 (by omega) ((hoth _ (by omega) (by omega) (by omega) (by omega)).trans hk0)) rfl 4 (by decide) (hts _ k_112) (fun _ h9 => h9) rfl d_Sv_addJoined_112 ?_
          refine lv_iload_n hx hb d_Sv_addJoined_115 rfl (lv_at hl 7 rfl) ?_
          refine lv_iand hx hb d_Sv_addJoined_116 ?_
          refine mw_top (x' := nI (K &&& Bd)) (nx_and _ _) ?_
          refine lv_aload_n hx hb d_Sv_addJoined_117 rfl (lv_at hl 4 rfl) ?_
          refine mw_get (v := .ref (ad 8)) (ci := 5) (C := R_Sv) (T := T_Sv) (N := 4) J i_Sv hK hP (mw_ov_is (i := 1) ho.1 (by decide) hc1) rfl 1 (by decide) (hts _ k_130) (fun _ h9 => h9) rfl d_Sv_addJoined_118 ?_
          refine mw_afterI hP hS hA (mw_runV (As := [.int (nI (K &&& Bd)), .ref (ad 8)]) (rest := []) J hK hZ hP hS hA (srcp _).choose_spec.choose_spec rfl (c_Pt_filled l D cI cZ cP cR cC tS _ (mw_ov B ad cw 21) src P (k_pat_mono hpp (k_fr ho _)) (K &&& Bd) hKB (ad 8) u hu (mw_ov_is (i := 8) ho.1 (by decide) hc8)) (cwV 2 hts (mw_gV k_255 k_256 k_257 k_6 k_258) rfl rfl rfl (by decide +kernel) ⟨(by dsimp only; omega), (by dsimp only; omega)⟩) rfl hl.1 rfl (Nat.le_of_ble_eq_true rfl) d_Sv_addJoined_121 ⟨Nat.le_of_ble_eq_true rfl, Nat.le_of_ble_eq_true rfl⟩) (fun r M1 H locs hw hP hS => ?_)
          obtain ⟨rfl, rfl⟩ := hw
          refine lv_istore (lv' := [(8, .int (nI (rk_v (rk_ink P (rk_tb (K &&& Bd))) (fun j => u (rk_at P j - 32))))), (7, .int (nI (rk_m (rk_ink P (rk_tb (K &&& Bd)))))), (6, .ref (ad (9 + 4 * d))), (5, .int (nI (rk_v (fun j => rk_num r.2 j || rk_ink r.2 (rk_tb Bd) j) (rk_wt r.2 u)))), (4, .int 1), (0, .ref (ad 1)), (1, .ref ra), (2, .int (nI d)), (3, .int (nI Bd))]) hx hb d_Sv_addJoined_124 hl (by decide) rfl (fun ls hl => ?_)
          refine lv_iconst (v := 0) hx hb d_Sv_addJoined_126 (by decide) ?_
          refine mw_top (x' := nI 0) nI_0.symm ?_
          refine lv_istore (lv' := [(9, .int (nI 0)), (8, .int (nI (rk_v (rk_ink P (rk_tb (K &&& Bd))) (fun j => u (rk_at P j - 32))))), (7, .int (nI (rk_m (rk_ink P (rk_tb (K &&& Bd)))))), (6, .ref (ad (9 + 4 * d))), (5, .int (nI (rk_v (fun j => rk_num r.2 j || rk_ink r.2 (rk_tb Bd) j) (rk_wt r.2 u)))), (4, .int 1), (0, .ref (ad 1)), (1, .ref ra), (2, .int (nI d)), (3, .int (nI Bd))]) hx hb d_Sv_addJoined_127 hl (by decide) rfl (fun ls hl => ?_)
          refine mw_loop (W' := fun H locs ls => W p l e _ s m _ below meth c H locs _ _ _ (F0 m 129 ls [])) n (fun i H locs ls => ∃ (cx : Nat → va_E), ∃ (Nx : List Nat), ∃ (u1 : Nat → Nat), lv_has ls 10 [(0, .ref (ad 1)), (1, .ref ra), (2, .int (nI d)), (3, .int (nI Bd)), (4, .int 1), (5, .int (nI (rk_v (fun j => rk_num r.2 j || rk_ink r.2 (rk_tb Bd) j) (rk_wt r.2 u)))), (6, .ref (ad (9 + 4 * d))), (7, .int (nI (rk_m (rk_ink P (rk_tb (K &&& Bd)))))), (8, .int (nI (rk_v (rk_ink P (rk_tb (K &&& Bd))) (fun j => u (rk_at P j - 32))))), (9, .int (nI i))] ∧ (k_tr cI ad cx pm (L ++ Nx)) ∧ (k_sv cI cC B ad cx ca cs.length u1) ∧ (∀ x, rk_tb Bd x = true → u1 x = u x) ∧ (∀ i, i ≠ 2 → i ≠ 3 → i ≠ 4 → i ≠ 8 → cx i = cw i) ∧ (∀ z, z ∈ Nx → rk_hd L0 r.2 (cs.drop d) (rk_tb Bd) u z) ∧ (∀ i', i' < i → rk_cons P (fun x => rk_tb K x && rk_tb Bd x) u (pr i') → ∀ z, rk_hd L0 r.2 (cs.drop (d + 1)) (fun x => rk_tb Bd x || rk_tb K x) (rk_bind P (fun x => rk_tb K x && !rk_tb Bd x) (pr i') u) z → z ∈ L ++ Nx) ∧ mw_P D k_cl (mw_ov B ad cx 21) (mw_A (mw_ov B ad cw 21) s.heap.size) H ∧ va_S (mw_A (mw_ov B ad cw 21) s.heap.size) s.heap H locs) ?_ n 0 (by omega) (by omega) _ _ _ ⟨cw, [], u, lv_sub hl [6, 7, 8, 9, 5, 4, 3, 2, 1, 0] rfl, (by rw [List.append_nil]; exact ht), hsv, (fun _ _ => rfl), (fun _ _ _ _ _ => rfl), (fun z hz => absurd hz List.not_mem_nil), (fun i' h => absurd h (Nat.not_lt_zero i')), hP, hS⟩
          intro i H locs ls hi_129 hI ih_129
          obtain ⟨cx, Nx, u1, hl, ktx, ksx, hex, hoth, hNx, hdone, hP, hS⟩ := hI
          obtain ⟨hx1, hx8, hu1, -, -, -⟩ := id ksx
          obtain ⟨fx, wx, hx2, -⟩ := id ktx
          refine lv_iload hx hb d_Sv_addJoined_129 (lv_at hl 9 rfl) ?_
          refine lv_aload hx hb d_Sv_addJoined_131 (lv_at hl 6 rfl) ?_
          refine mw_get (v := .int (nI n)) (ci := 4) (C := R_Co) (T := T_Co) (N := 6) J i_Co hK hP (mw_ov_is (i := (9 + 4 * d)) ho.1 (by omega) ((hoth _ (by omega) (by omega) (by omega) (by omega)).trans hk0)) rfl 5 (by decide) (hts _ k_114) (fun _ h9 => h9) rfl d_Sv_addJoined_133 ?_
          refine lv_icmp_ge (tgt := 232) hx hb d_Sv_addJoined_136 (by decide) (fun c_136 => ?_) (fun c_136 => ?_)
          · have c_136 : n ≤ i := (nI_leI (by omega) (by omega)).mp c_136
            have hin : i = n := by omega
            refine lv_iconst (v := 1) hx hb d_Sv_addJoined_232 (by decide) ?_
            exact mw_zret J hr hlk rfl hP hS d_Sv_addJoined_233 (⟨cx, Nx, u1, rfl, ktx, ksx, hex, hoth, hNx, Or.inl ⟨rfl, fun z hz => by obtain ⟨j, h1, h2, h3⟩ := (hstep z).mp hz; exact hdone j (by omega) h2 z h3⟩⟩)
          · have c_136 : ¬ (n ≤ i) := fun z => c_136 ((nI_leI (by omega) (by omega)).mpr z)
            refine lv_aload hx hb d_Sv_addJoined_139 (lv_at hl 6 rfl) ?_
            refine mw_get (v := .ref (ad (9 + 4 * d + 1))) (ci := 4) (C := R_Co) (T := T_Co) (N := 6) J i_Co hK hP (mw_ov_is (i := (9 + 4 * d)) ho.1 (by omega) ((hoth _ (by omega) (by omega) (by omega) (by omega)).trans hk0)) rfl 0 (by decide) (hts _ k_105) (fun _ h9 => h9) rfl d_Sv_addJoined_141 ?_
            refine lv_iload hx hb d_Sv_addJoined_144 (lv_at hl 9 rfl) ?_
            refine mw_nald (k := i) J hK hP 0 (mw_ov_is (i := (9 + 4 * d + 1)) ho.1 (by omega) ((hoth _ (by omega) (by omega) (by omega) (by omega)).trans hk1)) rfl (by omega) (by decide) d_Sv_addJoined_146 ?_
            refine lv_iload hx hb d_Sv_addJoined_147 (lv_at hl 7 rfl) ?_
            refine lv_iand hx hb d_Sv_addJoined_149 ?_
            refine mw_top (x' := nI (pr i &&& rk_m (rk_ink P (rk_tb (K &&& Bd))))) (nx_and _ _) ?_
            refine lv_iload hx hb d_Sv_addJoined_150 (lv_at hl 8 rfl) ?_
            refine lv_icmp_eq (tgt := 158) hx hb d_Sv_addJoined_152 (by decide) (fun c_152 => ?_) (fun c_152 => ?_)
            · have c_152 : (pr i &&& rk_m (rk_ink P (rk_tb (K &&& Bd)))) = (rk_v (rk_ink P (rk_tb (K &&& Bd))) (fun j => u (rk_at P j - 32))) := (nI_eq (Nat.lt_of_le_of_lt Nat.and_le_left (by have := hpr i (by omega); omega)) (Nat.lt_trans (rk_v_lt (fun j _ => hu _)) (by decide))).mp c_152
              have hcn : rk_cons P (fun x => rk_tb K x && rk_tb Bd x) u (pr i) := by rw [← rk_tb_and]; exact (rk_cons_sel (hpr i (by omega)) hu).mp c_152
              refine lv_aload hx hb d_Sv_addJoined_158 (lv_at hl 6 rfl) ?_
              refine mw_get (v := .ref src) (ci := 4) (C := R_Co) (T := T_Co) (N := 6) J i_Co hK hP (mw_ov_is (i := (9 + 4 * d)) ho.1 (by omega) ((hoth _ (by omega) (by omega) (by omega) (by omega)).trans hk0)) rfl 3 (by decide) (hts _ k_110) (fun _ h9 => h9) rfl d_Sv_addJoined_160 ?_
              refine lv_aload hx hb d_Sv_addJoined_163 (lv_at hl 6 rfl) ?_
              refine mw_get (v := .ref (ad (9 + 4 * d + 1))) (ci := 4) (C := R_Co) (T := T_Co) (N := 6) J i_Co hK hP (mw_ov_is (i := (9 + 4 * d)) ho.1 (by omega) ((hoth _ (by omega) (by omega) (by omega) (by omega)).trans hk0)) rfl 0 (by decide) (hts _ k_105) (fun _ h9 => h9) rfl d_Sv_addJoined_165 ?_
              refine lv_iload hx hb d_Sv_addJoined_168 (lv_at hl 9 rfl) ?_
              refine mw_nald (k := i) J hK hP 0 (mw_ov_is (i := (9 + 4 * d + 1)) ho.1 (by omega) ((hoth _ (by omega) (by omega) (by omega) (by omega)).trans hk1)) rfl (by omega) (by decide) d_Sv_addJoined_170 ?_
              refine lv_aload hx hb d_Sv_addJoined_171 (lv_at hl 6 rfl) ?_
              refine mw_get (v := .int (nI K)) (ci := 4) (C := R_Co) (T := T_Co) (N := 6) J i_Co hK hP (mw_ov_is (i := (9 + 4 * d)) ho.1 (by omega) ((hoth _ (by omega) (by omega) (by omega) (by omega)).trans hk0)) rfl 4 (by decide) (hts _ k_112) (fun _ h9 => h9) rfl d_Sv_addJoined_173 ?_
              refine lv_iload_n hx hb d_Sv_addJoined_176 rfl (lv_at hl 3 rfl) ?_
              refine lv_iconst (v := (-1)) hx hb d_Sv_addJoined_177 (by decide) ?_
              refine lv_ixor hx hb d_Sv_addJoined_178 ?_
              refine lv_iand hx hb d_Sv_addJoined_179 ?_
              refine mw_top (x' := nI (rk_an K Bd)) (rk_an_i _ _) ?_
              refine lv_aload_n hx hb d_Sv_addJoined_180 rfl (lv_at hl 0 rfl) ?_
              refine mw_get (v := .ref (ad 8)) (ci := 5) (C := R_Sv) (T := T_Sv) (N := 4) J i_Sv hK hP (mw_ov_is (i := 1) ho.1 (by decide) hx1) rfl 1 (by decide) (hts _ k_130) (fun _ h9 => h9) rfl d_Sv_addJoined_181 ?_
              refine mw_afterV hP hS hA (mw_runV (As := [.int (nI (pr i)), .int (nI (rk_an K Bd)), .ref (ad 8)]) (rest := []) J hK hZ hP hS hA (srcp _).choose_spec.choose_spec rfl (c_Pt_bind l D cI cZ cP cR cC tS _ (mw_ov B ad cx 21) src P (k_pat_mono hpp (k_fr ho _)) (pr i) (hpr i (by omega)) (rk_an K Bd) (rk_an_lt hK8) (ad 8) u1 hu1 (mw_ov_is (i := 8) ho.1 (by decide) hx8)) (cwV 3 hts (mw_gV k_243 k_244 k_245 k_6 k_246) rfl rfl rfl (by decide +kernel) ⟨(by dsimp only; omega), (by dsimp only; omega)⟩) rfl hl.1 rfl (Nat.le_of_ble_eq_true rfl) d_Sv_addJoined_184 ⟨Nat.le_of_ble_eq_true rfl, Nat.le_of_ble_eq_true rfl⟩) (fun M1 H locs hw hP hS => ?_)
              obtain rfl := hw
              rw [mw_ov_set ho.1 (by decide)] at hP
              obtain ⟨u2, eu2⟩ : ∃ z, z = rk_bind P (rk_tb (rk_an K Bd)) (pr i) u1 := ⟨_, rfl⟩
              rw [← eu2] at hP
              have hu2 : rk_okV u2 := by rw [eu2]; exact rk_bind_ok hu1
              have he2 : ∀ x, (rk_tb Bd x || rk_tb K x) = true → u2 x = rk_bind P (fun x => rk_tb K x && !rk_tb Bd x) (pr i) u x := by rw [eu2, rk_tb_an]; exact rk_bind_ext hKP hex
              have he3 : ∀ x, rk_tb Bd x = true → u2 x = u x := fun x hx => by rw [he2 x (by simp [hx]), rk_bind_off (by simp [hx])]
              obtain ⟨cb, ecb⟩ : ∃ z : Nat → va_E, z = va_up cx 8 (.inl (cI, 8, .inl (rk_nf u2))) := ⟨_, rfl⟩
              rw [← ecb] at hP
              have hbo : ∀ z, z ≠ 8 → cb z = cx z := fun z hz => by rw [ecb, va_up_ne _ _ hz]
              have hb8 : cb 8 = .inl (cI, 8, .inl (rk_nf u2)) := by rw [ecb]; exact va_up_self _ _ _
              have ktb : k_tr cI ad cb pm (L ++ Nx) := by
                obtain ⟨fx, wx, a2, a3, a4, a5⟩ := ktx
                exact ⟨fx, wx, (hbo 2 (by decide)).trans a2, (hbo 3 (by decide)).trans a3, (hbo 4 (by decide)).trans a4, a5⟩
              have ksb : k_sv cI cC B ad cb ca cs.length u2 := ⟨(hbo 1 (by decide)).trans hx1, hb8, hu2, fa, hca, hfa⟩
              have hcdb : ∀ e, e < cs.length → k_cold cI B ad cb e (cs.getD e rk_col0) := fun e he => k_cold_same (hcd e he) (fun z hz => by rw [hbo _ (by omega)]; exact hoth _ (by omega) (by omega) (by omega) (by omega))
              have hjb : rk_jn L0 B0 u0 r.2 (cs.drop (d + 1)) (rk_tb (Bd ||| K)) u2 := by rw [rk_tb_or]; exact rk_jn_congr (hjs (pr i)) hu2 he2
              have hhb : ∀ z, rk_hd L0 r.2 (cs.drop (d + 1)) (rk_tb (Bd ||| K)) u2 z ↔ rk_hd L0 r.2 (cs.drop (d + 1)) (fun x => rk_tb Bd x || rk_tb K x) (rk_bind P (fun x => rk_tb K x && !rk_tb Bd x) (pr i) u) z := fun z => by rw [rk_tb_or]; exact rk_hd_congr he2 z
              refine lv_aload_n hx hb d_Sv_addJoined_187 rfl (lv_at hl 0 rfl) ?_
              refine lv_aload_n hx hb d_Sv_addJoined_188 rfl (lv_at hl 1 rfl) ?_
              refine lv_iload_n hx hb d_Sv_addJoined_189 rfl (lv_at hl 2 rfl) ?_
              refine lv_iconst (v := 1) hx hb d_Sv_addJoined_190 (by decide) ?_
              refine mw_top (x' := nI 1) rfl ?_
              refine lv_iadd hx hb d_Sv_addJoined_191 ?_
              refine mw_top (x' := nI (d + 1)) (nI_add _ _) ?_
              refine lv_iload_n hx hb d_Sv_addJoined_192 rfl (lv_at hl 3 rfl) ?_
              refine lv_aload hx hb d_Sv_addJoined_193 (lv_at hl 6 rfl) ?_
              refine mw_get (v := .int (nI K)) (ci := 4) (C := R_Co) (T := T_Co) (N := 6) J i_Co hK hP (mw_ov_is (i := (9 + 4 * d)) ho.1 (by omega) ((hbo _ (by omega)).trans ((hoth _ (by omega) (by omega) (by omega) (by omega)).trans hk0))) rfl 4 (by decide) (hts _ k_112) (fun _ h9 => h9) rfl d_Sv_addJoined_195 ?_
              refine lv_ior hx hb d_Sv_addJoined_198 ?_
              refine mw_top (x' := nI (Bd ||| K)) (nx_or _ _) ?_
              refine mw_afterI hP hS hA (mw_runS (As := [.ref (ad 1), .ref ra, .int (nI (d + 1)), .int (nI (Bd ||| K))]) (rest := []) J hK hZ hP hS hA (IH m1 hm1 _ B ad cb pm (L ++ Nx) ho hpm ktb ca cs u2 ksb hcs3 hcdb ra r hrule (d + 1) (Bd ||| K) (rk_or_lt hBd hK8) (by omega) L0 hL0 B0 u0 hjb) (cwS 4 hts (mw_gS k_278 k_279 k_2 k_280) rfl rfl rfl (by decide +kernel) ⟨(by dsimp only; omega), (by dsimp only; omega)⟩) rfl hl.1 rfl (Nat.le_of_ble_eq_true rfl) d_Sv_addJoined_199 ⟨Nat.le_of_ble_eq_true rfl, Nat.le_of_ble_eq_true rfl⟩) (fun rr M1 H locs hw hP hS => ?_)
              obtain ⟨cy, Ny, u3, rfl, kty, ksy, hey0, hoy0, hNy0, hcase⟩ := hw
              rw [List.append_assoc] at kty hcase
              have hey : ∀ x, rk_tb Bd x = true → u3 x = u x := fun x hx => by rw [hey0 x (by rw [rk_tb_or]; simp [hx]), he3 x hx]
              have hoy : ∀ i, i ≠ 2 → i ≠ 3 → i ≠ 4 → i ≠ 8 → cy i = cw i := fun z h2 h3 h4 h8 => by rw [hoy0 z h2 h3 h4 h8, hbo z h8]; exact hoth z h2 h3 h4 h8
              have hNy : ∀ z, z ∈ Nx ++ Ny → rk_hd L0 r.2 (cs.drop d) (rk_tb Bd) u z := fun z hz => (List.mem_append.mp hz).elim (hNx z) (fun h => (hstep z).mpr ⟨i, by omega, hcn, (hhb z).mp (hNy0 z h)⟩)
              obtain ⟨hy1, hy8, hu3, -, -, -⟩ := id ksy
              obtain ⟨fy, wy, hy2, -⟩ := id kty
              refine lv_if_ne (tgt := 207) hx hb d_Sv_addJoined_202 (by decide) (fun c_202 => ?_) (fun c_202 => ?_)
              · have hall : ∀ z, rk_hd L0 r.2 (cs.drop (d + 1)) (fun x => rk_tb Bd x || rk_tb K x) (rk_bind P (fun x => rk_tb K x && !rk_tb Bd x) (pr i) u) z → z ∈ L ++ (Nx ++ Ny) := fun z hz => by
                  rcases hcase with ⟨_, h⟩ | ⟨h, _⟩
                  · exact h z ((hhb z).mpr hz)
                  · exact absurd h c_202
                have hdo2 : ∀ i', i' < i → rk_cons P (fun x => rk_tb K x && rk_tb Bd x) u (pr i') → ∀ z, rk_hd L0 r.2 (cs.drop (d + 1)) (fun x => rk_tb Bd x || rk_tb K x) (rk_bind P (fun x => rk_tb K x && !rk_tb Bd x) (pr i') u) z → z ∈ L ++ (Nx ++ Ny) := fun i' hi' hc z hz => by
                  have := hdone i' hi' hc z hz
                  rw [← List.append_assoc]
                  exact List.mem_append_left _ this
                refine lv_iload hx hb d_Sv_addJoined_207 (lv_at hl 4 rfl) ?_
                refine lv_if_eq (tgt := 226) hx hb d_Sv_addJoined_209 (by decide) (fun c_209 => ?_) (fun c_209 => ?_)
                · exact absurd c_209 (by decide)
                · refine lv_aload_n hx hb d_Sv_addJoined_212 rfl (lv_at hl 0 rfl) ?_
                  refine mw_get (v := .ref (ad 2)) (ci := 5) (C := R_Sv) (T := T_Sv) (N := 4) J i_Sv hK hP (mw_ov_is (i := 1) ho.1 (by decide) hy1) rfl 0 (by decide) (hts _ k_128) (fun _ h9 => h9) rfl d_Sv_addJoined_213 ?_
                  refine lv_iload hx hb d_Sv_addJoined_216 (lv_at hl 5 rfl) ?_
                  refine mw_afterI hP hS hA (mw_runV (As := [.int (nI (rk_v (fun j => rk_num r.2 j || rk_ink r.2 (rk_tb Bd) j) (rk_wt r.2 u)))]) (rest := []) J hK hZ hP hS hA (mw_ov_is (i := 2) ho.1 (by decide) hy2) rfl (c_Tr_has l D cI cZ cP cR cC tS _ B ad cy pm (L ++ (Nx ++ Ny)) ho hpm kty (rk_v (fun j => rk_num r.2 j || rk_ink r.2 (rk_tb Bd) j) (rk_wt r.2 u)) (rk_v_lt (fun j _ => rk_wt_lt hu j))) (cwV 1 hts (mw_gV k_281 k_208 k_209 k_3 k_210) rfl rfl rfl (by decide +kernel) ⟨(by dsimp only; omega), (by dsimp only; omega)⟩) rfl hl.1 rfl (Nat.le_of_ble_eq_true rfl) d_Sv_addJoined_218 ⟨Nat.le_of_ble_eq_true rfl, Nat.le_of_ble_eq_true rfl⟩) (fun r M1 H locs hw hP hS => ?_)
                  obtain ⟨rfl, rfl⟩ := hw
                  refine lv_if_eq (tgt := 226) hx hb d_Sv_addJoined_221 (by decide) (fun c_221 => ?_) (fun c_221 => ?_)
                  · refine lv_iinc (v := nI (i + 1)) (lv' := [(9, .int (nI (i + 1))), (0, .ref (ad 1)), (1, .ref ra), (2, .int (nI d)), (3, .int (nI Bd)), (4, .int 1), (5, .int (nI (rk_v (fun j => rk_num r.2 j || rk_ink r.2 (rk_tb Bd) j) (rk_wt r.2 u)))), (6, .ref (ad (9 + 4 * d))), (7, .int (nI (rk_m (rk_ink P (rk_tb (K &&& Bd)))))), (8, .int (nI (rk_v (rk_ink P (rk_tb (K &&& Bd))) (fun j => u (rk_at P j - 32)))))]) hx hb d_Sv_addJoined_226 hl (k := 9) rfl (nI_1 i) (by decide) rfl (fun ls hl => ?_)
                    refine lv_goto (tgt := 129) hx hb d_Sv_addJoined_229 (by decide) ?_
                    exact ih_129 _ _ _ (by omega) ⟨cy, (Nx ++ Ny), u3, lv_sub hl [1, 2, 3, 4, 5, 6, 7, 8, 9, 0] rfl, kty, ksy, hey, hoy, hNy, (lt_s hdo2 (fun _ z hz => hall z hz)), hP, hS⟩
                  · have hyc : (rk_v (fun j => rk_num r.2 j || rk_ink r.2 (rk_tb Bd) j) (rk_wt r.2 u)) ∈ L ++ (Nx ++ Ny) := Classical.byContradiction fun z => c_221 (if_neg z)
                    refine lv_iconst (v := 1) hx hb d_Sv_addJoined_224 (by decide) ?_
                    exact mw_zret J hr hlk rfl hP hS d_Sv_addJoined_225 (⟨cy, Nx ++ Ny, u3, rfl, kty, ksy, hey, hoy, hNy, Or.inl ⟨rfl, fun z hz => by rw [rk_hd_known hkn hz, ← hcode]; exact hyc⟩⟩)
              · have hz0 : (L ++ (Nx ++ Ny)).length = 300 ∧ ∃ z, rk_hd L0 r.2 (cs.drop d) (rk_tb Bd) u z ∧ z ∉ L ++ (Nx ++ Ny) := by
                  rcases hcase with ⟨h, _⟩ | ⟨_, h, z, hz, hn⟩
                  · rw [h] at c_202
                    exact absurd c_202 (by decide)
                  · exact ⟨h, z, (hstep z).mpr ⟨i, by omega, hcn, (hhb z).mp hz⟩, hn⟩
                refine lv_iconst (v := 0) hx hb d_Sv_addJoined_205 (by decide) ?_
                exact mw_zret J hr hlk rfl hP hS d_Sv_addJoined_206 (⟨cy, Nx ++ Ny, u3, rfl, kty, ksy, hey, hoy, hNy, Or.inr ⟨rfl, hz0⟩⟩)
            · have c_152 : ¬ ((pr i &&& rk_m (rk_ink P (rk_tb (K &&& Bd)))) = (rk_v (rk_ink P (rk_tb (K &&& Bd))) (fun j => u (rk_at P j - 32)))) := fun z => c_152 ((nI_eq (Nat.lt_of_le_of_lt Nat.and_le_left (by have := hpr i (by omega); omega)) (Nat.lt_trans (rk_v_lt (fun j _ => hu _)) (by decide))).mpr z)
              have hcn : ¬ rk_cons P (fun x => rk_tb K x && rk_tb Bd x) u (pr i) := fun z => c_152 ((rk_cons_sel (hpr i (by omega)) hu).mpr (by rw [rk_tb_and]; exact z))
              refine lv_goto (tgt := 226) hx hb d_Sv_addJoined_155 (by decide) ?_
              refine lv_iinc (v := nI (i + 1)) (lv' := [(9, .int (nI (i + 1))), (0, .ref (ad 1)), (1, .ref ra), (2, .int (nI d)), (3, .int (nI Bd)), (4, .int 1), (5, .int (nI (rk_v (fun j => rk_num r.2 j || rk_ink r.2 (rk_tb Bd) j) (rk_wt r.2 u)))), (6, .ref (ad (9 + 4 * d))), (7, .int (nI (rk_m (rk_ink P (rk_tb (K &&& Bd)))))), (8, .int (nI (rk_v (rk_ink P (rk_tb (K &&& Bd))) (fun j => u (rk_at P j - 32)))))]) hx hb d_Sv_addJoined_226 hl (k := 9) rfl (nI_1 i) (by decide) rfl (fun ls hl => ?_)
              refine lv_goto (tgt := 129) hx hb d_Sv_addJoined_229 (by decide) ?_
              exact ih_129 _ _ _ (by omega) ⟨cx, Nx, u1, lv_sub hl [1, 2, 3, 4, 5, 6, 7, 8, 9, 0] rfl, ktx, ksx, hex, hoth, hNx, (lt_s hdone (fun z => absurd z hcn)), hP, hS⟩
        · have c_67 : ¬ (d < cs.length) := fun z => c_67 ((nI_ltI (by omega) (by omega)).mpr z)
          have hdr : cs.drop d = [] := List.drop_eq_nil_of_le (by omega)
          rw [hdr] at hjn
          have hkn2 : ∀ x, rk_in r.2 x → rk_tb Bd x = true := fun x hx => (hjn.2.2.2.2.2.2 x hx).elim id (fun ⟨c, hc, _⟩ => absurd hc List.not_mem_nil)
          have hnil := fun z => rk_hd_nil (L := L0) (B := rk_tb Bd) hu hkn z
          refine lv_aload_n hx hb d_Sv_addJoined_70 rfl (lv_at hl 2 rfl) ?_
          refine mw_get (v := .ref (ad 2)) (ci := 5) (C := R_Sv) (T := T_Sv) (N := 4) J i_Sv hK hP (mw_ov_is (i := 1) ho.1 (by decide) hc1) rfl 0 (by decide) (hts _ k_128) (fun _ h9 => h9) rfl d_Sv_addJoined_71 ?_
          refine lv_iload hx hb d_Sv_addJoined_74 (lv_at hl 0 rfl) ?_
          refine mw_afterI hP hS hA (mw_runV (As := [.int (nI (rk_v (fun j => rk_num r.2 j || rk_ink r.2 (rk_tb Bd) j) (rk_wt r.2 u)))]) (rest := []) J hK hZ hP hS hA (mw_ov_is (i := 2) ho.1 (by decide) hc2) rfl (c_Tr_add l D cI cZ cP cR cC tS _ B ad cw pm L ho hpm ht (rk_v (fun j => rk_num r.2 j || rk_ink r.2 (rk_tb Bd) j) (rk_wt r.2 u)) (rk_v_lt (fun j _ => rk_wt_lt hu j)) hnc) (cwV 1 hts (mw_gV k_282 k_217 k_218 k_3 k_219) rfl rfl rfl (by decide +kernel) ⟨(by dsimp only; omega), (by dsimp only; omega)⟩) rfl hl.1 rfl (Nat.le_of_ble_eq_true rfl) d_Sv_addJoined_76 ⟨Nat.le_of_ble_eq_true rfl, Nat.le_of_ble_eq_true rfl⟩) (fun rr M1 H locs hw hP hS => ?_)
          refine mw_zret J hr hlk (by rcases hw with ⟨_, h, _⟩ | ⟨_, h, _⟩ <;> rw [h] <;> rfl) hP hS d_Sv_addJoined_79 (?_)
          rcases hw with ⟨h1, h2, cz, rfl, ktz, hoz⟩ | ⟨h1, h2, rfl⟩
          · refine ⟨cz, [(rk_v (fun j => rk_num r.2 j || rk_ink r.2 (rk_tb Bd) j) (rk_wt r.2 u))], u, rfl, ktz, ⟨(hoz 1 (by decide) (by decide) (by decide)).trans hc1, (hoz 8 (by decide) (by decide) (by decide)).trans hc8, hu, fa, hca, hfa⟩, fun _ _ => rfl, fun i h2 h3 h4 _ => hoz i h2 h3 h4, fun z hz => ?_, Or.inl ⟨h2, fun z hz => ?_⟩⟩
            · rw [hdr, hnil z, List.mem_singleton.mp hz, hcode]
            · rw [hdr, hnil z, ← hcode] at hz
              rw [hz]
              simp
          · refine ⟨cw, [], u, rfl, by rw [List.append_nil]; exact ht, hsv, fun _ _ => rfl, fun _ _ _ _ _ => rfl, fun z hz => absurd hz List.not_mem_nil, Or.inr ⟨h2, by rw [List.append_nil]; exact h1, (rk_v (fun j => rk_num r.2 j || rk_ink r.2 (rk_tb Bd) j) (rk_wt r.2 u)), ?_, by rw [List.append_nil]; exact hnc⟩⟩
            rw [hdr, hnil, hcode]
      · have hyc : (rk_v (fun j => rk_num r.2 j || rk_ink r.2 (rk_tb Bd) j) (rk_wt r.2 u)) ∈ L := Classical.byContradiction fun z => c_57 (if_neg z)
        refine lv_iconst (v := 1) hx hb d_Sv_addJoined_60 (by decide) ?_
        exact mw_zret J hr hlk rfl hP hS d_Sv_addJoined_61 (⟨cw, [], u, rfl, by rw [List.append_nil]; exact ht, hsv, fun _ _ => rfl, fun _ _ _ _ _ => rfl, fun z hz => absurd hz List.not_mem_nil, Or.inl ⟨rfl, fun z hz => by rw [List.append_nil, rk_hd_known hkn hz, ← hcode]; exact hyc⟩⟩)
theorem c_Sv_addj (l : Launch) (D : va_G) (cI cZ cP cR cC : ClassId) (tS : Nat) : ∀ m0, k_addj l D cI cZ cP cR cC tS m0
  | 0 => c_Sv_addj_step l D cI cZ cP cR cC tS 0 (fun m1 h => absurd h (by omega))
  | m0 + 1 => c_Sv_addj_step l D cI cZ cP cR cC tS (m0 + 1) (fun m1 h => by
    have e : m1 = m0 := by omega
    rw [e]
    exact c_Sv_addj l D cI cZ cP cR cC tS m0)
end
section
/-! one derivation step: what each way through it gives -/
theorem rk_take_new {L : List Nat} {a k : Nat} (ha : a < L.length) (h1 : ¬ k ∈ L.take a) (h2 : k ∈ L.take (a + 1)) : k = L.getD a 0 := by
  rw [rk_take_succ ha] at h2
  rcases List.mem_append.mp h2 with z | z
  · exact absurd z h1
  · exact List.mem_singleton.mp z
theorem rk_take_last {L : List Nat} {a : Nat} (ha : a < L.length) : L.getD a 0 ∈ L.take (a + 1) := by
  rw [rk_take_succ ha]
  simp
theorem rk_take_mem {L : List Nat} {a j : Nat} (hj : j < a) (ha : a ≤ L.length) : L.getD j 0 ∈ L.take a := by
  rw [← rk_getD_take hj]
  exact rk_getD_mem (by rw [List.length_take]; omega)
theorem rk_fits_of {P : rk_Pt} {v : Nat → Nat} (hv : rk_okV v) : rk_fits P (rk_inst P v) := (rk_mt_iff (rk_inst_lt hv) (fun x hx => by cases hx)).mpr ⟨v, hv, (fun x hx => by cases hx), rfl⟩
theorem rk_bind_fit {P : rk_Pt} {S : Nat → Bool} {q : Nat} {u : Nat → Nat} (hf : rk_fits P q) : ∀ j x, j < 3 → rk_at P j = 32 + x → S x = true → rk_bind P S q u x = rk_dg q j := by
  intro j x hj e hS
  have ha : rk_agr P S q := fun i hi k hk _ z => hf.2.2 i k hi hk z
  have := rk_bind_at (u := u) ha hj (rk_ink_of e hS)
  rw [e, Nat.add_sub_cancel_left] at this
  exact this
theorem rk_drv_nofit {r : rk_Ru} {wi : Nat} {L : List Nat} {a : Nat} {X : Nat → Prop} (ha : a < L.length) (hwi : wi < r.1.length) (hnf : ¬ rk_fits (rk_nth r wi) (L.getD a 0)) : rk_drv r wi (· ∈ L.take a) (· ∈ L.take (a + 1)) X := by
  intro v hv h1 h2
  exact absurd (by rw [← rk_take_new ha h1 (h2 wi hwi)]; exact rk_fits_of hv) hnf
theorem rk_drv_before {r : rk_Ru} {wi : Nat} {L : List Nat} {a j : Nat} {X : Nat → Prop} {u : Nat → Nat} (ha : a < L.length) (hlt : ∀ k, k ∈ L → k < 32768) (hwi : wi < r.1.length) (hu : rk_okV u) (hub : ∀ j x, j < 3 → rk_at (rk_nth r wi) j = 32 + x → rk_tb (rk_shm r wi) x = true → u x = rk_dg (L.getD a 0) j) (hj : j < a) (hm : rk_mt (rk_nth r wi) (rk_tb (rk_shm r wi)) u (L.getD j 0)) : rk_drv r wi (· ∈ L.take a) (· ∈ L.take (a + 1)) X := by
  intro v hv h1 h2
  have e := rk_take_new ha h1 (h2 wi hwi)
  obtain ⟨w, hw, hB, hi⟩ := (rk_mt_iff (hlt _ (rk_getD_mem (by omega))) (fun x _ => hu x)).mp hm
  refine Or.inr ⟨w, hw, by show rk_inst (rk_nth r wi) w ∈ L.take a; rw [hi]; exact rk_take_mem hj (by omega), fun x hx => ?_⟩
  have hb : rk_tb (rk_shm r wi) x = true := rk_shm_tb.mpr hx
  obtain ⟨i, hi3, ei⟩ := hx.1
  rw [hB x hb, hub i x hi3 ei hb]
  exact rk_dg_inst hv e hi3 ei
theorem rk_drv_empty {r : rk_Ru} {wi : Nat} {L : List Nat} {a j : Nat} {X : Nat → Prop} {u : Nat → Nat} (ha : a < L.length) (hwi : wi < r.1.length) (hu : rk_okV u) (hub : ∀ j x, j < 3 → rk_at (rk_nth r wi) j = 32 + x → rk_tb (rk_shm r wi) x = true → u x = rk_dg (L.getD a 0) j) (hj : j < r.1.length) (hm : ∀ k, k ∈ L.take (a + 1) → ¬ rk_mt (rk_nth r j) (rk_tb (rk_shm r wi)) u k) : rk_drv r wi (· ∈ L.take a) (· ∈ L.take (a + 1)) X := by
  intro v hv h1 h2
  have e := rk_take_new ha h1 (h2 wi hwi)
  refine absurd ((rk_mt_iff (rk_inst_lt hv) (fun x _ => hu x)).mpr ⟨v, hv, fun x hx => ?_, rfl⟩) (hm _ (h2 j hj))
  obtain ⟨i, hi3, ei⟩ := (rk_shm_tb.mp hx).1
  rw [hub i x hi3 ei hx]
  exact (rk_dg_inst hv e hi3 ei).symm
theorem rk_drv_join {r : rk_Ru} {wi : Nat} {L : List Nat} {a : Nat} {X : Nat → Prop} (ha : a < L.length) (hwi : wi < r.1.length) (hX : ∀ z, (∃ v, rk_okV v ∧ rk_inst (rk_nth r wi) v = L.getD a 0 ∧ (∀ j, j < r.1.length → j ≠ wi → rk_inst (rk_nth r j) v ∈ L.take (a + 1)) ∧ rk_inst r.2 v = z) → X z) : rk_drv r wi (· ∈ L.take a) (· ∈ L.take (a + 1)) X := by
  intro v hv h1 h2
  exact Or.inl (hX _ ⟨v, hv, rk_take_new ha h1 (h2 wi hwi), fun j hj _ => h2 j hj, rfl⟩)
theorem rk_case_of {r : rk_Ru} {wi q : Nat} {S : Nat → Prop} {v : Nat → Nat} (hv : rk_okV v) (hq : S q) (h1 : rk_inst (rk_nth r wi) v = q) (h2 : ∀ j, j < r.1.length → j ≠ wi → S (rk_inst (rk_nth r j) v)) : rk_case r S v := by
  refine ⟨hv, fun P hP => ?_⟩
  obtain ⟨i, hi, rfl⟩ := rk_mem_nth hP
  by_cases e : i = wi
  · rw [e, h1]
    exact hq
  · exact h2 i hi e
/-- the columns of a rule join well, from a place of the body -/
theorem rk_jn_of {L : List Nat} {r : rk_Ru} {b wo : Nat} {cf : Nat → rk_Col} {u : Nat → Nat} (hu : rk_okV u) (hcf : ∀ j, j < r.1.length → j ≠ wo → rk_iscol r b j (cf j) ∧ rk_colok L (rk_tb b) u (cf j)) (hh : ∀ x, rk_in r.2 x → rk_tb b x = true ∨ ∃ j, j < r.1.length ∧ j ≠ wo ∧ rk_in (rk_nth r j) x) : rk_jn L (rk_tb b) u r.2 (rk_cols r wo cf r.1.length) (rk_tb b) u := by
  have hkb : ∀ j x, j < r.1.length → j ≠ wo → rk_in r.2 x → rk_in (rk_nth r j) x → (cf j).2.1 x = true ∨ rk_tb b x = true := by
    intro j x hj hne hx hin
    rw [(hcf j hj hne).1.2, rk_tb_an]
    have : rk_tb (rk_shm r j) x = true := rk_shm_tb.mpr ⟨hin, Or.inl hx⟩
    cases e : rk_tb b x
    · exact Or.inl (by simp [this, e])
    · exact Or.inr rfl
  refine ⟨hu, fun x hx => ⟨hx, rfl⟩, fun c hc => ?_, rk_cols_pw (fun i j hij hj hi hj2 => rk_shr2_of (hcf i (by omega) hi).1 (hcf j hj hj2).1 (by omega) hj (by omega)), fun c hc x _ hB => Or.inl hB, fun c hc x hx hin => ?_, fun x hx => ?_⟩
  · obtain ⟨j, h1, h2, rfl⟩ := rk_cols_mem.mp hc
    exact (hcf j h1 h2).2
  · obtain ⟨j, h1, h2, rfl⟩ := rk_cols_mem.mp hc
    rw [(hcf j h1 h2).1.1] at hin
    exact hkb j x h1 h2 hx hin
  · rcases hh x hx with z | ⟨j, h1, h2, h3⟩
    · exact Or.inl z
    · rcases hkb j x h1 h2 hx h3 with z | z
      · exact Or.inr ⟨cf j, rk_cols_mem.mpr ⟨j, h1, h2, rfl⟩, z⟩
      · exact Or.inl z
/-- all the columns: their patterns are the body -/
theorem rk_cols_all {r : rk_Ru} {wo : Nat} {cf : Nat → rk_Col} : ∀ {n : Nat}, n ≤ wo → n ≤ r.1.length → (∀ j, j < n → (cf j).1 = rk_nth r j) → (rk_cols r wo cf n).map (fun c => c.1) = r.1.take n
  | 0, _, _, _ => by simp [rk_cols]
  | n + 1, h, hn, hc => by
    show (rk_cols r wo cf n ++ (if n = wo then [] else [cf n])).map (fun c => c.1) = r.1.take (n + 1)
    rw [if_neg (by omega), List.map_append, rk_cols_all (by omega) (by omega) (fun j hj => hc j (by omega)), List.take_add_one]
    congr 1
    rw [List.map_cons, hc n (by omega), List.getElem?_eq_getElem (by omega)]
    unfold rk_nth
    rw [List.getD_eq_getElem?_getD, List.getElem?_eq_getElem (by omega)]
    rfl
/-- the count of the whole join is the support that the rule gives -/
theorem rk_cj_sup {L : List Nat} (hL : ∀ k, k ∈ L → k < 32768) {r : rk_Ru} {wo q : Nat} {cf : Nat → rk_Col} {u : Nat → Nat} (hq : q < 32768) (hwo : r.1.length ≤ wo) (hu : rk_okV u) (hf : rk_fits r.2 q) (hub : ∀ j x, j < 3 → rk_at r.2 j = 32 + x → rk_tb (rk_vars r.2) x = true → u x = rk_dg q j) (hcf : ∀ j, j < r.1.length → j ≠ wo → rk_iscol r (rk_vars r.2) j (cf j) ∧ rk_colok L (rk_tb (rk_vars r.2)) u (cf j)) : rk_cj (rk_cols r wo cf r.1.length) (rk_tb (rk_vars r.2)) u = rk_sup L r q := by
  have hjn := rk_jn_of hu hcf (fun x hx => Or.inl (rk_vars_tb.mpr hx))
  rw [rk_cj_tup hL hu hjn.2.1 hjn.2.2.1 hjn.2.2.2.1 hjn.2.2.2.2.1, rk_cols_all hwo (Nat.le_refl _) (fun j hj => (hcf j hj (by omega)).1.1), List.take_length]
  unfold rk_sup
  have key : ∀ v, rk_okV v → (rk_ext (rk_tb (rk_vars r.2)) u v ↔ rk_inst r.2 v = q) := by
    intro v hv
    constructor
    · intro h
      symm
      rw [rk_is_inst hv hq]
      intro j hj
      unfold rk_val
      by_cases hn : rk_at r.2 j < 32
      · rw [if_pos hn]
        exact hf.1 j hj hn
      · rw [if_neg hn]
        have hb : rk_tb (rk_vars r.2) (rk_at r.2 j - 32) = true := rk_vars_tb.mpr ⟨j, hj, by omega⟩
        rw [h _ hb, hub j _ hj (by omega) hb]
    · intro h x hx
      obtain ⟨j, hj, e⟩ := rk_vars_tb.mp hx
      rw [hub j x hj e hx]
      exact (rk_dg_inst hv h hj e).symm
  exact rk_tup_congr (fun v hv h => ⟨v, hv, (key v hv).mp h, fun _ _ _ _ => rfl⟩) (fun v hv h => ⟨v, hv, (key v hv).mpr h, fun _ _ _ _ => rfl⟩)
theorem rk_sup_nofit {L : List Nat} {r : rk_Ru} {q : Nat} (h : ¬ rk_fits r.2 q) : rk_sup L r q = 0 := rk_tup_none (fun v hv e => h (by rw [← e]; exact rk_fits_of hv))
theorem rk_tup_pick {L : List Nat} : ∀ {Ps : List rk_Pt} {F : (Nat → Nat) → Prop} {P : rk_Pt}, P ∈ Ps → (∀ v, rk_okV v → F v → rk_inst P v ∉ L) → rk_tup L Ps F = 0
  | P0 :: Ps, F, P, hP, h => by
    show rk_sum L (fun k => rk_tup L Ps (fun v => F v ∧ rk_inst P0 v = k)) = 0
    refine rk_sum_0 (fun k hk => ?_)
    rcases List.mem_cons.mp hP with rfl | hP
    · exact rk_tup_none (fun v hv z => h v hv z.1 (by rw [z.2]; exact hk))
    · exact rk_tup_pick hP (fun v hv z => h v hv z.1)
theorem rk_sup_empty {L : List Nat} {r : rk_Ru} {q j : Nat} {u : Nat → Nat} (hu : rk_okV u) (hub : ∀ j x, j < 3 → rk_at r.2 j = 32 + x → rk_tb (rk_vars r.2) x = true → u x = rk_dg q j) (hj : j < r.1.length) (hm : ∀ k, k ∈ L → ¬ rk_mt (rk_nth r j) (rk_tb (rk_vars r.2)) u k) : rk_sup L r q = 0 := by
  refine rk_tup_pick (rk_nth_mem hj) (fun v hv e hin => ?_)
  refine hm _ hin ((rk_mt_iff (rk_inst_lt hv) (fun x _ => hu x)).mpr ⟨v, hv, fun x hx => ?_, rfl⟩)
  obtain ⟨i, hi3, ei⟩ := rk_vars_tb.mp hx
  rw [hub i x hi3 ei hx]
  exact (rk_dg_inst hv e hi3 ei).symm
end
section
theorem rk_nn1 : ∀ j, j < 3 → nI j ≠ -1 := by decide +kernel
/-! Solver.derive, casesGiving -/
set_option maxHeartbeats 4000000 in
set_option maxRecDepth 100000 in
theorem c_Sv_derive (l : Launch) (D : va_G) (cI cZ cP cR cC : ClassId) (tS : Nat) (sz : Nat) (B : mw_M) (ad : Nat → Nat) (cw : Nat → va_E) (pm : Nat) (L : List Nat) (ho : k_ov B ad) (hpm : B pm = some (.inr (0, [.ref (ad 4)]))) (ht : k_tr cI ad cw pm L) (ca cc : Nat) (u : Nat → Nat) (hsv : k_sv cI cC B ad cw ca cc u) (hbl : ∀ d, d < 3 → k_blank cI ad cw d) (ra : Nat) (r : rk_Ru) (hrule : k_rule cI cP B ra r) (hok : rk_okR r) (wi a0 : Nat) (hwi : wi < r.1.length) (ha : a0 < L.length) :
    Met l y_Sv_derive (.code y_Sv_derive b_Sv_derive 7 (some .boolean) :: gw) ({ frames := 7, cells := 0, slots := 0, locals := 158 }) (va_Pc [.ref (ad 1), .ref ra, .int (nI wi), .int (nI a0)] (mw_B D k_cl (k_tys cI cZ cP cR cC) (k_g tS) (mw_ov B ad cw 21) sz)) (va_Qi (fun (rr : Int32) (M1 : mw_M) => ∃ cw1 N1 u1 cc1, M1 = mw_ov B ad cw1 21 ∧ k_tr cI ad cw1 pm (L ++ N1) ∧ k_sv cI cC B ad cw1 ca cc1 u1 ∧ (∀ d, d < 3 → k_blank cI ad cw1 d) ∧ (∀ i, i = 0 ∨ i = 5 ∨ i = 6 ∨ i = 7 → cw1 i = cw i) ∧ (∀ z, z ∈ N1 → ∃ v, rk_case r (· ∈ L.take (a0 + 1)) v ∧ rk_inst r.2 v = z) ∧ ((rr = 1 ∧ rk_drv r wi (· ∈ L.take a0) (· ∈ L.take (a0 + 1)) (· ∈ L ++ N1)) ∨ (rr = 0 ∧ (L ++ N1).length = 300 ∧ ∃ z, z ∉ L ++ N1 ∧ ∃ v, rk_case r (· ∈ L.take (a0 + 1)) v ∧ rk_inst r.2 v = z))) (mw_E D k_cl (mw_ov B ad cw 21) sz) (mw_A (mw_ov B ad cw 21) sz)) 0 0 (mw_A (mw_ov B ad cw 21) sz) := by
  refine mw_met (by decide) rfl (Nat.le_of_ble_eq_true rfl) ?_
  intro p e s m below meth c hsz J hr hlk hnm hK hZ hP hS hA ls hl
  subst hsz
  have hx := J.1
  have hb := J.2.1
  have hts := J.2.2.2.2
  have hl : lv_has ls 7 [(0, .ref (ad 1)), (1, .ref ra), (2, .int (nI wi)), (3, .int (nI a0))] := hl
  have ht0 := ht
  have hsv0 := hsv
  obtain ⟨fc, w, hc2, hc3, hc4, hfc, hW, hL3, hnd, hlt⟩ := ht
  obtain ⟨hc1, hc8, hu, fa, hca, hfa⟩ := hsv
  obtain ⟨hr3, bo, hd, sh, fo, fs, hr1, hr2, hr4, hrh, hfo, hfs⟩ := id hrule
  have hq : (L.getD a0 0) < 32768 := hlt _ (rk_getD_mem ha)
  obtain ⟨p0, hpo, hpp⟩ := hfo wi hwi
  have hsh8 : (rk_shm r wi) < 256 := rk_shm_lt hpp.1
  have pp : ∀ c, ∃ b q, mw_ov B ad c 21 p0 = some (.inr (2, k_pf (rk_nth r wi) b q)) := fun c => by
    obtain ⟨-, b, q, _, _, h, -⟩ := k_pat_mono hpp (k_fr ho c)
    exact ⟨b, q, h⟩
  refine lv_aload_n hx hb d_Sv_derive_0 rfl (lv_at hl 1 rfl) ?_
  refine mw_get (v := .ref bo) (ci := 3) (C := R_Ru) (T := T_Ru) (N := 3) J i_Ru hK hP (mw_ov_fr ho.2 hr1) rfl 0 (by decide) (hts _ k_155) (fun _ h9 => h9) rfl d_Sv_derive_1 ?_
  refine lv_iload_n hx hb d_Sv_derive_4 rfl (lv_at hl 2 rfl) ?_
  refine mw_aaldN (k := wi) (b := p0) J hK hP 2 (mw_ov_fr ho.2 hr2) rfl hwi (by omega) hpo d_Sv_derive_5 ?_
  refine lv_astore (lv' := [(4, .ref p0), (0, .ref (ad 1)), (1, .ref ra), (2, .int (nI wi)), (3, .int (nI a0))]) hx hb d_Sv_derive_6 hl (by decide) rfl (fun ls hl => ?_)
  refine lv_aload_n hx hb d_Sv_derive_8 rfl (lv_at hl 1 rfl) ?_
  refine mw_get (v := .ref (ad 2)) (ci := 5) (C := R_Sv) (T := T_Sv) (N := 4) J i_Sv hK hP (mw_ov_is (i := 1) ho.1 (by decide) hc1) rfl 0 (by decide) (hts _ k_128) (fun _ h9 => h9) rfl d_Sv_derive_9 ?_
  refine mw_get (v := .ref (ad 3)) (ci := 1) (C := R_Tr) (T := T_Tr) (N := 3) J i_Tr hK hP (mw_ov_is (i := 2) ho.1 (by decide) hc2) rfl 0 (by decide) (hts _ k_42) (fun _ h9 => h9) rfl d_Sv_derive_12 ?_
  refine lv_iload_n hx hb d_Sv_derive_15 rfl (lv_at hl 4 rfl) ?_
  refine mw_nald (k := a0) J hK hP 0 (mw_ov_is (i := 3) ho.1 (by decide) hc3) rfl (by omega) (by decide) d_Sv_derive_16 ?_
  refine mw_top (x' := nI (L.getD a0 0)) (by rw [hfc a0 ha]) ?_
  refine lv_istore (lv' := [(5, .int (nI (L.getD a0 0))), (4, .ref p0), (0, .ref (ad 1)), (1, .ref ra), (2, .int (nI wi)), (3, .int (nI a0))]) hx hb d_Sv_derive_17 hl (by decide) rfl (fun ls hl => ?_)
  refine lv_aload hx hb d_Sv_derive_19 (lv_at hl 1 rfl) ?_
  refine lv_iload hx hb d_Sv_derive_21 (lv_at hl 0 rfl) ?_
  refine mw_afterI hP hS hA (mw_runV (As := [.int (nI (L.getD a0 0))]) (rest := []) J hK hZ hP hS hA (pp _).choose_spec.choose_spec rfl (c_Pt_fits l D cI cZ cP cR cC tS _ (mw_ov B ad cw 21) p0 (rk_nth r wi) (k_pat_mono hpp (k_fr ho _)) (L.getD a0 0) hq) (cwV 1 hts (mw_gV k_235 k_236 k_237 k_6 k_238) rfl rfl rfl (by decide +kernel) ⟨Nat.le_of_ble_eq_true rfl, Nat.le_of_ble_eq_true rfl⟩) rfl hl.1 rfl (Nat.le_of_ble_eq_true rfl) d_Sv_derive_23 ⟨Nat.le_of_ble_eq_true rfl, Nat.le_of_ble_eq_true rfl⟩) (fun r1 M1 H locs hw hP hS => ?_)
  obtain ⟨rfl, hw⟩ := hw
  refine lv_if_ne (tgt := 31) hx hb d_Sv_derive_26 (by decide) (fun c_26 => ?_) (fun c_26 => ?_)
  · have hfit : rk_fits (rk_nth r wi) (L.getD a0 0) := by
      rcases hw with ⟨_, h⟩ | ⟨h, _⟩
      · exact h
      · exact absurd h c_26
    refine lv_aload_n hx hb d_Sv_derive_31 rfl (lv_at hl 3 rfl) ?_
    refine mw_get (v := .ref sh) (ci := 3) (C := R_Ru) (T := T_Ru) (N := 3) J i_Ru hK hP (mw_ov_fr ho.2 hr1) rfl 2 (by decide) (hts _ k_160) (fun _ h9 => h9) rfl d_Sv_derive_32 ?_
    refine lv_iload_n hx hb d_Sv_derive_35 rfl (lv_at hl 4 rfl) ?_
    refine mw_nald (k := wi) J hK hP 0 (mw_ov_fr ho.2 hr4) rfl hwi (by omega) d_Sv_derive_36 ?_
    refine mw_top (x' := nI (rk_shm r wi)) (by rw [hfs wi hwi]) ?_
    refine lv_istore (lv' := [(6, .int (nI (rk_shm r wi))), (5, .int (nI (L.getD a0 0))), (4, .ref p0), (0, .ref (ad 1)), (1, .ref ra), (2, .int (nI wi)), (3, .int (nI a0))]) hx hb d_Sv_derive_37 hl (by decide) rfl (fun ls hl => ?_)
    refine lv_aload hx hb d_Sv_derive_39 (lv_at hl 2 rfl) ?_
    refine lv_iload hx hb d_Sv_derive_41 (lv_at hl 1 rfl) ?_
    refine lv_iload hx hb d_Sv_derive_43 (lv_at hl 0 rfl) ?_
    refine lv_aload_n hx hb d_Sv_derive_45 rfl (lv_at hl 3 rfl) ?_
    refine mw_get (v := .ref (ad 8)) (ci := 5) (C := R_Sv) (T := T_Sv) (N := 4) J i_Sv hK hP (mw_ov_is (i := 1) ho.1 (by decide) hc1) rfl 1 (by decide) (hts _ k_130) (fun _ h9 => h9) rfl d_Sv_derive_46 ?_
    refine mw_afterV hP hS hA (mw_runV (As := [.int (nI (L.getD a0 0)), .int (nI (rk_shm r wi)), .ref (ad 8)]) (rest := []) J hK hZ hP hS hA (pp _).choose_spec.choose_spec rfl (c_Pt_bind l D cI cZ cP cR cC tS _ (mw_ov B ad cw 21) p0 (rk_nth r wi) (k_pat_mono hpp (k_fr ho _)) (L.getD a0 0) hq (rk_shm r wi) hsh8 (ad 8) u hu (mw_ov_is (i := 8) ho.1 (by decide) hc8)) (cwV 3 hts (mw_gV k_243 k_244 k_245 k_6 k_246) rfl rfl rfl (by decide +kernel) ⟨Nat.le_of_ble_eq_true rfl, Nat.le_of_ble_eq_true rfl⟩) rfl hl.1 rfl (Nat.le_of_ble_eq_true rfl) d_Sv_derive_49 ⟨Nat.le_of_ble_eq_true rfl, Nat.le_of_ble_eq_true rfl⟩) (fun M1 H locs hw hP hS => ?_)
    obtain rfl := hw
    rw [mw_ov_set ho.1 (by decide)] at hP
    obtain ⟨u2, eu2⟩ : ∃ z, z = rk_bind (rk_nth r wi) (rk_tb (rk_shm r wi)) (L.getD a0 0) u := ⟨_, rfl⟩
    rw [← eu2] at hP
    have hu2 : rk_okV u2 := by rw [eu2]; exact rk_bind_ok hu
    have hub : ∀ j x, j < 3 → rk_at (rk_nth r wi) j = 32 + x → rk_tb (rk_shm r wi) x = true → u2 x = rk_dg (L.getD a0 0) j := by rw [eu2]; exact rk_bind_fit hfit
    obtain ⟨cb, ecb⟩ : ∃ z : Nat → va_E, z = va_up cw 8 (.inl (cI, 8, .inl (rk_nf u2))) := ⟨_, rfl⟩
    rw [← ecb] at hP
    have hbo : ∀ z, z ≠ 8 → cb z = cw z := fun z hz => by rw [ecb, va_up_ne _ _ hz]
    have hb8 : cb 8 = .inl (cI, 8, .inl (rk_nf u2)) := by rw [ecb]; exact va_up_self _ _ _
    have ktb0 : k_tr cI ad cb pm L := ⟨fc, w, (hbo 2 (by decide)).trans hc2, (hbo 3 (by decide)).trans hc3, (hbo 4 (by decide)).trans hc4, hfc, hW, hL3, hnd, hlt⟩
    have ktb : k_tr cI ad cb pm (L ++ []) := by rw [List.append_nil]; exact ktb0
    have ksb : k_sv cI cC B ad cb ca cc u2 := ⟨(hbo 1 (by decide)).trans hc1, hb8, hu2, fa, hca, hfa⟩
    have hbb : ∀ d, d < 3 → k_blank cI ad cb d := fun d hd => k_blank_same (hbl d hd) (fun z hz => hbo _ (by omega))
    have hob : ∀ i, i = 0 ∨ i = 5 ∨ i = 6 ∨ i = 7 → cb i = cw i := fun i hi => hbo i (by omega)
    refine lv_aload_n hx hb d_Sv_derive_52 rfl (lv_at hl 3 rfl) ?_
    refine lv_aload hx hb d_Sv_derive_53 (lv_at hl 2 rfl) ?_
    refine lv_iload hx hb d_Sv_derive_55 (lv_at hl 0 rfl) ?_
    refine lv_iload_n hx hb d_Sv_derive_57 rfl (lv_at hl 6 rfl) ?_
    refine mw_afterI hP hS hA (mw_runV (As := [.ref p0, .int (nI (rk_shm r wi)), .int (nI a0)]) (rest := []) J hK hZ hP hS hA (mw_ov_is (i := 1) ho.1 (by decide) ((hbo 1 (by decide)).trans hc1)) rfl (c_Sv_isMatchedBefore l D cI cZ cP cR cC tS _ B ad cb pm L ho hpm ktb0 ca cc u2 ksb p0 (rk_nth r wi) hpp (rk_shm r wi) a0 hsh8 (by omega)) (cwV 3 hts (mw_gV k_247 k_249 s_Sv_isMatchedBefore k_2 k_250) rfl rfl rfl (by decide +kernel) ⟨Nat.le_of_ble_eq_true rfl, Nat.le_of_ble_eq_true rfl⟩) rfl hl.1 rfl (Nat.le_of_ble_eq_true rfl) d_Sv_derive_58 ⟨Nat.le_of_ble_eq_true rfl, Nat.le_of_ble_eq_true rfl⟩) (fun r2 M1 H locs hw hP hS => ?_)
    obtain ⟨rfl, hw⟩ := hw
    refine lv_if_eq (tgt := 66) hx hb d_Sv_derive_61 (by decide) (fun c_61 => ?_) (fun c_61 => ?_)
    · refine lv_aload_n hx hb d_Sv_derive_66 rfl (lv_at hl 3 rfl) ?_
      refine lv_aload_n hx hb d_Sv_derive_67 rfl (lv_at hl 4 rfl) ?_
      refine lv_iload_n hx hb d_Sv_derive_68 rfl (lv_at hl 5 rfl) ?_
      refine lv_iload hx hb d_Sv_derive_69 (lv_at hl 0 rfl) ?_
      refine lv_iload_n hx hb d_Sv_derive_71 rfl (lv_at hl 6 rfl) ?_
      refine lv_iconst (v := 1) hx hb d_Sv_derive_72 (by decide) ?_
      refine mw_top (x' := nI 1) rfl ?_
      refine lv_iadd hx hb d_Sv_derive_73 ?_
      refine mw_top (x' := nI (a0 + 1)) (nI_add _ _) ?_
      refine mw_afterI hP hS hA (mw_runV (As := [.ref ra, .int (nI wi), .int (nI (rk_shm r wi)), .int (nI (a0 + 1))]) (rest := []) J hK hZ hP hS hA (mw_ov_is (i := 1) ho.1 (by decide) ((hbo 1 (by decide)).trans hc1)) rfl (c_Sv_fillColumns l D cI cZ cP cR cC tS _ B ad cb pm L ho hpm ktb0 ca cc u2 ksb ra r hrule (nI wi) wi (fun j hj => nI_eq (by omega) (by omega)) (rk_shm r wi) (a0 + 1) hsh8 (by omega) hbb) (cwV 4 hts (mw_gV k_260 k_262 s_Sv_fillColumns k_2 k_263) rfl rfl rfl (by decide +kernel) ⟨Nat.le_of_ble_eq_true rfl, Nat.le_of_ble_eq_true rfl⟩) rfl hl.1 rfl (Nat.le_of_ble_eq_true rfl) d_Sv_derive_74 ⟨Nat.le_of_ble_eq_true rfl, Nat.le_of_ble_eq_true rfl⟩) (fun r3 M1 H locs hw hP hS => ?_)
      obtain ⟨cf1, cc1, rfl, ksf, hlf, hbf, hcase⟩ := hw
      have ktf : k_tr cI ad cf1 pm L := by
        obtain ⟨fx, wx, a2, a3, a4, a5⟩ := ktb0
        exact ⟨fx, wx, (hlf 2 (by decide) (by decide)).trans a2, (hlf 3 (by decide) (by decide)).trans a3, (hlf 4 (by decide) (by decide)).trans a4, a5⟩
      have hof : ∀ i, i = 0 ∨ i = 5 ∨ i = 6 ∨ i = 7 → cf1 i = cw i := fun i hi => by rw [hlf i (by omega) (by omega)]; exact hob i hi
      refine lv_if_ne (tgt := 82) hx hb d_Sv_derive_77 (by decide) (fun c_77 => ?_) (fun c_77 => ?_)
      · have hyes : ∃ cf, cc1 = (rk_cols r wi cf r.1.length).length ∧ (∀ j, j < r.1.length → j ≠ wi → rk_iscol r (rk_shm r wi) j (cf j) ∧ rk_colok (L.take (a0 + 1)) (rk_tb (rk_shm r wi)) u2 (cf j)) ∧ ∀ e, e < cc1 → k_cold cI B ad cf1 e ((rk_cols r wi cf r.1.length).getD e rk_col0) := by
          rcases hcase with ⟨_, h⟩ | ⟨h, _⟩
          · exact h
          · exact absurd h c_77
        obtain ⟨cf, rfl, hcf, hcdd⟩ := hyes
        have hjn : rk_jn (L.take (a0 + 1)) (rk_tb (rk_shm r wi)) u2 r.2 ((rk_cols r wi cf r.1.length).drop 0) (rk_tb (rk_shm r wi)) u2 := by
          rw [List.drop_zero]
          refine rk_jn_of hu2 hcf (fun x hx => ?_)
          obtain ⟨P, hP, hin⟩ := hok.2.2.2.2 x hx
          obtain ⟨j, hj, rfl⟩ := rk_mem_nth hP
          by_cases e : j = wi
          · subst e
            exact Or.inl (rk_shm_tb.mpr ⟨hin, Or.inl hx⟩)
          · exact Or.inr ⟨j, hj, e, hin⟩
        have hlt1 : ∀ k, k ∈ L.take (a0 + 1) → k < 32768 := fun k hk => hlt k (List.mem_of_mem_take hk)
        have hcl : (rk_cols r wi cf r.1.length).length ≤ 3 := Nat.le_trans (rk_cols_len _) hr3
        have hhd : ∀ z, rk_hd (L.take (a0 + 1)) r.2 ((rk_cols r wi cf r.1.length).drop 0) (rk_tb (rk_shm r wi)) u2 z ↔ ∃ v, rk_okV v ∧ rk_inst (rk_nth r wi) v = (L.getD a0 0) ∧ (∀ j, j < r.1.length → j ≠ wi → rk_inst (rk_nth r j) v ∈ L.take (a0 + 1)) ∧ rk_inst r.2 v = z := fun z => by rw [List.drop_zero]; exact rk_hd_cases hq hwi (fun j hj hne => (hcf j hj hne).1) ⟨hfit.1, (fun j hj h h' => by cases h'), hfit.2.2⟩ hub z
        have hcs : ∀ z, rk_hd (L.take (a0 + 1)) r.2 ((rk_cols r wi cf r.1.length).drop 0) (rk_tb (rk_shm r wi)) u2 z → ∃ v, rk_case r (· ∈ L.take (a0 + 1)) v ∧ rk_inst r.2 v = z := fun z hz => by
          obtain ⟨v, g1, g2, g3, g4⟩ := (hhd z).mp hz
          exact ⟨v, rk_case_of g1 (rk_take_last ha) g2 g3, g4⟩
        have hadd := fun sz => c_Sv_addj l D cI cZ cP cR cC tS (rk_cols r wi cf r.1.length).length sz B ad cf1 pm L ho hpm ktf ca (rk_cols r wi cf r.1.length) u2 ksf hcl hcdd ra r hrule 0 (rk_shm r wi) hsh8 (Nat.zero_add _) (L.take (a0 + 1)) hlt1 (rk_tb (rk_shm r wi)) u2 hjn
        refine lv_aload_n hx hb d_Sv_derive_82 rfl (lv_at hl 3 rfl) ?_
        refine lv_aload_n hx hb d_Sv_derive_83 rfl (lv_at hl 4 rfl) ?_
        refine lv_iconst (v := 0) hx hb d_Sv_derive_84 (by decide) ?_
        refine mw_top (x' := nI 0) nI_0.symm ?_
        refine lv_iload hx hb d_Sv_derive_85 (lv_at hl 0 rfl) ?_
        refine mw_afterI hP hS hA (mw_runS (As := [.ref (ad 1), .ref ra, .int (nI 0), .int (nI (rk_shm r wi))]) (rest := []) J hK hZ hP hS hA (hadd _) (cwS 4 hts (mw_gS k_278 k_279 k_2 k_280) rfl rfl rfl (by decide +kernel) ⟨(by dsimp only; omega), (by dsimp only; omega)⟩) rfl hl.1 rfl (Nat.le_of_ble_eq_true rfl) d_Sv_derive_87 ⟨Nat.le_of_ble_eq_true rfl, Nat.le_of_ble_eq_true rfl⟩) (fun rr M1 H locs hw hP hS => ?_)
        obtain ⟨cy, N1, u3, rfl, kty, ksy, -, hoy, hNy, hcase⟩ := hw
        exact mw_zret J hr hlk (by rcases hcase with ⟨h, _⟩ | ⟨h, _⟩ <;> rw [h] <;> rfl) hP hS d_Sv_derive_90 (⟨cy, N1, u3, _, rfl, kty, ksy, fun d hd => k_blank_same (hbf d hd) (fun z hz => hoy _ (by omega) (by omega) (by omega) (by omega)), fun i hi => by rw [hoy i (by omega) (by omega) (by omega) (by omega)]; exact hof i hi, fun z hz => hcs z (hNy z hz), hcase.imp (fun ⟨h1, h2⟩ => ⟨h1, rk_drv_join ha hwi (fun z hz => h2 z ((hhd z).mpr hz))⟩) (fun ⟨h1, h2, z, h3, h4⟩ => ⟨h1, h2, z, h4, hcs z h3⟩)⟩)
      · have hem : ∃ j, j < r.1.length ∧ ∀ k, k ∈ L.take (a0 + 1) → ¬ rk_mt (rk_nth r j) (rk_tb (rk_shm r wi)) u2 k := by
          rcases hcase with ⟨h, _⟩ | ⟨_, j, h1, _, h2⟩
          · rw [h] at c_77
            exact absurd c_77 (by decide)
          · exact ⟨j, h1, h2⟩
        obtain ⟨j9, hj9, hm9⟩ := hem
        refine lv_iconst (v := 1) hx hb d_Sv_derive_80 (by decide) ?_
        exact mw_zret J hr hlk rfl hP hS d_Sv_derive_81 (⟨_, [], u2, cc1, rfl, by rw [List.append_nil]; exact ktf, ksf, hbf, hof, fun z hz => absurd hz List.not_mem_nil, Or.inl ⟨rfl, rk_drv_empty ha hwi hu2 hub hj9 hm9⟩⟩)
    · have hbe : ∃ j, j < a0 ∧ rk_mt (rk_nth r wi) (rk_tb (rk_shm r wi)) u2 (L.getD j 0) := by
        rcases hw with ⟨_, h⟩ | ⟨h, _⟩
        · exact h
        · exact absurd h c_61
      obtain ⟨j8, hj8, hm8⟩ := hbe
      refine lv_iconst (v := 1) hx hb d_Sv_derive_64 (by decide) ?_
      exact mw_zret J hr hlk rfl hP hS d_Sv_derive_65 (⟨_, [], u2, cc, rfl, ktb, ksb, hbb, hob, fun z hz => absurd hz List.not_mem_nil, Or.inl ⟨rfl, rk_drv_before ha hlt hwi hu2 hub hj8 hm8⟩⟩)
  · have hnf : ¬ rk_fits (rk_nth r wi) (L.getD a0 0) := fun z => by
      rcases hw with ⟨h, _⟩ | ⟨_, h⟩
      · rw [h] at c_26
        exact absurd c_26 (by decide)
      · exact h z
    refine lv_iconst (v := 1) hx hb d_Sv_derive_29 (by decide) ?_
    exact mw_zret J hr hlk rfl hP hS d_Sv_derive_30 (⟨cw, [], u, cc, rfl, by rw [List.append_nil]; exact ht0, hsv0, hbl, fun _ _ => rfl, fun z hz => absurd hz List.not_mem_nil, Or.inl ⟨rfl, rk_drv_nofit ha hwi hnf⟩⟩)

set_option maxHeartbeats 4000000 in
set_option maxRecDepth 100000 in
theorem c_Sv_casesGiving (l : Launch) (D : va_G) (cI cZ cP cR cC : ClassId) (tS : Nat) (sz : Nat) (B : mw_M) (ad : Nat → Nat) (cw : Nat → va_E) (pm : Nat) (L : List Nat) (ho : k_ov B ad) (hpm : B pm = some (.inr (0, [.ref (ad 4)]))) (ht : k_tr cI ad cw pm L) (ca cc : Nat) (u : Nat → Nat) (hsv : k_sv cI cC B ad cw ca cc u) (hbl : ∀ d, d < 3 → k_blank cI ad cw d) (ra : Nat) (r : rk_Ru) (hrule : k_rule cI cP B ra r) (hok : rk_okR r) (k : Nat) (hk : k < 32768) :
    Met l y_Sv_casesGiving (.code y_Sv_casesGiving b_Sv_casesGiving 4 (some .int) :: gw) ({ frames := 6, cells := 0, slots := 0, locals := 132 }) (va_Pc [.ref (ad 1), .ref ra, .int (nI k)] (mw_B D k_cl (k_tys cI cZ cP cR cC) (k_g tS) (mw_ov B ad cw 21) sz)) (va_Qi (fun (rr : Int32) (M1 : mw_M) => rr = nI (rk_sup L r k) ∧ ∃ cw1 u1 cc1, M1 = mw_ov B ad cw1 21 ∧ k_tr cI ad cw1 pm L ∧ k_sv cI cC B ad cw1 ca cc1 u1 ∧ (∀ d, d < 3 → k_blank cI ad cw1 d) ∧ ∀ i, i = 0 ∨ i = 5 ∨ i = 6 ∨ i = 7 → cw1 i = cw i) (mw_E D k_cl (mw_ov B ad cw 21) sz) (mw_A (mw_ov B ad cw 21) sz)) 0 0 (mw_A (mw_ov B ad cw 21) sz) := by
  refine mw_met (by decide) rfl (Nat.le_of_ble_eq_true rfl) ?_
  intro p e s m below meth c hsz J hr hlk hnm hK hZ hP hS hA ls hl
  subst hsz
  have hx := J.1
  have hb := J.2.1
  have hts := J.2.2.2.2
  have hl : lv_has ls 4 [(0, .ref (ad 1)), (1, .ref ra), (2, .int (nI k))] := hl
  have ht0 := ht
  have hsv0 := hsv
  obtain ⟨fc, w, hc2, hc3, hc4, hfc, hW, hL3, hnd, hlt⟩ := ht
  obtain ⟨hc1, hc8, hu, fa, hca, hfa⟩ := hsv
  obtain ⟨hr3, bo, hd, sh, fo, fs, hr1, hr2, hr4, hrh, hfo, hfs⟩ := id hrule
  have hv8 : (rk_vars r.2) < 256 := rk_vars_lt hrh.1
  have pp : ∀ c, ∃ b q, mw_ov B ad c 21 hd = some (.inr (2, k_pf r.2 b q)) := fun c => by
    obtain ⟨-, b, q, _, _, h, -⟩ := k_pat_mono hrh (k_fr ho c)
    exact ⟨b, q, h⟩
  refine lv_aload_n hx hb d_Sv_casesGiving_0 rfl (lv_at hl 1 rfl) ?_
  refine mw_get (v := .ref hd) (ci := 3) (C := R_Ru) (T := T_Ru) (N := 3) J i_Ru hK hP (mw_ov_fr ho.2 hr1) rfl 1 (by decide) (hts _ k_158) (fun _ h9 => h9) rfl d_Sv_casesGiving_1 ?_
  refine lv_iload_n hx hb d_Sv_casesGiving_4 rfl (lv_at hl 2 rfl) ?_
  refine mw_afterI hP hS hA (mw_runV (As := [.int (nI k)]) (rest := []) J hK hZ hP hS hA (pp _).choose_spec.choose_spec rfl (c_Pt_fits l D cI cZ cP cR cC tS _ (mw_ov B ad cw 21) hd r.2 (k_pat_mono hrh (k_fr ho _)) k hk) (cwV 1 hts (mw_gV k_235 k_236 k_237 k_6 k_238) rfl rfl rfl (by decide +kernel) ⟨Nat.le_of_ble_eq_true rfl, Nat.le_of_ble_eq_true rfl⟩) rfl hl.1 rfl (Nat.le_of_ble_eq_true rfl) d_Sv_casesGiving_5 ⟨Nat.le_of_ble_eq_true rfl, Nat.le_of_ble_eq_true rfl⟩) (fun r1 M1 H locs hw hP hS => ?_)
  obtain ⟨rfl, hw⟩ := hw
  refine lv_if_ne (tgt := 13) hx hb d_Sv_casesGiving_8 (by decide) (fun c_8 => ?_) (fun c_8 => ?_)
  · have hfit : rk_fits r.2 k := by
      rcases hw with ⟨_, h⟩ | ⟨h, _⟩
      · exact h
      · exact absurd h c_8
    refine lv_aload_n hx hb d_Sv_casesGiving_13 rfl (lv_at hl 1 rfl) ?_
    refine mw_get (v := .ref hd) (ci := 3) (C := R_Ru) (T := T_Ru) (N := 3) J i_Ru hK hP (mw_ov_fr ho.2 hr1) rfl 1 (by decide) (hts _ k_158) (fun _ h9 => h9) rfl d_Sv_casesGiving_14 ?_
    refine mw_get (v := .int (nI (rk_vars r.2))) (ci := 2) (C := R_Pt) (T := T_Pt) (N := 8) J i_Pt hK hP (pp _).choose_spec.choose_spec rfl 2 (by decide) (hts _ k_76) (fun _ h9 => h9) rfl d_Sv_casesGiving_17 ?_
    refine lv_istore_n (lv' := [(3, .int (nI (rk_vars r.2))), (0, .ref (ad 1)), (1, .ref ra), (2, .int (nI k))]) hx hb d_Sv_casesGiving_20 rfl hl (by decide) rfl (fun ls hl => ?_)
    refine lv_aload_n hx hb d_Sv_casesGiving_21 rfl (lv_at hl 2 rfl) ?_
    refine mw_get (v := .ref hd) (ci := 3) (C := R_Ru) (T := T_Ru) (N := 3) J i_Ru hK hP (mw_ov_fr ho.2 hr1) rfl 1 (by decide) (hts _ k_158) (fun _ h9 => h9) rfl d_Sv_casesGiving_22 ?_
    refine lv_iload_n hx hb d_Sv_casesGiving_25 rfl (lv_at hl 3 rfl) ?_
    refine lv_iload_n hx hb d_Sv_casesGiving_26 rfl (lv_at hl 0 rfl) ?_
    refine lv_aload_n hx hb d_Sv_casesGiving_27 rfl (lv_at hl 1 rfl) ?_
    refine mw_get (v := .ref (ad 8)) (ci := 5) (C := R_Sv) (T := T_Sv) (N := 4) J i_Sv hK hP (mw_ov_is (i := 1) ho.1 (by decide) hc1) rfl 1 (by decide) (hts _ k_130) (fun _ h9 => h9) rfl d_Sv_casesGiving_28 ?_
    refine mw_afterV hP hS hA (mw_runV (As := [.int (nI k), .int (nI (rk_vars r.2)), .ref (ad 8)]) (rest := []) J hK hZ hP hS hA (pp _).choose_spec.choose_spec rfl (c_Pt_bind l D cI cZ cP cR cC tS _ (mw_ov B ad cw 21) hd r.2 (k_pat_mono hrh (k_fr ho _)) k hk (rk_vars r.2) hv8 (ad 8) u hu (mw_ov_is (i := 8) ho.1 (by decide) hc8)) (cwV 3 hts (mw_gV k_243 k_244 k_245 k_6 k_246) rfl rfl rfl (by decide +kernel) ⟨Nat.le_of_ble_eq_true rfl, Nat.le_of_ble_eq_true rfl⟩) rfl hl.1 rfl (Nat.le_of_ble_eq_true rfl) d_Sv_casesGiving_31 ⟨Nat.le_of_ble_eq_true rfl, Nat.le_of_ble_eq_true rfl⟩) (fun M1 H locs hw hP hS => ?_)
    obtain rfl := hw
    rw [mw_ov_set ho.1 (by decide)] at hP
    obtain ⟨u2, eu2⟩ : ∃ z, z = rk_bind r.2 (rk_tb (rk_vars r.2)) k u := ⟨_, rfl⟩
    rw [← eu2] at hP
    have hu2 : rk_okV u2 := by rw [eu2]; exact rk_bind_ok hu
    have hub : ∀ j x, j < 3 → rk_at r.2 j = 32 + x → rk_tb (rk_vars r.2) x = true → u2 x = rk_dg k j := by rw [eu2]; exact rk_bind_fit hfit
    obtain ⟨cb, ecb⟩ : ∃ z : Nat → va_E, z = va_up cw 8 (.inl (cI, 8, .inl (rk_nf u2))) := ⟨_, rfl⟩
    rw [← ecb] at hP
    have hbo : ∀ z, z ≠ 8 → cb z = cw z := fun z hz => by rw [ecb, va_up_ne _ _ hz]
    have hb8 : cb 8 = .inl (cI, 8, .inl (rk_nf u2)) := by rw [ecb]; exact va_up_self _ _ _
    have ktb0 : k_tr cI ad cb pm L := ⟨fc, w, (hbo 2 (by decide)).trans hc2, (hbo 3 (by decide)).trans hc3, (hbo 4 (by decide)).trans hc4, hfc, hW, hL3, hnd, hlt⟩
    have ksb : k_sv cI cC B ad cb ca cc u2 := ⟨(hbo 1 (by decide)).trans hc1, hb8, hu2, fa, hca, hfa⟩
    have hbb : ∀ d, d < 3 → k_blank cI ad cb d := fun d hd => k_blank_same (hbl d hd) (fun z hz => hbo _ (by omega))
    have hob : ∀ i, i = 0 ∨ i = 5 ∨ i = 6 ∨ i = 7 → cb i = cw i := fun i hi => hbo i (by omega)
    refine lv_aload_n hx hb d_Sv_casesGiving_34 rfl (lv_at hl 1 rfl) ?_
    refine lv_aload_n hx hb d_Sv_casesGiving_35 rfl (lv_at hl 2 rfl) ?_
    refine lv_iconst (v := (-1)) hx hb d_Sv_casesGiving_36 (by decide) ?_
    refine lv_iload_n hx hb d_Sv_casesGiving_37 rfl (lv_at hl 0 rfl) ?_
    refine lv_aload_n hx hb d_Sv_casesGiving_38 rfl (lv_at hl 1 rfl) ?_
    refine mw_get (v := .ref (ad 2)) (ci := 5) (C := R_Sv) (T := T_Sv) (N := 4) J i_Sv hK hP (mw_ov_is (i := 1) ho.1 (by decide) ((hbo 1 (by decide)).trans hc1)) rfl 0 (by decide) (hts _ k_128) (fun _ h9 => h9) rfl d_Sv_casesGiving_39 ?_
    refine mw_get (v := .int (nI L.length)) (ci := 1) (C := R_Tr) (T := T_Tr) (N := 3) J i_Tr hK hP (mw_ov_is (i := 2) ho.1 (by decide) ((hbo 2 (by decide)).trans hc2)) rfl 2 (by decide) (hts _ k_48) (fun _ h9 => h9) rfl d_Sv_casesGiving_42 ?_
    refine mw_afterI hP hS hA (mw_runV (As := [.ref ra, .int (-1), .int (nI (rk_vars r.2)), .int (nI L.length)]) (rest := []) J hK hZ hP hS hA (mw_ov_is (i := 1) ho.1 (by decide) ((hbo 1 (by decide)).trans hc1)) rfl (c_Sv_fillColumns l D cI cZ cP cR cC tS _ B ad cb pm L ho hpm ktb0 ca cc u2 ksb ra r hrule (-1) 9 (fun j hj => ⟨fun z => absurd z (rk_nn1 j hj), fun z => absurd z (by omega)⟩) (rk_vars r.2) L.length hv8 (Nat.le_refl _) hbb) (cwV 4 hts (mw_gV k_260 k_262 s_Sv_fillColumns k_2 k_263) rfl rfl rfl (by decide +kernel) ⟨Nat.le_of_ble_eq_true rfl, Nat.le_of_ble_eq_true rfl⟩) rfl hl.1 rfl (Nat.le_of_ble_eq_true rfl) d_Sv_casesGiving_45 ⟨Nat.le_of_ble_eq_true rfl, Nat.le_of_ble_eq_true rfl⟩) (fun r3 M1 H locs hw hP hS => ?_)
    obtain ⟨cf1, cc1, rfl, ksf, hlf, hbf, hcase⟩ := hw
    have ktf : k_tr cI ad cf1 pm L := by
      obtain ⟨fx, wx, a2, a3, a4, a5⟩ := ktb0
      exact ⟨fx, wx, (hlf 2 (by decide) (by decide)).trans a2, (hlf 3 (by decide) (by decide)).trans a3, (hlf 4 (by decide) (by decide)).trans a4, a5⟩
    have hof : ∀ i, i = 0 ∨ i = 5 ∨ i = 6 ∨ i = 7 → cf1 i = cw i := fun i hi => by rw [hlf i (by omega) (by omega)]; exact hob i hi
    refine lv_if_ne (tgt := 53) hx hb d_Sv_casesGiving_48 (by decide) (fun c_48 => ?_) (fun c_48 => ?_)
    · have hyes : ∃ cf, cc1 = (rk_cols r 9 cf r.1.length).length ∧ (∀ j, j < r.1.length → j ≠ 9 → rk_iscol r (rk_vars r.2) j (cf j) ∧ rk_colok (L.take L.length) (rk_tb (rk_vars r.2)) u2 (cf j)) ∧ ∀ e, e < cc1 → k_cold cI B ad cf1 e ((rk_cols r 9 cf r.1.length).getD e rk_col0) := by
        rcases hcase with ⟨_, h⟩ | ⟨h, _⟩
        · exact h
        · exact absurd h c_48
      obtain ⟨cf, rfl, hcf, hcdd⟩ := hyes
      rw [List.take_length] at hcf
      have hcl : (rk_cols r 9 cf r.1.length).length ≤ 3 := Nat.le_trans (rk_cols_len _) hr3
      have hKi : ∀ c, c ∈ rk_cols r 9 cf r.1.length → ∀ x, c.2.1 x = true → rk_in c.1 x := fun c hc x hx => by
        obtain ⟨j, h1, h2, rfl⟩ := rk_cols_mem.mp hc
        exact (hcf j h1 h2).2.2.2 x hx
      have hcnt := fun sz => c_Sv_count l D cI cZ cP cR cC tS (rk_cols r 9 cf r.1.length).length sz B ad cf1 ho ca (rk_cols r 9 cf r.1.length) u2 ksf hcl hcdd hKi 0 (rk_vars r.2) hv8 (Nat.zero_add _)
      refine lv_aload_n hx hb d_Sv_casesGiving_53 rfl (lv_at hl 1 rfl) ?_
      refine lv_iconst (v := 0) hx hb d_Sv_casesGiving_54 (by decide) ?_
      refine mw_top (x' := nI 0) nI_0.symm ?_
      refine lv_iload_n hx hb d_Sv_casesGiving_55 rfl (lv_at hl 0 rfl) ?_
      refine mw_afterI hP hS hA (mw_runS (As := [.ref (ad 1), .int (nI 0), .int (nI (rk_vars r.2))]) (rest := []) J hK hZ hP hS hA (hcnt _) (cwS 3 hts (mw_gS k_351 k_352 k_2 k_353) rfl rfl rfl (by decide +kernel) ⟨(by dsimp only; omega), (by dsimp only; omega)⟩) rfl hl.1 rfl (Nat.le_of_ble_eq_true rfl) d_Sv_casesGiving_56 ⟨Nat.le_of_ble_eq_true rfl, Nat.le_of_ble_eq_true rfl⟩) (fun rr M1 H locs hw hP hS => ?_)
      obtain ⟨hr9, u3, rfl, hu3, -⟩ := hw
      rw [List.drop_zero, rk_cj_sup hlt hk (by omega) hu2 hfit hub hcf] at hr9
      refine mw_iret J hr hlk hP hS d_Sv_casesGiving_59 (⟨hr9, _, u3, _, rfl, ?_, ⟨ksf.1, rfl, hu3, fa, hca, hfa⟩, fun d hd => k_blank_same (hbf d hd) (fun z hz => va_up_ne _ _ (by omega)), fun i hi => by rw [va_up_ne _ _ (by omega)]; exact hof i hi⟩)
      obtain ⟨fx, wx, a2, a3, a4, a5⟩ := ktf
      exact ⟨fx, wx, a2, a3, a4, a5⟩
    · have hem : ∃ j, j < r.1.length ∧ ∀ z, z ∈ L.take L.length → ¬ rk_mt (rk_nth r j) (rk_tb (rk_vars r.2)) u2 z := by
        rcases hcase with ⟨h, _⟩ | ⟨_, j, h1, _, h2⟩
        · rw [h] at c_48
          exact absurd c_48 (by decide)
        · exact ⟨j, h1, h2⟩
      obtain ⟨j9, hj9, hm9⟩ := hem
      rw [List.take_length] at hm9
      refine lv_iconst (v := 0) hx hb d_Sv_casesGiving_51 (by decide) ?_
      exact mw_iret J hr hlk hP hS d_Sv_casesGiving_52 (⟨by rw [rk_sup_empty hu2 hub hj9 hm9]; rfl, _, u2, cc1, rfl, ktf, ksf, hbf, hof⟩)
  · have hnf : ¬ rk_fits r.2 k := fun z => by
      rcases hw with ⟨h, _⟩ | ⟨_, h⟩
      · rw [h] at c_8
        exact absurd c_8 (by decide)
      · exact h z
    refine lv_iconst (v := 0) hx hb d_Sv_casesGiving_11 (by decide) ?_
    exact mw_iret J hr hlk hP hS d_Sv_casesGiving_12 (⟨by rw [rk_sup_nofit hnf]; rfl, cw, u, cc, rfl, ht0, hsv0, hbl, fun _ _ => rfl⟩)
end
section
/-! what comes out of a row by the rules -/
def rk_ru0 : rk_Ru := ([], (0, 0, 0))
def rk_rth (rs : List rk_Ru) (i : Nat) : rk_Ru := rs.getD i rk_ru0
theorem rk_rth_mem {rs : List rk_Ru} {i : Nat} (h : i < rs.length) : rk_rth rs i ∈ rs := by
  unfold rk_rth
  rw [List.getD_eq_getElem?_getD, List.getElem?_eq_getElem h]
  exact List.getElem_mem h
theorem rk_mem_rth {rs : List rk_Ru} {r : rk_Ru} (h : r ∈ rs) : ∃ i, i < rs.length ∧ rk_rth rs i = r := by
  obtain ⟨i, hi, e⟩ := List.getElem_of_mem h
  refine ⟨i, hi, ?_⟩
  unfold rk_rth
  rw [List.getD_eq_getElem?_getD, List.getElem?_eq_getElem hi]
  exact e
def rk_gen (L : List Nat) (rs : List rk_Ru) (z : Nat) : Prop := ∀ X : Nat → Prop, (∀ k, k ∈ L → X k) → rk_closed rs X → X z
theorem rk_gen_in {L : List Nat} {rs : List rk_Ru} {z : Nat} (h : z ∈ L) : rk_gen L rs z := fun _ h1 _ => h1 z h
theorem rk_gen_case {L K : List Nat} {rs : List rk_Ru} {i : Nat} {v : Nat → Nat} (hi : i < rs.length) (hK : ∀ k, k ∈ K → rk_gen L rs k) (h : rk_case (rk_rth rs i) (· ∈ K) v) : rk_gen L rs (rk_inst (rk_rth rs i).2 v) :=
  fun X h1 h2 => h2 _ (rk_rth_mem hi) v ⟨h.1, fun P hP => hK _ (h.2 P hP) X h1 h2⟩
theorem rk_take_app {L K : List Nat} {a : Nat} (h : a ≤ L.length) : (L ++ K).take a = L.take a := List.take_append_of_le_length h
theorem rk_pred0 {n : Nat} (h : n ≤ 12) : (if nI n - nI 1 < 0 then 0 else nI n - nI 1) = nI (n - 1) := by
  by_cases e : n = 0
  · subst e
    decide
  · rw [pk_sub (by omega), if_neg (nI_pos (by omega))]
theorem rk_case_mono {r : rk_Ru} {S T : Nat → Prop} {v : Nat → Nat} (h : rk_case r S v) (hST : ∀ k, S k → T k) : rk_case r T v := ⟨h.1, fun P hP => hST _ (h.2 P hP)⟩
/-- the keeper's own cell -/
abbrev k_k0 (ad : Nat → Nat) (sm n dn : Nat) : va_E := .inr (6, [.ref (ad 1), .ref (ad 2), .ref sm, .ref (ad 6), .ref (ad 7), .int (nI n), .int (nI dn)])
def k_made (cI cP cR : ClassId) (B : mw_M) (cw : Nat → va_E) (rs : List rk_Ru) : Prop :=
  rs.length ≤ 12 ∧ ∃ fm : Nat → Option Nat, cw 6 = .inl (cR, 12, .inr (.inr (.inr (.inr fm)))) ∧ ∀ i, i < rs.length → ∃ a, fm i = some a ∧ k_rule cI cP B a (rk_rth rs i) ∧ rk_okR (rk_rth rs i)
end
section
/-! RuleKeeper.follow -/
set_option maxHeartbeats 4000000 in
set_option maxRecDepth 100000 in
theorem c_Kp_follow (l : Launch) (D : va_G) (cI cZ cP cR cC : ClassId) (tS : Nat) (sz : Nat) (B : mw_M) (ad : Nat → Nat) (cw : Nat → va_E) (pm : Nat) (L : List Nat) (ho : k_ov B ad) (hpm : B pm = some (.inr (0, [.ref (ad 4)]))) (ht : k_tr cI ad cw pm L) (ca : Nat) (hsv : ∃ cc u, k_sv cI cC B ad cw ca cc u) (hbl : ∀ d, d < 3 → k_blank cI ad cw d) (sm dn : Nat) (rs : List rk_Ru) (hc0 : cw 0 = k_k0 ad sm rs.length dn) (hmd : k_made cI cP cR B cw rs) (st0 se : Nat) (hst : st0 ≤ L.length) (hse : se ≤ L.length) (hP1 : ∀ i, i < rs.length → ∀ v, rk_case (rk_rth rs i) (· ∈ L.take st0) v → rk_inst (rk_rth rs i).2 v ∈ L) (hP2 : ∀ i, i + 1 < rs.length → ∀ v, rk_case (rk_rth rs i) (· ∈ L.take se) v → rk_inst (rk_rth rs i).2 v ∈ L) :
    Met l y_Kp_follow (.code y_Kp_follow b_Kp_follow 8 (some .boolean) :: gw) ({ frames := 8, cells := 0, slots := 0, locals := 184 }) (va_Pc [.ref (ad 0), .int (nI st0), .int (nI se)] (mw_B D k_cl (k_tys cI cZ cP cR cC) (k_g tS) (mw_ov B ad cw 21) sz)) (va_Qi (fun (rr : Int32) (M1 : mw_M) => ∃ cw1 N1, M1 = mw_ov B ad cw1 21 ∧ k_tr cI ad cw1 pm (L ++ N1) ∧ (∃ cc u, k_sv cI cC B ad cw1 ca cc u) ∧ (∀ d, d < 3 → k_blank cI ad cw1 d) ∧ (∀ i, i = 0 ∨ i = 5 ∨ i = 6 ∨ i = 7 → cw1 i = cw i) ∧ (∀ z, z ∈ N1 → rk_gen L rs z) ∧ ((rr = 1 ∧ ∀ i, i < rs.length → ∀ v, rk_case (rk_rth rs i) (· ∈ L ++ N1) v → rk_inst (rk_rth rs i).2 v ∈ L ++ N1) ∨ (rr = 0 ∧ (L ++ N1).length = 300 ∧ ∃ z, z ∉ L ++ N1 ∧ rk_gen L rs z))) (mw_E D k_cl (mw_ov B ad cw 21) sz) (mw_A (mw_ov B ad cw 21) sz)) 0 0 (mw_A (mw_ov B ad cw 21) sz) := by
  refine mw_met (by decide) rfl (Nat.le_of_ble_eq_true rfl) ?_
  intro p e s m below meth c hsz J hr hlk hnm hK hZ hP hS hA ls hl
  subst hsz
  have hx := J.1
  have hb := J.2.1
  have hts := J.2.2.2.2
  have hl : lv_has ls 8 [(0, .ref (ad 0)), (1, .int (nI st0)), (2, .int (nI se))] := hl
  have ht0 := ht
  obtain ⟨fc0, w0, -, -, -, -, -, hL300, -, -⟩ := id ht
  obtain ⟨hrs12, fm, hc6, hfm⟩ := id hmd
  refine lv_iload_n hx hb d_Kp_follow_0 rfl (lv_at hl 1 rfl) ?_
  refine lv_istore_n (lv' := [(3, .int (nI st0)), (0, .ref (ad 0)), (1, .int (nI st0)), (2, .int (nI se))]) hx hb d_Kp_follow_1 rfl hl (by decide) rfl (fun ls hl => ?_)
  refine mw_loop (W' := fun H locs ls => W p l e _ s m _ below meth c H locs _ _ _ (F0 m 2 ls [])) 300 (fun t H locs ls => ∃ (cx : Nat → va_E), ∃ (Nx : List Nat), lv_has ls 8 [(0, .ref (ad 0)), (1, .int (nI st0)), (2, .int (nI se)), (3, .int (nI t))] ∧ (k_tr cI ad cx pm (L ++ Nx)) ∧ (∃ cc u, k_sv cI cC B ad cx ca cc u) ∧ (∀ d, d < 3 → k_blank cI ad cx d) ∧ (∀ i, i = 0 ∨ i = 5 ∨ i = 6 ∨ i = 7 → cx i = cw i) ∧ (∀ z, z ∈ Nx → rk_gen L rs z) ∧ (t ≤ (L ++ Nx).length) ∧ (∀ i, i < rs.length → ∀ v, rk_case (rk_rth rs i) (· ∈ (L ++ Nx).take t) v → rk_inst (rk_rth rs i).2 v ∈ L ++ Nx) ∧ mw_P D k_cl (mw_ov B ad cx 21) (mw_A (mw_ov B ad cw 21) s.heap.size) H ∧ va_S (mw_A (mw_ov B ad cw 21) s.heap.size) s.heap H locs) ?_ 300 st0 (by omega) (by omega) _ _ _ ⟨cw, [], lv_sub hl [1, 2, 3, 0] rfl, (by rw [List.append_nil]; exact ht0), hsv, hbl, (fun _ _ => rfl), (fun z hz => absurd hz List.not_mem_nil), (by rw [List.append_nil]; exact hst), (by rw [List.append_nil]; exact hP1), hP, hS⟩
  intro t H locs ls hi_2 hI ih_2
  obtain ⟨cx, Nx, hl, ktx, ksx, hbx, hox, hgx, hat, hcl, hP, hS⟩ := hI
  obtain ⟨fx, wx, hx2, hx3, -, -, -, hx300, -, -⟩ := id ktx
  obtain ⟨ccx, ux, ksx0⟩ := id ksx
  refine lv_iload_n hx hb d_Kp_follow_2 rfl (lv_at hl 3 rfl) ?_
  refine lv_aload_n hx hb d_Kp_follow_3 rfl (lv_at hl 0 rfl) ?_
  refine mw_get (v := .ref (ad 2)) (ci := 6) (C := R_Kp) (T := T_Kp) (N := 7) J i_Kp hK hP (mw_ov_is (i := 0) ho.1 (by decide) ((hox 0 (by decide)).trans hc0)) rfl 1 (by decide) (hts _ k_169) (fun _ h9 => h9) rfl d_Kp_follow_4 ?_
  refine mw_get (v := .int (nI (L ++ Nx).length)) (ci := 1) (C := R_Tr) (T := T_Tr) (N := 3) J i_Tr hK hP (mw_ov_is (i := 2) ho.1 (by decide) hx2) rfl 2 (by decide) (hts _ k_49) (fun _ h9 => h9) rfl d_Kp_follow_7 ?_
  refine lv_icmp_ge (tgt := 112) hx hb d_Kp_follow_10 (by decide) (fun c_10 => ?_) (fun c_10 => ?_)
  · have c_10 : ((L ++ Nx).length) ≤ t := (nI_leI (by omega) (by omega)).mp c_10
    have hte : (L ++ Nx).take t = L ++ Nx := List.take_of_length_le (by omega)
    rw [hte] at hcl
    refine lv_iconst (v := 1) hx hb d_Kp_follow_112 (by decide) ?_
    exact mw_zret J hr hlk rfl hP hS d_Kp_follow_113 (⟨cx, Nx, rfl, ktx, ksx, hbx, hox, hgx, Or.inl ⟨rfl, hcl⟩⟩)
  · have c_10 : ¬ (((L ++ Nx).length) ≤ t) := fun z => c_10 ((nI_leI (by omega) (by omega)).mpr z)
    refine lv_iload_n hx hb d_Kp_follow_13 rfl (lv_at hl 3 rfl) ?_
    refine lv_sipush (v := 300) hx hb d_Kp_follow_14 (by decide) ?_
    refine mw_top (x' := nI 300) rfl ?_
    refine lv_icmp_ge (tgt := 112) hx hb d_Kp_follow_17 (by decide) (fun c_17 => ?_) (fun c_17 => ?_)
    · have c_17 : 300 ≤ t := (nI_leI (by omega) (by omega)).mp c_17
      have hte : (L ++ Nx).take t = L ++ Nx := List.take_of_length_le (by omega)
      rw [hte] at hcl
      refine lv_iconst (v := 1) hx hb d_Kp_follow_112 (by decide) ?_
      exact mw_zret J hr hlk rfl hP hS d_Kp_follow_113 (⟨cx, Nx, rfl, ktx, ksx, hbx, hox, hgx, Or.inl ⟨rfl, hcl⟩⟩)
    · have c_17 : ¬ (300 ≤ t) := fun z => c_17 ((nI_leI (by omega) (by omega)).mpr z)
      refine lv_iload_n hx hb d_Kp_follow_20 rfl (lv_at hl 3 rfl) ?_
      refine lv_iload_n hx hb d_Kp_follow_21 rfl (lv_at hl 2 rfl) ?_
      refine lv_icmp_ge (tgt := 38) hx hb d_Kp_follow_22 (by decide) (fun c_22 => ?_) (fun c_22 => ?_)
      · have c_22 : se ≤ t := (nI_leI (by omega) (by omega)).mp c_22
        refine lv_iconst (v := 0) hx hb d_Kp_follow_38 (by decide) ?_
        refine mw_top (x' := nI 0) nI_0.symm ?_
        refine lv_istore (lv' := [(4, .int (nI 0)), (0, .ref (ad 0)), (1, .int (nI st0)), (2, .int (nI se)), (3, .int (nI t))]) hx hb d_Kp_follow_39 hl (by decide) rfl (fun ls hl => ?_)
        refine lv_iload hx hb d_Kp_follow_41 (lv_at hl 0 rfl) ?_
        refine lv_istore (lv' := [(5, .int (nI 0)), (4, .int (nI 0)), (0, .ref (ad 0)), (1, .int (nI st0)), (2, .int (nI se)), (3, .int (nI t))]) hx hb d_Kp_follow_43 hl (by decide) rfl (fun ls hl => ?_)
        refine mw_loop (W' := fun H locs ls => W p l e _ s m _ below meth c H locs _ _ _ (F0 m 45 ls [])) rs.length (fun k H locs ls => ∃ (cy : Nat → va_E), ∃ (Ny : List Nat), lv_has ls 8 [(0, .ref (ad 0)), (1, .int (nI st0)), (2, .int (nI se)), (3, .int (nI t)), (5, .int (nI k))] ∧ (k_tr cI ad cy pm ((L ++ Nx) ++ Ny)) ∧ (∃ cc u, k_sv cI cC B ad cy ca cc u) ∧ (∀ d, d < 3 → k_blank cI ad cy d) ∧ (∀ i, i = 0 ∨ i = 5 ∨ i = 6 ∨ i = 7 → cy i = cw i) ∧ (∀ z, z ∈ Ny → rk_gen L rs z) ∧ (∀ j, 0 ≤ j → j < k → ∀ v, rk_case (rk_rth rs j) (· ∈ (L ++ Nx).take (t + 1)) v → rk_inst (rk_rth rs j).2 v ∈ (L ++ Nx) ++ Ny) ∧ mw_P D k_cl (mw_ov B ad cy 21) (mw_A (mw_ov B ad cw 21) s.heap.size) H ∧ va_S (mw_A (mw_ov B ad cw 21) s.heap.size) s.heap H locs) ?_ rs.length 0 (by omega) (by omega) _ _ _ ⟨cx, [], lv_sub hl [2, 3, 4, 5, 0] rfl, (by rw [List.append_nil]; exact ktx), ksx, hbx, hox, (fun z hz => absurd hz List.not_mem_nil), (fun j h1 h2 => absurd h2 (by omega)), hP, hS⟩
        intro k H locs ls hi_45 hI ih_45
        obtain ⟨cy, Ny, hl, kty, ksy, hby, hoy, hgy, hcy, hP, hS⟩ := hI
        obtain ⟨fy, wy, hy2, -⟩ := id kty
        obtain ⟨ccy, uy, ksy0⟩ := id ksy
        refine lv_iload hx hb d_Kp_follow_45 (lv_at hl 4 rfl) ?_
        refine lv_aload_n hx hb d_Kp_follow_47 rfl (lv_at hl 0 rfl) ?_
        refine mw_get (v := .int (nI rs.length)) (ci := 6) (C := R_Kp) (T := T_Kp) (N := 7) J i_Kp hK hP (mw_ov_is (i := 0) ho.1 (by decide) ((hoy 0 (by decide)).trans hc0)) rfl 5 (by decide) (hts _ k_173) (fun _ h9 => h9) rfl d_Kp_follow_48 ?_
        refine lv_icmp_ge (tgt := 106) hx hb d_Kp_follow_51 (by decide) (fun c_51 => ?_) (fun c_51 => ?_)
        · have c_51 : rs.length ≤ k := (nI_leI (by omega) (by omega)).mp c_51
          have hke : k = rs.length := by omega
          have hclN : ∀ j, j < rs.length → ∀ v, rk_case (rk_rth rs j) (· ∈ (L ++ Nx).take (t + 1)) v → rk_inst (rk_rth rs j).2 v ∈ (L ++ Nx) ++ Ny := fun j hj v hv => by
            exact hcy j (Nat.zero_le _) (by omega) v hv
          refine lv_iinc (v := nI (t + 1)) (lv' := [(3, .int (nI (t + 1))), (0, .ref (ad 0)), (1, .int (nI st0)), (2, .int (nI se)), (5, .int (nI k))]) hx hb d_Kp_follow_106 hl (k := 3) rfl (nI_1 t) (by decide) rfl (fun ls hl => ?_)
          refine lv_goto (tgt := 2) hx hb d_Kp_follow_109 (by decide) ?_
          exact ih_2 _ _ _ (by omega) ⟨cy, (Nx ++ Ny), lv_sub hl [1, 2, 3, 0] rfl, (by rw [← List.append_assoc]; exact kty), ksy, hby, hoy, (fun z hz => (List.mem_append.mp hz).elim (hgx z) (hgy z)), (by rw [← List.append_assoc, List.length_append]; omega), (by rw [← List.append_assoc, rk_take_app (by omega)]; exact hclN), hP, hS⟩
        · have c_51 : ¬ (rs.length ≤ k) := fun z => c_51 ((nI_leI (by omega) (by omega)).mpr z)
          obtain ⟨ra, hra, hrule, hok⟩ := hfm k (by omega)
          obtain ⟨hr3, bo, hd, sh, fo, fs, hr1, hr2, hr4, hrh, hfo, hfs⟩ := id hrule
          refine lv_aload_n hx hb d_Kp_follow_54 rfl (lv_at hl 0 rfl) ?_
          refine mw_get (v := .ref (ad 6)) (ci := 6) (C := R_Kp) (T := T_Kp) (N := 7) J i_Kp hK hP (mw_ov_is (i := 0) ho.1 (by decide) ((hoy 0 (by decide)).trans hc0)) rfl 3 (by decide) (hts _ k_171) (fun _ h9 => h9) rfl d_Kp_follow_55 ?_
          refine lv_iload hx hb d_Kp_follow_58 (lv_at hl 4 rfl) ?_
          refine mw_aaldN (k := k) (b := ra) J hK hP 3 (mw_ov_is (i := 6) ho.1 (by decide) ((hoy 6 (by decide)).trans hc6)) rfl (by omega) (by decide) hra d_Kp_follow_60 ?_
          refine lv_astore (lv' := [(6, .ref ra), (0, .ref (ad 0)), (1, .int (nI st0)), (2, .int (nI se)), (3, .int (nI t)), (5, .int (nI k))]) hx hb d_Kp_follow_61 hl (by decide) rfl (fun ls hl => ?_)
          refine lv_iconst (v := 0) hx hb d_Kp_follow_63 (by decide) ?_
          refine mw_top (x' := nI 0) nI_0.symm ?_
          refine lv_istore (lv' := [(7, .int (nI 0)), (6, .ref ra), (0, .ref (ad 0)), (1, .int (nI st0)), (2, .int (nI se)), (3, .int (nI t)), (5, .int (nI k))]) hx hb d_Kp_follow_64 hl (by decide) rfl (fun ls hl => ?_)
          refine mw_loop (W' := fun H locs ls => W p l e _ s m _ below meth c H locs _ _ _ (F0 m 66 ls [])) ((rk_rth rs k).1.length) (fun i H locs ls => ∃ (cz : Nat → va_E), ∃ (Nz : List Nat), lv_has ls 8 [(0, .ref (ad 0)), (1, .int (nI st0)), (2, .int (nI se)), (3, .int (nI t)), (5, .int (nI k)), (6, .ref ra), (7, .int (nI i))] ∧ (k_tr cI ad cz pm ((L ++ Nx) ++ Nz)) ∧ (∃ cc u, k_sv cI cC B ad cz ca cc u) ∧ (∀ d, d < 3 → k_blank cI ad cz d) ∧ (∀ i, i = 0 ∨ i = 5 ∨ i = 6 ∨ i = 7 → cz i = cw i) ∧ (∀ z, z ∈ Nz → rk_gen L rs z) ∧ (∀ j, 0 ≤ j → j < k → ∀ v, rk_case (rk_rth rs j) (· ∈ (L ++ Nx).take (t + 1)) v → rk_inst (rk_rth rs j).2 v ∈ (L ++ Nx) ++ Nz) ∧ (∀ j, j < i → rk_drv (rk_rth rs k) j (· ∈ (L ++ Nx).take t) (· ∈ (L ++ Nx).take (t + 1)) (· ∈ (L ++ Nx) ++ Nz)) ∧ mw_P D k_cl (mw_ov B ad cz 21) (mw_A (mw_ov B ad cw 21) s.heap.size) H ∧ va_S (mw_A (mw_ov B ad cw 21) s.heap.size) s.heap H locs) ?_ ((rk_rth rs k).1.length) 0 (by omega) (by omega) _ _ _ ⟨cy, Ny, lv_sub hl [2, 3, 4, 5, 6, 1, 0] rfl, kty, ksy, hby, hoy, hgy, hcy, (fun j hj => absurd hj (Nat.not_lt_zero j)), hP, hS⟩
          intro i H locs ls hi_66 hI ih_66
          obtain ⟨cz, Nz, hl, ktz, ksz, hbz, hoz, hgz, hcz, hdz, hP, hS⟩ := hI
          obtain ⟨fz, wz, hz2, -, -, -, -, -, -, hltz⟩ := id ktz
          obtain ⟨ccz, uz, ksz0⟩ := id ksz
          refine lv_iload hx hb d_Kp_follow_66 (lv_at hl 6 rfl) ?_
          refine lv_aload hx hb d_Kp_follow_68 (lv_at hl 5 rfl) ?_
          refine mw_get (v := .ref bo) (ci := 3) (C := R_Ru) (T := T_Ru) (N := 3) J i_Ru hK hP (mw_ov_fr ho.2 hr1) rfl 0 (by decide) (hts _ k_156) (fun _ h9 => h9) rfl d_Kp_follow_70 ?_
          refine mw_alen (v := nI ((rk_rth rs k).1.length)) J hK hP 2 (mw_ov_fr ho.2 hr2) rfl rfl d_Kp_follow_73 ?_
          refine lv_icmp_ge (tgt := 100) hx hb d_Kp_follow_74 (by decide) (fun c_74 => ?_) (fun c_74 => ?_)
          · have c_74 : ((rk_rth rs k).1.length) ≤ i := (nI_leI (by omega) (by omega)).mp c_74
            have hie : i = (rk_rth rs k).1.length := by omega
            have hrch := rk_reach (r := rk_rth rs k) (S := (· ∈ (L ++ Nx).take t)) (S1 := (· ∈ (L ++ Nx).take (t + 1))) (X := (· ∈ (L ++ Nx) ++ Nz)) (fun z hz => by rw [rk_take_succ (by omega)]; exact List.mem_append_left _ hz) (fun v hv => List.mem_append_left _ (hcl k (by omega) v hv)) (fun j hj => hdz j (by omega))
            have hczN : ∀ j, 0 ≤ j → j < k + 1 → ∀ v, rk_case (rk_rth rs j) (· ∈ (L ++ Nx).take (t + 1)) v → rk_inst (rk_rth rs j).2 v ∈ (L ++ Nx) ++ Nz := fun j h1 h2 v hv => by
              by_cases e : j = k
              · subst e
                exact hrch v hv
              · exact hcz j h1 (by omega) v hv
            refine lv_iinc (v := nI (k + 1)) (lv' := [(5, .int (nI (k + 1))), (0, .ref (ad 0)), (1, .int (nI st0)), (2, .int (nI se)), (3, .int (nI t)), (6, .ref ra), (7, .int (nI i))]) hx hb d_Kp_follow_100 hl (k := 4) rfl (nI_1 k) (by decide) rfl (fun ls hl => ?_)
            refine lv_goto (tgt := 45) hx hb d_Kp_follow_103 (by decide) ?_
            exact ih_45 _ _ _ (by omega) ⟨cz, Nz, lv_sub hl [1, 2, 3, 4, 0] rfl, ktz, ksz, hbz, hoz, hgz, hczN, hP, hS⟩
          · have c_74 : ¬ (((rk_rth rs k).1.length) ≤ i) := fun z => c_74 ((nI_leI (by omega) (by omega)).mpr z)
            refine lv_aload_n hx hb d_Kp_follow_77 rfl (lv_at hl 0 rfl) ?_
            refine mw_get (v := .ref (ad 1)) (ci := 6) (C := R_Kp) (T := T_Kp) (N := 7) J i_Kp hK hP (mw_ov_is (i := 0) ho.1 (by decide) ((hoz 0 (by decide)).trans hc0)) rfl 0 (by decide) (hts _ k_168) (fun _ h9 => h9) rfl d_Kp_follow_78 ?_
            refine lv_aload hx hb d_Kp_follow_81 (lv_at hl 5 rfl) ?_
            refine lv_iload hx hb d_Kp_follow_83 (lv_at hl 6 rfl) ?_
            refine lv_iload_n hx hb d_Kp_follow_85 rfl (lv_at hl 3 rfl) ?_
            refine mw_afterI hP hS hA (mw_runV (As := [.ref ra, .int (nI i), .int (nI t)]) (rest := []) J hK hZ hP hS hA (mw_ov_is (i := 1) ho.1 (by decide) ksz0.1) rfl (c_Sv_derive l D cI cZ cP cR cC tS _ B ad cz pm ((L ++ Nx) ++ Nz) ho hpm ktz ca ccz uz ksz0 hbz ra (rk_rth rs k) hrule hok i t (by omega) (by rw [List.length_append]; omega)) (cwV 3 hts (mw_gV k_231 k_232 k_233 k_2 k_234) rfl rfl rfl (by decide +kernel) ⟨Nat.le_of_ble_eq_true rfl, Nat.le_of_ble_eq_true rfl⟩) rfl hl.1 rfl (Nat.le_of_ble_eq_true rfl) d_Kp_follow_86 ⟨Nat.le_of_ble_eq_true rfl, Nat.le_of_ble_eq_true rfl⟩) (fun rr M1 H locs hw hP hS => ?_)
            obtain ⟨c5, N5, u5, cc5, rfl, kt5, ks5, hb5, ho50, hN5, hcase⟩ := hw
            rw [rk_take_app (a := t + 1) (by omega)] at hN5 hcase
            rw [rk_take_app (a := t) (by omega)] at hcase
            rw [List.append_assoc (L ++ Nx)] at kt5 hcase
            have ho5 : ∀ i, i = 0 ∨ i = 5 ∨ i = 6 ∨ i = 7 → c5 i = cw i := fun i hi => by rw [ho50 i hi]; exact hoz i hi
            have hga : ∀ z, z ∈ (L ++ Nx).take (t + 1) → rk_gen L rs z := fun z hz => (List.mem_append.mp (List.mem_of_mem_take hz)).elim rk_gen_in (hgx z)
            have hg5 : ∀ z, z ∈ Nz ++ N5 → rk_gen L rs z := fun z hz => (List.mem_append.mp hz).elim (hgz z) (fun h => by
              obtain ⟨v, g1, g2⟩ := hN5 z h
              rw [← g2]
              exact rk_gen_case (by omega) hga g1)
            have hsub : ∀ z, z ∈ (L ++ Nx) ++ Nz → z ∈ (L ++ Nx) ++ (Nz ++ N5) := fun z hz => by rw [← List.append_assoc]; exact List.mem_append_left _ hz
            have hc5 := fun j h1 h2 v hv => hsub _ (hcz j h1 h2 v hv)
            have hd5 : ∀ j, j < i → rk_drv (rk_rth rs k) j (· ∈ (L ++ Nx).take t) (· ∈ (L ++ Nx).take (t + 1)) (· ∈ (L ++ Nx) ++ (Nz ++ N5)) := fun j hj => rk_drv_mono (hdz j hj) hsub
            refine lv_if_ne (tgt := 94) hx hb d_Kp_follow_89 (by decide) (fun c_89 => ?_) (fun c_89 => ?_)
            · have hdn5 : rk_drv (rk_rth rs k) i (· ∈ (L ++ Nx).take t) (· ∈ (L ++ Nx).take (t + 1)) (· ∈ (L ++ Nx) ++ (Nz ++ N5)) := by
                rcases hcase with ⟨_, h⟩ | ⟨h, _⟩
                · exact h
                · exact absurd h c_89
              refine lv_iinc (v := nI (i + 1)) (lv' := [(7, .int (nI (i + 1))), (0, .ref (ad 0)), (1, .int (nI st0)), (2, .int (nI se)), (3, .int (nI t)), (5, .int (nI k)), (6, .ref ra)]) hx hb d_Kp_follow_94 hl (k := 6) rfl (nI_1 i) (by decide) rfl (fun ls hl => ?_)
              refine lv_goto (tgt := 66) hx hb d_Kp_follow_97 (by decide) ?_
              exact ih_66 _ _ _ (by omega) ⟨c5, (Nz ++ N5), lv_sub hl [1, 2, 3, 4, 5, 6, 0] rfl, kt5, ⟨_, _, ks5⟩, hb5, ho5, hg5, hc5, (lt_s hd5 hdn5), hP, hS⟩
            · have hfull : ((L ++ Nx) ++ (Nz ++ N5)).length = 300 ∧ ∃ z, z ∉ (L ++ Nx) ++ (Nz ++ N5) ∧ rk_gen L rs z := by
                rcases hcase with ⟨h, _⟩ | ⟨_, h, z, h1, v, h2, h3⟩
                · rw [h] at c_89
                  exact absurd c_89 (by decide)
                · exact ⟨h, z, h1, by rw [← h3]; exact rk_gen_case (by omega) hga h2⟩
              refine lv_iconst (v := 0) hx hb d_Kp_follow_92 (by decide) ?_
              exact mw_zret J hr hlk rfl hP hS d_Kp_follow_93 (⟨c5, Nx ++ (Nz ++ N5), rfl, by rw [← List.append_assoc]; exact kt5, ⟨_, _, ks5⟩, hb5, ho5, fun z hz => (List.mem_append.mp hz).elim (hgx z) (hg5 z), Or.inr ⟨rfl, by rw [← List.append_assoc]; exact hfull⟩⟩)
      · have c_22 : ¬ (se ≤ t) := fun z => c_22 ((nI_leI (by omega) (by omega)).mpr z)
        refine lv_aload_n hx hb d_Kp_follow_25 rfl (lv_at hl 0 rfl) ?_
        refine mw_get (v := .int (nI rs.length)) (ci := 6) (C := R_Kp) (T := T_Kp) (N := 7) J i_Kp hK hP (mw_ov_is (i := 0) ho.1 (by decide) ((hox 0 (by decide)).trans hc0)) rfl 5 (by decide) (hts _ k_173) (fun _ h9 => h9) rfl d_Kp_follow_26 ?_
        refine lv_iconst (v := 1) hx hb d_Kp_follow_29 (by decide) ?_
        refine mw_top (x' := nI 1) rfl ?_
        refine lv_isub hx hb d_Kp_follow_30 ?_
        refine lv_iconst (v := 0) hx hb d_Kp_follow_31 (by decide) ?_
        refine va_mmax hx hb (J.2.2.1.trans hl.1.symm) J.2.2.2.1 (hts _ k_228) (hts _ k_229) (hts _ k_9) (hts _ k_230) (Nat.le_of_ble_eq_true rfl) (Nat.le_of_ble_eq_true rfl) (Nat.le_of_ble_eq_true rfl) (Nat.le_of_ble_eq_true rfl) d_Kp_follow_32 ?_
        refine mw_top (x' := nI (rs.length - 1)) (rk_pred0 hrs12) ?_
        refine lv_goto (tgt := 39) hx hb d_Kp_follow_35 (by decide) ?_
        refine lv_istore (lv' := [(4, .int (nI (rs.length - 1))), (0, .ref (ad 0)), (1, .int (nI st0)), (2, .int (nI se)), (3, .int (nI t))]) hx hb d_Kp_follow_39 hl (by decide) rfl (fun ls hl => ?_)
        refine lv_iload hx hb d_Kp_follow_41 (lv_at hl 0 rfl) ?_
        refine lv_istore (lv' := [(5, .int (nI (rs.length - 1))), (4, .int (nI (rs.length - 1))), (0, .ref (ad 0)), (1, .int (nI st0)), (2, .int (nI se)), (3, .int (nI t))]) hx hb d_Kp_follow_43 hl (by decide) rfl (fun ls hl => ?_)
        refine mw_loop (W' := fun H locs ls => W p l e _ s m _ below meth c H locs _ _ _ (F0 m 45 ls [])) rs.length (fun k H locs ls => ∃ (cy : Nat → va_E), ∃ (Ny : List Nat), lv_has ls 8 [(0, .ref (ad 0)), (1, .int (nI st0)), (2, .int (nI se)), (3, .int (nI t)), (5, .int (nI k))] ∧ (k_tr cI ad cy pm ((L ++ Nx) ++ Ny)) ∧ (∃ cc u, k_sv cI cC B ad cy ca cc u) ∧ (∀ d, d < 3 → k_blank cI ad cy d) ∧ (∀ i, i = 0 ∨ i = 5 ∨ i = 6 ∨ i = 7 → cy i = cw i) ∧ (∀ z, z ∈ Ny → rk_gen L rs z) ∧ (∀ j, (rs.length - 1) ≤ j → j < k → ∀ v, rk_case (rk_rth rs j) (· ∈ (L ++ Nx).take (t + 1)) v → rk_inst (rk_rth rs j).2 v ∈ (L ++ Nx) ++ Ny) ∧ mw_P D k_cl (mw_ov B ad cy 21) (mw_A (mw_ov B ad cw 21) s.heap.size) H ∧ va_S (mw_A (mw_ov B ad cw 21) s.heap.size) s.heap H locs) ?_ rs.length (rs.length - 1) (by omega) (by omega) _ _ _ ⟨cx, [], lv_sub hl [2, 3, 4, 5, 0] rfl, (by rw [List.append_nil]; exact ktx), ksx, hbx, hox, (fun z hz => absurd hz List.not_mem_nil), (fun j h1 h2 => absurd h2 (by omega)), hP, hS⟩
        intro k H locs ls hi_45 hI ih_45
        obtain ⟨cy, Ny, hl, kty, ksy, hby, hoy, hgy, hcy, hP, hS⟩ := hI
        obtain ⟨fy, wy, hy2, -⟩ := id kty
        obtain ⟨ccy, uy, ksy0⟩ := id ksy
        refine lv_iload hx hb d_Kp_follow_45 (lv_at hl 4 rfl) ?_
        refine lv_aload_n hx hb d_Kp_follow_47 rfl (lv_at hl 0 rfl) ?_
        refine mw_get (v := .int (nI rs.length)) (ci := 6) (C := R_Kp) (T := T_Kp) (N := 7) J i_Kp hK hP (mw_ov_is (i := 0) ho.1 (by decide) ((hoy 0 (by decide)).trans hc0)) rfl 5 (by decide) (hts _ k_173) (fun _ h9 => h9) rfl d_Kp_follow_48 ?_
        refine lv_icmp_ge (tgt := 106) hx hb d_Kp_follow_51 (by decide) (fun c_51 => ?_) (fun c_51 => ?_)
        · have c_51 : rs.length ≤ k := (nI_leI (by omega) (by omega)).mp c_51
          have hke : k = rs.length := by omega
          have hclN : ∀ j, j < rs.length → ∀ v, rk_case (rk_rth rs j) (· ∈ (L ++ Nx).take (t + 1)) v → rk_inst (rk_rth rs j).2 v ∈ (L ++ Nx) ++ Ny := fun j hj v hv => by
            by_cases e : rs.length - 1 ≤ j
            · exact hcy j e (by omega) v hv
            · refine List.mem_append_left _ (List.mem_append_left _ (hP2 j (by omega) v (rk_case_mono hv (fun z hz => ?_))))
              have hz : z ∈ (L ++ Nx).take (t + 1) := hz
              rw [rk_take_app (by omega)] at hz
              have e2 : L.take se = L.take (t + 1) ++ (L.take se).drop (t + 1) := by
                have := List.take_append_drop (t + 1) (L.take se)
                rw [List.take_take, Nat.min_eq_left (by omega)] at this
                exact this.symm
              show z ∈ L.take se
              rw [e2]
              exact List.mem_append_left _ hz
          refine lv_iinc (v := nI (t + 1)) (lv' := [(3, .int (nI (t + 1))), (0, .ref (ad 0)), (1, .int (nI st0)), (2, .int (nI se)), (5, .int (nI k))]) hx hb d_Kp_follow_106 hl (k := 3) rfl (nI_1 t) (by decide) rfl (fun ls hl => ?_)
          refine lv_goto (tgt := 2) hx hb d_Kp_follow_109 (by decide) ?_
          exact ih_2 _ _ _ (by omega) ⟨cy, (Nx ++ Ny), lv_sub hl [1, 2, 3, 0] rfl, (by rw [← List.append_assoc]; exact kty), ksy, hby, hoy, (fun z hz => (List.mem_append.mp hz).elim (hgx z) (hgy z)), (by rw [← List.append_assoc, List.length_append]; omega), (by rw [← List.append_assoc, rk_take_app (by omega)]; exact hclN), hP, hS⟩
        · have c_51 : ¬ (rs.length ≤ k) := fun z => c_51 ((nI_leI (by omega) (by omega)).mpr z)
          obtain ⟨ra, hra, hrule, hok⟩ := hfm k (by omega)
          obtain ⟨hr3, bo, hd, sh, fo, fs, hr1, hr2, hr4, hrh, hfo, hfs⟩ := id hrule
          refine lv_aload_n hx hb d_Kp_follow_54 rfl (lv_at hl 0 rfl) ?_
          refine mw_get (v := .ref (ad 6)) (ci := 6) (C := R_Kp) (T := T_Kp) (N := 7) J i_Kp hK hP (mw_ov_is (i := 0) ho.1 (by decide) ((hoy 0 (by decide)).trans hc0)) rfl 3 (by decide) (hts _ k_171) (fun _ h9 => h9) rfl d_Kp_follow_55 ?_
          refine lv_iload hx hb d_Kp_follow_58 (lv_at hl 4 rfl) ?_
          refine mw_aaldN (k := k) (b := ra) J hK hP 3 (mw_ov_is (i := 6) ho.1 (by decide) ((hoy 6 (by decide)).trans hc6)) rfl (by omega) (by decide) hra d_Kp_follow_60 ?_
          refine lv_astore (lv' := [(6, .ref ra), (0, .ref (ad 0)), (1, .int (nI st0)), (2, .int (nI se)), (3, .int (nI t)), (5, .int (nI k))]) hx hb d_Kp_follow_61 hl (by decide) rfl (fun ls hl => ?_)
          refine lv_iconst (v := 0) hx hb d_Kp_follow_63 (by decide) ?_
          refine mw_top (x' := nI 0) nI_0.symm ?_
          refine lv_istore (lv' := [(7, .int (nI 0)), (6, .ref ra), (0, .ref (ad 0)), (1, .int (nI st0)), (2, .int (nI se)), (3, .int (nI t)), (5, .int (nI k))]) hx hb d_Kp_follow_64 hl (by decide) rfl (fun ls hl => ?_)
          refine mw_loop (W' := fun H locs ls => W p l e _ s m _ below meth c H locs _ _ _ (F0 m 66 ls [])) ((rk_rth rs k).1.length) (fun i H locs ls => ∃ (cz : Nat → va_E), ∃ (Nz : List Nat), lv_has ls 8 [(0, .ref (ad 0)), (1, .int (nI st0)), (2, .int (nI se)), (3, .int (nI t)), (5, .int (nI k)), (6, .ref ra), (7, .int (nI i))] ∧ (k_tr cI ad cz pm ((L ++ Nx) ++ Nz)) ∧ (∃ cc u, k_sv cI cC B ad cz ca cc u) ∧ (∀ d, d < 3 → k_blank cI ad cz d) ∧ (∀ i, i = 0 ∨ i = 5 ∨ i = 6 ∨ i = 7 → cz i = cw i) ∧ (∀ z, z ∈ Nz → rk_gen L rs z) ∧ (∀ j, (rs.length - 1) ≤ j → j < k → ∀ v, rk_case (rk_rth rs j) (· ∈ (L ++ Nx).take (t + 1)) v → rk_inst (rk_rth rs j).2 v ∈ (L ++ Nx) ++ Nz) ∧ (∀ j, j < i → rk_drv (rk_rth rs k) j (· ∈ (L ++ Nx).take t) (· ∈ (L ++ Nx).take (t + 1)) (· ∈ (L ++ Nx) ++ Nz)) ∧ mw_P D k_cl (mw_ov B ad cz 21) (mw_A (mw_ov B ad cw 21) s.heap.size) H ∧ va_S (mw_A (mw_ov B ad cw 21) s.heap.size) s.heap H locs) ?_ ((rk_rth rs k).1.length) 0 (by omega) (by omega) _ _ _ ⟨cy, Ny, lv_sub hl [2, 3, 4, 5, 6, 1, 0] rfl, kty, ksy, hby, hoy, hgy, hcy, (fun j hj => absurd hj (Nat.not_lt_zero j)), hP, hS⟩
          intro i H locs ls hi_66 hI ih_66
          obtain ⟨cz, Nz, hl, ktz, ksz, hbz, hoz, hgz, hcz, hdz, hP, hS⟩ := hI
          obtain ⟨fz, wz, hz2, -, -, -, -, -, -, hltz⟩ := id ktz
          obtain ⟨ccz, uz, ksz0⟩ := id ksz
          refine lv_iload hx hb d_Kp_follow_66 (lv_at hl 6 rfl) ?_
          refine lv_aload hx hb d_Kp_follow_68 (lv_at hl 5 rfl) ?_
          refine mw_get (v := .ref bo) (ci := 3) (C := R_Ru) (T := T_Ru) (N := 3) J i_Ru hK hP (mw_ov_fr ho.2 hr1) rfl 0 (by decide) (hts _ k_156) (fun _ h9 => h9) rfl d_Kp_follow_70 ?_
          refine mw_alen (v := nI ((rk_rth rs k).1.length)) J hK hP 2 (mw_ov_fr ho.2 hr2) rfl rfl d_Kp_follow_73 ?_
          refine lv_icmp_ge (tgt := 100) hx hb d_Kp_follow_74 (by decide) (fun c_74 => ?_) (fun c_74 => ?_)
          · have c_74 : ((rk_rth rs k).1.length) ≤ i := (nI_leI (by omega) (by omega)).mp c_74
            have hie : i = (rk_rth rs k).1.length := by omega
            have hrch := rk_reach (r := rk_rth rs k) (S := (· ∈ (L ++ Nx).take t)) (S1 := (· ∈ (L ++ Nx).take (t + 1))) (X := (· ∈ (L ++ Nx) ++ Nz)) (fun z hz => by rw [rk_take_succ (by omega)]; exact List.mem_append_left _ hz) (fun v hv => List.mem_append_left _ (hcl k (by omega) v hv)) (fun j hj => hdz j (by omega))
            have hczN : ∀ j, (rs.length - 1) ≤ j → j < k + 1 → ∀ v, rk_case (rk_rth rs j) (· ∈ (L ++ Nx).take (t + 1)) v → rk_inst (rk_rth rs j).2 v ∈ (L ++ Nx) ++ Nz := fun j h1 h2 v hv => by
              by_cases e : j = k
              · subst e
                exact hrch v hv
              · exact hcz j h1 (by omega) v hv
            refine lv_iinc (v := nI (k + 1)) (lv' := [(5, .int (nI (k + 1))), (0, .ref (ad 0)), (1, .int (nI st0)), (2, .int (nI se)), (3, .int (nI t)), (6, .ref ra), (7, .int (nI i))]) hx hb d_Kp_follow_100 hl (k := 4) rfl (nI_1 k) (by decide) rfl (fun ls hl => ?_)
            refine lv_goto (tgt := 45) hx hb d_Kp_follow_103 (by decide) ?_
            exact ih_45 _ _ _ (by omega) ⟨cz, Nz, lv_sub hl [1, 2, 3, 4, 0] rfl, ktz, ksz, hbz, hoz, hgz, hczN, hP, hS⟩
          · have c_74 : ¬ (((rk_rth rs k).1.length) ≤ i) := fun z => c_74 ((nI_leI (by omega) (by omega)).mpr z)
            refine lv_aload_n hx hb d_Kp_follow_77 rfl (lv_at hl 0 rfl) ?_
            refine mw_get (v := .ref (ad 1)) (ci := 6) (C := R_Kp) (T := T_Kp) (N := 7) J i_Kp hK hP (mw_ov_is (i := 0) ho.1 (by decide) ((hoz 0 (by decide)).trans hc0)) rfl 0 (by decide) (hts _ k_168) (fun _ h9 => h9) rfl d_Kp_follow_78 ?_
            refine lv_aload hx hb d_Kp_follow_81 (lv_at hl 5 rfl) ?_
            refine lv_iload hx hb d_Kp_follow_83 (lv_at hl 6 rfl) ?_
            refine lv_iload_n hx hb d_Kp_follow_85 rfl (lv_at hl 3 rfl) ?_
            refine mw_afterI hP hS hA (mw_runV (As := [.ref ra, .int (nI i), .int (nI t)]) (rest := []) J hK hZ hP hS hA (mw_ov_is (i := 1) ho.1 (by decide) ksz0.1) rfl (c_Sv_derive l D cI cZ cP cR cC tS _ B ad cz pm ((L ++ Nx) ++ Nz) ho hpm ktz ca ccz uz ksz0 hbz ra (rk_rth rs k) hrule hok i t (by omega) (by rw [List.length_append]; omega)) (cwV 3 hts (mw_gV k_231 k_232 k_233 k_2 k_234) rfl rfl rfl (by decide +kernel) ⟨Nat.le_of_ble_eq_true rfl, Nat.le_of_ble_eq_true rfl⟩) rfl hl.1 rfl (Nat.le_of_ble_eq_true rfl) d_Kp_follow_86 ⟨Nat.le_of_ble_eq_true rfl, Nat.le_of_ble_eq_true rfl⟩) (fun rr M1 H locs hw hP hS => ?_)
            obtain ⟨c5, N5, u5, cc5, rfl, kt5, ks5, hb5, ho50, hN5, hcase⟩ := hw
            rw [rk_take_app (a := t + 1) (by omega)] at hN5 hcase
            rw [rk_take_app (a := t) (by omega)] at hcase
            rw [List.append_assoc (L ++ Nx)] at kt5 hcase
            have ho5 : ∀ i, i = 0 ∨ i = 5 ∨ i = 6 ∨ i = 7 → c5 i = cw i := fun i hi => by rw [ho50 i hi]; exact hoz i hi
            have hga : ∀ z, z ∈ (L ++ Nx).take (t + 1) → rk_gen L rs z := fun z hz => (List.mem_append.mp (List.mem_of_mem_take hz)).elim rk_gen_in (hgx z)
            have hg5 : ∀ z, z ∈ Nz ++ N5 → rk_gen L rs z := fun z hz => (List.mem_append.mp hz).elim (hgz z) (fun h => by
              obtain ⟨v, g1, g2⟩ := hN5 z h
              rw [← g2]
              exact rk_gen_case (by omega) hga g1)
            have hsub : ∀ z, z ∈ (L ++ Nx) ++ Nz → z ∈ (L ++ Nx) ++ (Nz ++ N5) := fun z hz => by rw [← List.append_assoc]; exact List.mem_append_left _ hz
            have hc5 := fun j h1 h2 v hv => hsub _ (hcz j h1 h2 v hv)
            have hd5 : ∀ j, j < i → rk_drv (rk_rth rs k) j (· ∈ (L ++ Nx).take t) (· ∈ (L ++ Nx).take (t + 1)) (· ∈ (L ++ Nx) ++ (Nz ++ N5)) := fun j hj => rk_drv_mono (hdz j hj) hsub
            refine lv_if_ne (tgt := 94) hx hb d_Kp_follow_89 (by decide) (fun c_89 => ?_) (fun c_89 => ?_)
            · have hdn5 : rk_drv (rk_rth rs k) i (· ∈ (L ++ Nx).take t) (· ∈ (L ++ Nx).take (t + 1)) (· ∈ (L ++ Nx) ++ (Nz ++ N5)) := by
                rcases hcase with ⟨_, h⟩ | ⟨h, _⟩
                · exact h
                · exact absurd h c_89
              refine lv_iinc (v := nI (i + 1)) (lv' := [(7, .int (nI (i + 1))), (0, .ref (ad 0)), (1, .int (nI st0)), (2, .int (nI se)), (3, .int (nI t)), (5, .int (nI k)), (6, .ref ra)]) hx hb d_Kp_follow_94 hl (k := 6) rfl (nI_1 i) (by decide) rfl (fun ls hl => ?_)
              refine lv_goto (tgt := 66) hx hb d_Kp_follow_97 (by decide) ?_
              exact ih_66 _ _ _ (by omega) ⟨c5, (Nz ++ N5), lv_sub hl [1, 2, 3, 4, 5, 6, 0] rfl, kt5, ⟨_, _, ks5⟩, hb5, ho5, hg5, hc5, (lt_s hd5 hdn5), hP, hS⟩
            · have hfull : ((L ++ Nx) ++ (Nz ++ N5)).length = 300 ∧ ∃ z, z ∉ (L ++ Nx) ++ (Nz ++ N5) ∧ rk_gen L rs z := by
                rcases hcase with ⟨h, _⟩ | ⟨_, h, z, h1, v, h2, h3⟩
                · rw [h] at c_89
                  exact absurd c_89 (by decide)
                · exact ⟨h, z, h1, by rw [← h3]; exact rk_gen_case (by omega) hga h2⟩
              refine lv_iconst (v := 0) hx hb d_Kp_follow_92 (by decide) ?_
              exact mw_zret J hr hlk rfl hP hS d_Kp_follow_93 (⟨c5, Nx ++ (Nz ++ N5), rfl, by rw [← List.append_assoc]; exact kt5, ⟨_, _, ks5⟩, hb5, ho5, fun z hz => (List.mem_append.mp hz).elim (hgx z) (hg5 z), Or.inr ⟨rfl, by rw [← List.append_assoc]; exact hfull⟩⟩)
end
section
/-! arguments: triples and patterns among ints; the keeper's state -/
def rk_isn (x : Int32) : Prop := ∃ n, n < 32 ∧ x = nI n
def rk_tri (a b c : Int32) (k : Nat) : Prop := ∃ i j l, i < 32 ∧ j < 32 ∧ l < 32 ∧ a = nI i ∧ b = nI j ∧ c = nI l ∧ k = rk_pk i j l
def rk_isi (x : Int32) : Prop := ∃ n, n < 40 ∧ x = rk_iv n
def rk_pti (a b c : Int32) (P : rk_Pt) : Prop := rk_okP P ∧ a = rk_iv (rk_at P 0) ∧ b = rk_iv (rk_at P 1) ∧ c = rk_iv (rk_at P 2)
theorem rk_isn_of {x : Int32} (h1 : ¬ x < 0) (h2 : ¬ (32 : Int32) ≤ x) : rk_isn x := by
  rcases pk_ix x (n := 32) (by decide) with z | z | ⟨j, h, e⟩
  · exact absurd z h1
  · exact absurd z h2
  · exact ⟨j, h, e⟩
theorem rk_isn_lo {x : Int32} (h : x < 0) : ¬ rk_isn x := fun ⟨n, hn, e⟩ => absurd h (by rw [e]; exact nI_pos (by omega))
theorem rk_isn_hi {x : Int32} (h : (32 : Int32) ≤ x) : ¬ rk_isn x := fun ⟨n, hn, e⟩ => by
  rw [e] at h
  have := (nI_leI (a := 32) (by decide) (by omega)).mp h
  omega
theorem rk_tri_of {a b c : Int32} (h1 : rk_isn a) (h2 : rk_isn b) (h3 : rk_isn c) : ∃ k, rk_tri a b c k := by
  obtain ⟨i, hi, e1⟩ := h1
  obtain ⟨j, hj, e2⟩ := h2
  obtain ⟨l, hl, e3⟩ := h3
  exact ⟨_, i, j, l, hi, hj, hl, e1, e2, e3, rfl⟩
theorem rk_tri_1 {a b c : Int32} {k : Nat} (h : rk_tri a b c k) : rk_isn a ∧ rk_isn b ∧ rk_isn c := by
  obtain ⟨i, j, l, hi, hj, hl, e1, e2, e3, -⟩ := h
  exact ⟨⟨i, hi, e1⟩, ⟨j, hj, e2⟩, ⟨l, hl, e3⟩⟩
theorem rk_tri_lt {a b c : Int32} {k : Nat} (h : rk_tri a b c k) : k < 32768 := by
  obtain ⟨i, j, l, hi, hj, hl, -, -, -, e⟩ := h
  rw [e]
  exact rk_pk_lt hi hj hl
theorem rk_tri_u {a b c : Int32} {k k' : Nat} (h : rk_tri a b c k) (h' : rk_tri a b c k') : k = k' := by
  obtain ⟨i, j, l, hi, hj, hl, e1, e2, e3, e⟩ := h
  obtain ⟨i', j', l', hi', hj', hl', f1, f2, f3, f⟩ := h'
  have g1 := (nI_eq (by omega) (by omega)).mp (e1.symm.trans f1)
  have g2 := (nI_eq (by omega) (by omega)).mp (e2.symm.trans f2)
  have g3 := (nI_eq (by omega) (by omega)).mp (e3.symm.trans f3)
  rw [e, f, g1, g2, g3]
theorem rk_isi_of {x : Int32} (h1 : ¬ x < -8) (h2 : ¬ (32 : Int32) ≤ x) : rk_isi x := by
  refine rk_item h1 ?_
  rw [Int32.lt_iff_toInt_lt]
  rw [Int32.le_iff_toInt_le] at h2
  omega
theorem rk_isi_lo {x : Int32} (h : x < -8) : ¬ rk_isi x := fun ⟨n, hn, e⟩ => absurd h (by rw [e]; exact (rk_iv_ok n hn).1)
theorem rk_isi_hi {x : Int32} (h : (32 : Int32) ≤ x) : ¬ rk_isi x := fun ⟨n, hn, e⟩ => by
  have h2 := (rk_iv_ok n hn).2
  rw [← e, Int32.lt_iff_toInt_lt] at h2
  rw [Int32.le_iff_toInt_le] at h
  omega
theorem rk_pti_of {a b c : Int32} (h1 : rk_isi a) (h2 : rk_isi b) (h3 : rk_isi c) : ∃ P, rk_pti a b c P := by
  obtain ⟨i, hi, e1⟩ := h1
  obtain ⟨j, hj, e2⟩ := h2
  obtain ⟨l, hl, e3⟩ := h3
  exact ⟨(i, j, l), rk_j3 hi hj hl, e1, e2, e3⟩
theorem rk_pti_1 {a b c : Int32} {P : rk_Pt} (h : rk_pti a b c P) : rk_isi a ∧ rk_isi b ∧ rk_isi c :=
  ⟨⟨_, h.1 0 (by decide), h.2.1⟩, ⟨_, h.1 1 (by decide), h.2.2.1⟩, ⟨_, h.1 2 (by decide), h.2.2.2⟩⟩
theorem rk_pti_u {a b c : Int32} {P P' : rk_Pt} (h : rk_pti a b c P) (h' : rk_pti a b c P') : P = P' := by
  obtain ⟨i, j, l⟩ := P
  obtain ⟨i', j', l'⟩ := P'
  have g1 : i = i' := (rk_iv_inj _ (h.1 0 (by decide)) _ (h'.1 0 (by decide))).mp (h.2.1.symm.trans h'.2.1)
  have g2 : j = j' := (rk_iv_inj _ (h.1 1 (by decide)) _ (h'.1 1 (by decide))).mp (h.2.2.1.symm.trans h'.2.2.1)
  have g3 : l = l' := (rk_iv_inj _ (h.1 2 (by decide)) _ (h'.1 2 (by decide))).mp (h.2.2.2.symm.trans h'.2.2.2)
  rw [g1, g2, g3]
def k_dr (cI cP : ClassId) (B : mw_M) (cw : Nat → va_E) (dr : List rk_Pt) : Prop :=
  dr.length ≤ 4 ∧ ∃ fd : Nat → Option Nat, cw 7 = .inl (cP, 4, .inr (.inr (.inr (.inr fd)))) ∧ ∀ i, i < dr.length → ∃ a, fd i = some a ∧ k_pat cI B a (dr.getD i (0, 0, 0))
def k_said (cI : ClassId) (cw : Nat → va_E) (said : Nat → Bool) : Prop := ∃ ws, cw 5 = .inl (cI, 1024, .inl ws) ∧ rk_W ws said
/-- the keeper's cells -/
def k_kp (cI cP cR cC : ClassId) (B : mw_M) (ad : Nat → Nat) (cw : Nat → va_E) (pm sm ca : Nat) (said : Nat → Bool) (rs : List rk_Ru) (dr : List rk_Pt) (L : List Nat) : Prop :=
  cw 0 = k_k0 ad sm rs.length dr.length ∧ k_tr cI ad cw pm L ∧ (∃ cc u, k_sv cI cC B ad cw ca cc u) ∧ (∀ d, d < 3 → k_blank cI ad cw d) ∧ k_said cI cw said ∧ k_made cI cP cR B cw rs ∧ k_dr cI cP B cw dr
def k_fz (B : mw_M) (ad : Nat → Nat) (pm sm : Nat) : Prop := B pm = some (.inr (0, [.ref (ad 4)])) ∧ B sm = some (.inr (0, [.ref (ad 5)]))
/-- every case of the rules in L has its head in L -/
def rk_clo (rs : List rk_Ru) (L : List Nat) : Prop := ∀ i, i < rs.length → ∀ v, rk_case (rk_rth rs i) (· ∈ L) v → rk_inst (rk_rth rs i).2 v ∈ L
def rk_many (L : List Nat) (rs : List rk_Ru) : Prop := ∃ K : List Nat, K.Nodup ∧ 300 < K.length ∧ ∀ z, z ∈ K → rk_gen L rs z
theorem rk_many_of {L K : List Nat} {rs : List rk_Ru} {z : Nat} (hn : K.Nodup) (h3 : K.length = 300) (hg : ∀ k, k ∈ K → rk_gen L rs k) (hz : z ∉ K) (hgz : rk_gen L rs z) : rk_many L rs :=
  ⟨K ++ [z], List.nodup_append.mpr ⟨hn, by simp, fun a ha b hb e => hz (by rw [← List.mem_singleton.mp hb, ← e]; exact ha)⟩, by rw [List.length_append, h3]; exact Nat.lt_succ_self 300, fun k hk => (List.mem_append.mp hk).elim (hg k) (fun h => by rw [List.mem_singleton.mp h]; exact hgz)⟩
end
section
/-! RuleKeeper: isNumber, isTriple, isItem, isPattern, codeOf, hold, holdAnew -/
set_option maxHeartbeats 4000000 in
set_option maxRecDepth 100000 in
theorem c_Kp_isNumber (l : Launch) (D : va_G) (cI cZ cP cR cC : ClassId) (tS : Nat) (sz : Nat) (M : mw_M) (x : Int32) :
    Met l y_Kp_isNumber (.code y_Kp_isNumber b_Kp_isNumber 1 (some .boolean) :: gw) ({ frames := 0, cells := 0, slots := 0, locals := 0 }) (va_Pc [.int x] (mw_B D k_cl (k_tys cI cZ cP cR cC) (k_g tS) M sz)) (va_Qi (fun (r : Int32) (M1 : mw_M) => M1 = M ∧ ((r = 1 ∧ rk_isn x) ∨ (r = 0 ∧ ¬ rk_isn x))) (mw_E D k_cl M sz) (mw_A M sz)) 0 0 (mw_A M sz) := by
  refine mw_met (by decide) rfl (Nat.le_of_ble_eq_true rfl) ?_
  intro p e s m below meth c hsz J hr hlk hnm hK hZ hP hS hA ls hl
  subst hsz
  have hx := J.1
  have hb := J.2.1
  have hts := J.2.2.2.2
  have hl : lv_has ls 1 [(0, .int x)] := hl
  refine lv_iload_n hx hb d_Kp_isNumber_0 rfl (lv_at hl 0 rfl) ?_
  refine lv_if_lt (tgt := 14) hx hb d_Kp_isNumber_1 (by decide) (fun c_1 => ?_) (fun c_1 => ?_)
  · have hn := rk_isn_lo c_1
    refine lv_iconst (v := 0) hx hb d_Kp_isNumber_14 (by decide) ?_
    exact mw_zret J hr hlk rfl hP hS d_Kp_isNumber_15 (⟨rfl, Or.inr ⟨rfl, hn⟩⟩)
  · refine lv_iload_n hx hb d_Kp_isNumber_4 rfl (lv_at hl 0 rfl) ?_
    refine lv_bipush (v := 32) hx hb d_Kp_isNumber_5 (by decide) ?_
    refine lv_icmp_ge (tgt := 14) hx hb d_Kp_isNumber_7 (by decide) (fun c_7 => ?_) (fun c_7 => ?_)
    · have hn := rk_isn_hi c_7
      refine lv_iconst (v := 0) hx hb d_Kp_isNumber_14 (by decide) ?_
      exact mw_zret J hr hlk rfl hP hS d_Kp_isNumber_15 (⟨rfl, Or.inr ⟨rfl, hn⟩⟩)
    · have hy := rk_isn_of c_1 c_7
      refine lv_iconst (v := 1) hx hb d_Kp_isNumber_10 (by decide) ?_
      refine lv_goto (tgt := 15) hx hb d_Kp_isNumber_11 (by decide) ?_
      exact mw_zret J hr hlk rfl hP hS d_Kp_isNumber_15 (⟨rfl, Or.inl ⟨rfl, hy⟩⟩)

set_option maxHeartbeats 4000000 in
set_option maxRecDepth 100000 in
theorem c_Kp_isItem (l : Launch) (D : va_G) (cI cZ cP cR cC : ClassId) (tS : Nat) (sz : Nat) (M : mw_M) (x : Int32) :
    Met l y_Kp_isItem (.code y_Kp_isItem b_Kp_isItem 1 (some .boolean) :: gw) ({ frames := 0, cells := 0, slots := 0, locals := 0 }) (va_Pc [.int x] (mw_B D k_cl (k_tys cI cZ cP cR cC) (k_g tS) M sz)) (va_Qi (fun (r : Int32) (M1 : mw_M) => M1 = M ∧ ((r = 1 ∧ rk_isi x) ∨ (r = 0 ∧ ¬ rk_isi x))) (mw_E D k_cl M sz) (mw_A M sz)) 0 0 (mw_A M sz) := by
  refine mw_met (by decide) rfl (Nat.le_of_ble_eq_true rfl) ?_
  intro p e s m below meth c hsz J hr hlk hnm hK hZ hP hS hA ls hl
  subst hsz
  have hx := J.1
  have hb := J.2.1
  have hts := J.2.2.2.2
  have hl : lv_has ls 1 [(0, .int x)] := hl
  refine lv_iload_n hx hb d_Kp_isItem_0 rfl (lv_at hl 0 rfl) ?_
  refine lv_bipush (v := (-8)) hx hb d_Kp_isItem_1 (by decide) ?_
  refine lv_icmp_lt (tgt := 16) hx hb d_Kp_isItem_3 (by decide) (fun c_3 => ?_) (fun c_3 => ?_)
  · have hn := rk_isi_lo c_3
    refine lv_iconst (v := 0) hx hb d_Kp_isItem_16 (by decide) ?_
    exact mw_zret J hr hlk rfl hP hS d_Kp_isItem_17 (⟨rfl, Or.inr ⟨rfl, hn⟩⟩)
  · refine lv_iload_n hx hb d_Kp_isItem_6 rfl (lv_at hl 0 rfl) ?_
    refine lv_bipush (v := 32) hx hb d_Kp_isItem_7 (by decide) ?_
    refine lv_icmp_ge (tgt := 16) hx hb d_Kp_isItem_9 (by decide) (fun c_9 => ?_) (fun c_9 => ?_)
    · have hn := rk_isi_hi c_9
      refine lv_iconst (v := 0) hx hb d_Kp_isItem_16 (by decide) ?_
      exact mw_zret J hr hlk rfl hP hS d_Kp_isItem_17 (⟨rfl, Or.inr ⟨rfl, hn⟩⟩)
    · have hy := rk_isi_of c_3 c_9
      refine lv_iconst (v := 1) hx hb d_Kp_isItem_12 (by decide) ?_
      refine lv_goto (tgt := 17) hx hb d_Kp_isItem_13 (by decide) ?_
      exact mw_zret J hr hlk rfl hP hS d_Kp_isItem_17 (⟨rfl, Or.inl ⟨rfl, hy⟩⟩)

set_option maxHeartbeats 4000000 in
set_option maxRecDepth 100000 in
theorem c_Kp_isTriple (l : Launch) (D : va_G) (cI cZ cP cR cC : ClassId) (tS : Nat) (sz : Nat) (M : mw_M) (x y z : Int32) :
    Met l y_Kp_isTriple (.code y_Kp_isTriple b_Kp_isTriple 3 (some .boolean) :: gw) ({ frames := 1, cells := 0, slots := 0, locals := 20 }) (va_Pc [.int x, .int y, .int z] (mw_B D k_cl (k_tys cI cZ cP cR cC) (k_g tS) M sz)) (va_Qi (fun (r : Int32) (M1 : mw_M) => M1 = M ∧ ((r = 1 ∧ ∃ k, rk_tri x y z k) ∨ (r = 0 ∧ ¬ ∃ k, rk_tri x y z k))) (mw_E D k_cl M sz) (mw_A M sz)) 0 0 (mw_A M sz) := by
  refine mw_met (by decide) rfl (Nat.le_of_ble_eq_true rfl) ?_
  intro p e s m below meth c hsz J hr hlk hnm hK hZ hP hS hA ls hl
  subst hsz
  have hx := J.1
  have hb := J.2.1
  have hts := J.2.2.2.2
  have hl : lv_has ls 3 [(0, .int x), (1, .int y), (2, .int z)] := hl
  refine lv_iload_n hx hb d_Kp_isTriple_0 rfl (lv_at hl 0 rfl) ?_
  refine mw_afterI hP hS hA (mw_runS (As := [.int x]) (rest := []) J hK hZ hP hS hA (c_Kp_isNumber l D cI cZ cP cR cC tS _ M x) (cwS 1 hts (mw_gS k_197 k_198 k_1 k_199) rfl rfl rfl (by decide +kernel) ⟨Nat.le_of_ble_eq_true rfl, Nat.le_of_ble_eq_true rfl⟩) rfl hl.1 rfl (Nat.le_of_ble_eq_true rfl) d_Kp_isTriple_1 ⟨Nat.le_of_ble_eq_true rfl, Nat.le_of_ble_eq_true rfl⟩) (fun r0 M1 H locs hw hP hS => ?_)
  obtain ⟨e1, hw0⟩ := hw
  rw [e1] at hP
  refine lv_if_eq (tgt := 25) hx hb d_Kp_isTriple_4 (by decide) (fun c_4 => ?_) (fun c_4 => ?_)
  · have hn : ¬ ∃ k, rk_tri x y z k := fun ⟨k, h⟩ => by
      rcases hw0 with ⟨g, _⟩ | ⟨_, g⟩
      · rw [g] at c_4
        exact absurd c_4 (by decide)
      · exact g (rk_tri_1 h).1
    refine lv_iconst (v := 0) hx hb d_Kp_isTriple_25 (by decide) ?_
    exact mw_zret J hr hlk rfl hP hS d_Kp_isTriple_26 (⟨rfl, Or.inr ⟨rfl, hn⟩⟩)
  · have hy0 := hw0.resolve_right (fun g => c_4 g.1)
    refine lv_iload_n hx hb d_Kp_isTriple_7 rfl (lv_at hl 1 rfl) ?_
    refine mw_afterI hP hS hA (mw_runS (As := [.int y]) (rest := []) J hK hZ hP hS hA (c_Kp_isNumber l D cI cZ cP cR cC tS _ M y) (cwS 1 hts (mw_gS k_197 k_198 k_1 k_199) rfl rfl rfl (by decide +kernel) ⟨Nat.le_of_ble_eq_true rfl, Nat.le_of_ble_eq_true rfl⟩) rfl hl.1 rfl (Nat.le_of_ble_eq_true rfl) d_Kp_isTriple_8 ⟨Nat.le_of_ble_eq_true rfl, Nat.le_of_ble_eq_true rfl⟩) (fun r1 M1 H locs hw hP hS => ?_)
    obtain ⟨e1, hw1⟩ := hw
    rw [e1] at hP
    refine lv_if_eq (tgt := 25) hx hb d_Kp_isTriple_11 (by decide) (fun c_11 => ?_) (fun c_11 => ?_)
    · have hn : ¬ ∃ k, rk_tri x y z k := fun ⟨k, h⟩ => by
        rcases hw1 with ⟨g, _⟩ | ⟨_, g⟩
        · rw [g] at c_11
          exact absurd c_11 (by decide)
        · exact g (rk_tri_1 h).2.1
      refine lv_iconst (v := 0) hx hb d_Kp_isTriple_25 (by decide) ?_
      exact mw_zret J hr hlk rfl hP hS d_Kp_isTriple_26 (⟨rfl, Or.inr ⟨rfl, hn⟩⟩)
    · have hy1 := hw1.resolve_right (fun g => c_11 g.1)
      refine lv_iload_n hx hb d_Kp_isTriple_14 rfl (lv_at hl 2 rfl) ?_
      refine mw_afterI hP hS hA (mw_runS (As := [.int z]) (rest := []) J hK hZ hP hS hA (c_Kp_isNumber l D cI cZ cP cR cC tS _ M z) (cwS 1 hts (mw_gS k_197 k_198 k_1 k_199) rfl rfl rfl (by decide +kernel) ⟨Nat.le_of_ble_eq_true rfl, Nat.le_of_ble_eq_true rfl⟩) rfl hl.1 rfl (Nat.le_of_ble_eq_true rfl) d_Kp_isTriple_15 ⟨Nat.le_of_ble_eq_true rfl, Nat.le_of_ble_eq_true rfl⟩) (fun r2 M1 H locs hw hP hS => ?_)
      obtain ⟨e1, hw2⟩ := hw
      rw [e1] at hP
      refine lv_if_eq (tgt := 25) hx hb d_Kp_isTriple_18 (by decide) (fun c_18 => ?_) (fun c_18 => ?_)
      · have hn : ¬ ∃ k, rk_tri x y z k := fun ⟨k, h⟩ => by
          rcases hw2 with ⟨g, _⟩ | ⟨_, g⟩
          · rw [g] at c_18
            exact absurd c_18 (by decide)
          · exact g (rk_tri_1 h).2.2
        refine lv_iconst (v := 0) hx hb d_Kp_isTriple_25 (by decide) ?_
        exact mw_zret J hr hlk rfl hP hS d_Kp_isTriple_26 (⟨rfl, Or.inr ⟨rfl, hn⟩⟩)
      · have hy2 := hw2.resolve_right (fun g => c_18 g.1)
        refine lv_iconst (v := 1) hx hb d_Kp_isTriple_21 (by decide) ?_
        refine lv_goto (tgt := 26) hx hb d_Kp_isTriple_22 (by decide) ?_
        exact mw_zret J hr hlk rfl hP hS d_Kp_isTriple_26 (⟨rfl, Or.inl ⟨rfl, rk_tri_of hy0.2 hy1.2 hy2.2⟩⟩)

set_option maxHeartbeats 4000000 in
set_option maxRecDepth 100000 in
theorem c_Kp_isPattern (l : Launch) (D : va_G) (cI cZ cP cR cC : ClassId) (tS : Nat) (sz : Nat) (M : mw_M) (x y z : Int32) :
    Met l y_Kp_isPattern (.code y_Kp_isPattern b_Kp_isPattern 3 (some .boolean) :: gw) ({ frames := 1, cells := 0, slots := 0, locals := 20 }) (va_Pc [.int x, .int y, .int z] (mw_B D k_cl (k_tys cI cZ cP cR cC) (k_g tS) M sz)) (va_Qi (fun (r : Int32) (M1 : mw_M) => M1 = M ∧ ((r = 1 ∧ ∃ k, rk_pti x y z k) ∨ (r = 0 ∧ ¬ ∃ k, rk_pti x y z k))) (mw_E D k_cl M sz) (mw_A M sz)) 0 0 (mw_A M sz) := by
  refine mw_met (by decide) rfl (Nat.le_of_ble_eq_true rfl) ?_
  intro p e s m below meth c hsz J hr hlk hnm hK hZ hP hS hA ls hl
  subst hsz
  have hx := J.1
  have hb := J.2.1
  have hts := J.2.2.2.2
  have hl : lv_has ls 3 [(0, .int x), (1, .int y), (2, .int z)] := hl
  refine lv_iload_n hx hb d_Kp_isPattern_0 rfl (lv_at hl 0 rfl) ?_
  refine mw_afterI hP hS hA (mw_runS (As := [.int x]) (rest := []) J hK hZ hP hS hA (c_Kp_isItem l D cI cZ cP cR cC tS _ M x) (cwS 1 hts (mw_gS k_316 k_317 k_1 k_318) rfl rfl rfl (by decide +kernel) ⟨Nat.le_of_ble_eq_true rfl, Nat.le_of_ble_eq_true rfl⟩) rfl hl.1 rfl (Nat.le_of_ble_eq_true rfl) d_Kp_isPattern_1 ⟨Nat.le_of_ble_eq_true rfl, Nat.le_of_ble_eq_true rfl⟩) (fun r0 M1 H locs hw hP hS => ?_)
  obtain ⟨e1, hw0⟩ := hw
  rw [e1] at hP
  refine lv_if_eq (tgt := 25) hx hb d_Kp_isPattern_4 (by decide) (fun c_4 => ?_) (fun c_4 => ?_)
  · have hn : ¬ ∃ k, rk_pti x y z k := fun ⟨k, h⟩ => by
      rcases hw0 with ⟨g, _⟩ | ⟨_, g⟩
      · rw [g] at c_4
        exact absurd c_4 (by decide)
      · exact g (rk_pti_1 h).1
    refine lv_iconst (v := 0) hx hb d_Kp_isPattern_25 (by decide) ?_
    exact mw_zret J hr hlk rfl hP hS d_Kp_isPattern_26 (⟨rfl, Or.inr ⟨rfl, hn⟩⟩)
  · have hy0 := hw0.resolve_right (fun g => c_4 g.1)
    refine lv_iload_n hx hb d_Kp_isPattern_7 rfl (lv_at hl 1 rfl) ?_
    refine mw_afterI hP hS hA (mw_runS (As := [.int y]) (rest := []) J hK hZ hP hS hA (c_Kp_isItem l D cI cZ cP cR cC tS _ M y) (cwS 1 hts (mw_gS k_316 k_317 k_1 k_318) rfl rfl rfl (by decide +kernel) ⟨Nat.le_of_ble_eq_true rfl, Nat.le_of_ble_eq_true rfl⟩) rfl hl.1 rfl (Nat.le_of_ble_eq_true rfl) d_Kp_isPattern_8 ⟨Nat.le_of_ble_eq_true rfl, Nat.le_of_ble_eq_true rfl⟩) (fun r1 M1 H locs hw hP hS => ?_)
    obtain ⟨e1, hw1⟩ := hw
    rw [e1] at hP
    refine lv_if_eq (tgt := 25) hx hb d_Kp_isPattern_11 (by decide) (fun c_11 => ?_) (fun c_11 => ?_)
    · have hn : ¬ ∃ k, rk_pti x y z k := fun ⟨k, h⟩ => by
        rcases hw1 with ⟨g, _⟩ | ⟨_, g⟩
        · rw [g] at c_11
          exact absurd c_11 (by decide)
        · exact g (rk_pti_1 h).2.1
      refine lv_iconst (v := 0) hx hb d_Kp_isPattern_25 (by decide) ?_
      exact mw_zret J hr hlk rfl hP hS d_Kp_isPattern_26 (⟨rfl, Or.inr ⟨rfl, hn⟩⟩)
    · have hy1 := hw1.resolve_right (fun g => c_11 g.1)
      refine lv_iload_n hx hb d_Kp_isPattern_14 rfl (lv_at hl 2 rfl) ?_
      refine mw_afterI hP hS hA (mw_runS (As := [.int z]) (rest := []) J hK hZ hP hS hA (c_Kp_isItem l D cI cZ cP cR cC tS _ M z) (cwS 1 hts (mw_gS k_316 k_317 k_1 k_318) rfl rfl rfl (by decide +kernel) ⟨Nat.le_of_ble_eq_true rfl, Nat.le_of_ble_eq_true rfl⟩) rfl hl.1 rfl (Nat.le_of_ble_eq_true rfl) d_Kp_isPattern_15 ⟨Nat.le_of_ble_eq_true rfl, Nat.le_of_ble_eq_true rfl⟩) (fun r2 M1 H locs hw hP hS => ?_)
      obtain ⟨e1, hw2⟩ := hw
      rw [e1] at hP
      refine lv_if_eq (tgt := 25) hx hb d_Kp_isPattern_18 (by decide) (fun c_18 => ?_) (fun c_18 => ?_)
      · have hn : ¬ ∃ k, rk_pti x y z k := fun ⟨k, h⟩ => by
          rcases hw2 with ⟨g, _⟩ | ⟨_, g⟩
          · rw [g] at c_18
            exact absurd c_18 (by decide)
          · exact g (rk_pti_1 h).2.2
        refine lv_iconst (v := 0) hx hb d_Kp_isPattern_25 (by decide) ?_
        exact mw_zret J hr hlk rfl hP hS d_Kp_isPattern_26 (⟨rfl, Or.inr ⟨rfl, hn⟩⟩)
      · have hy2 := hw2.resolve_right (fun g => c_18 g.1)
        refine lv_iconst (v := 1) hx hb d_Kp_isPattern_21 (by decide) ?_
        refine lv_goto (tgt := 26) hx hb d_Kp_isPattern_22 (by decide) ?_
        exact mw_zret J hr hlk rfl hP hS d_Kp_isPattern_26 (⟨rfl, Or.inl ⟨rfl, rk_pti_of hy0.2 hy1.2 hy2.2⟩⟩)

set_option maxHeartbeats 4000000 in
set_option maxRecDepth 100000 in
theorem c_Kp_codeOf (l : Launch) (D : va_G) (cI cZ cP cR cC : ClassId) (tS : Nat) (sz : Nat) (M : mw_M) (x y z : Int32) (k : Nat) (hk : rk_tri x y z k) :
    Met l y_Kp_codeOf (.code y_Kp_codeOf b_Kp_codeOf 3 (some .int) :: gw) ({ frames := 0, cells := 0, slots := 0, locals := 0 }) (va_Pc [.int x, .int y, .int z] (mw_B D k_cl (k_tys cI cZ cP cR cC) (k_g tS) M sz)) (va_Qi (fun (r : Int32) (M1 : mw_M) => M1 = M ∧ r = nI k) (mw_E D k_cl M sz) (mw_A M sz)) 0 0 (mw_A M sz) := by
  refine mw_met (by decide) rfl (Nat.le_of_ble_eq_true rfl) ?_
  intro p e s m below meth c hsz J hr hlk hnm hK hZ hP hS hA ls hl
  subst hsz
  have hx := J.1
  have hb := J.2.1
  have hts := J.2.2.2.2
  have hl : lv_has ls 3 [(0, .int x), (1, .int y), (2, .int z)] := hl
  obtain ⟨i, j, n, hi, hj, hn, rfl, rfl, rfl, rfl⟩ := hk
  have hl : lv_has ls 3 [(0, .int (nI i)), (1, .int (nI j)), (2, .int (nI n))] := hl
  refine lv_iload_n hx hb d_Kp_codeOf_0 rfl (lv_at hl 0 rfl) ?_
  refine lv_bipush (v := 32) hx hb d_Kp_codeOf_1 (by decide) ?_
  refine mw_top (x' := nI 32) rfl ?_
  refine lv_imul hx hb d_Kp_codeOf_3 ?_
  refine mw_top (x' := nI (i * 32)) (pk_mul _ _) ?_
  refine lv_iload_n hx hb d_Kp_codeOf_4 rfl (lv_at hl 1 rfl) ?_
  refine lv_iadd hx hb d_Kp_codeOf_5 ?_
  refine mw_top (x' := nI (i * 32 + j)) (nI_add _ _) ?_
  refine lv_bipush (v := 32) hx hb d_Kp_codeOf_6 (by decide) ?_
  refine mw_top (x' := nI 32) rfl ?_
  refine lv_imul hx hb d_Kp_codeOf_8 ?_
  refine mw_top (x' := nI ((i * 32 + j) * 32)) (pk_mul _ _) ?_
  refine lv_iload_n hx hb d_Kp_codeOf_9 rfl (lv_at hl 2 rfl) ?_
  refine lv_iadd hx hb d_Kp_codeOf_10 ?_
  refine mw_top (x' := nI ((i * 32 + j) * 32 + n)) (nI_add _ _) ?_
  exact mw_iret J hr hlk hP hS d_Kp_codeOf_11 (⟨rfl, by unfold rk_pk; congr 1; omega⟩)

set_option maxHeartbeats 4000000 in
set_option maxRecDepth 100000 in
theorem c_Kp_hold (l : Launch) (D : va_G) (cI cZ cP cR cC : ClassId) (tS : Nat) (sz : Nat) (B : mw_M) (ad : Nat → Nat) (cw : Nat → va_E) (pm : Nat) (L : List Nat) (ho : k_ov B ad) (hpm : B pm = some (.inr (0, [.ref (ad 4)]))) (ht : k_tr cI ad cw pm L) (ca : Nat) (hsv : ∃ cc u, k_sv cI cC B ad cw ca cc u) (hbl : ∀ d, d < 3 → k_blank cI ad cw d) (sm dn : Nat) (rs : List rk_Ru) (hc0 : cw 0 = k_k0 ad sm rs.length dn) (hmd : k_made cI cP cR B cw rs) (hclo : rk_clo rs L) (k : Nat) (hk : k < 32768) (hkL : k ∉ L) :
    Met l y_Kp_hold (.code y_Kp_hold b_Kp_hold 3 (some .boolean) :: gw) ({ frames := 9, cells := 0, slots := 0, locals := 211 }) (va_Pc [.ref (ad 0), .int (nI k)] (mw_B D k_cl (k_tys cI cZ cP cR cC) (k_g tS) (mw_ov B ad cw 21) sz)) (va_Qi (fun (rr : Int32) (M1 : mw_M) => ∃ cw1, M1 = mw_ov B ad cw1 21 ∧ (∃ cc u, k_sv cI cC B ad cw1 ca cc u) ∧ (∀ d, d < 3 → k_blank cI ad cw1 d) ∧ (∀ i, i = 0 ∨ i = 5 ∨ i = 6 ∨ i = 7 → cw1 i = cw i) ∧ ((rr = 1 ∧ ∃ N1, k_tr cI ad cw1 pm ((L ++ [k]) ++ N1) ∧ (∀ z, z ∈ N1 → rk_gen (L ++ [k]) rs z) ∧ rk_clo rs ((L ++ [k]) ++ N1)) ∨ (rr = 0 ∧ k_tr cI ad cw1 pm L ∧ rk_many (L ++ [k]) rs))) (mw_E D k_cl (mw_ov B ad cw 21) sz) (mw_A (mw_ov B ad cw 21) sz)) 0 0 (mw_A (mw_ov B ad cw 21) sz) := by
  refine mw_met (by decide) rfl (Nat.le_of_ble_eq_true rfl) ?_
  intro p e s m below meth c hsz J hr hlk hnm hK hZ hP hS hA ls hl
  subst hsz
  have hx := J.1
  have hb := J.2.1
  have hts := J.2.2.2.2
  have hl : lv_has ls 3 [(0, .ref (ad 0)), (1, .int (nI k))] := hl
  have ht0 := ht
  obtain ⟨fc, w, hc2, hc3, hc4, hfc, hW, hL3, hnd, hlt⟩ := ht
  refine lv_aload_n hx hb d_Kp_hold_0 rfl (lv_at hl 0 rfl) ?_
  refine mw_get (v := .ref (ad 2)) (ci := 6) (C := R_Kp) (T := T_Kp) (N := 7) J i_Kp hK hP (mw_ov_is (i := 0) ho.1 (by decide) hc0) rfl 1 (by decide) (hts _ k_169) (fun _ h9 => h9) rfl d_Kp_hold_1 ?_
  refine mw_get (v := .int (nI L.length)) (ci := 1) (C := R_Tr) (T := T_Tr) (N := 3) J i_Tr hK hP (mw_ov_is (i := 2) ho.1 (by decide) hc2) rfl 2 (by decide) (hts _ k_49) (fun _ h9 => h9) rfl d_Kp_hold_4 ?_
  refine lv_istore_n (lv' := [(2, .int (nI L.length)), (0, .ref (ad 0)), (1, .int (nI k))]) hx hb d_Kp_hold_7 rfl hl (by decide) rfl (fun ls hl => ?_)
  refine lv_aload_n hx hb d_Kp_hold_8 rfl (lv_at hl 1 rfl) ?_
  refine mw_get (v := .ref (ad 2)) (ci := 6) (C := R_Kp) (T := T_Kp) (N := 7) J i_Kp hK hP (mw_ov_is (i := 0) ho.1 (by decide) hc0) rfl 1 (by decide) (hts _ k_169) (fun _ h9 => h9) rfl d_Kp_hold_9 ?_
  refine lv_iload_n hx hb d_Kp_hold_12 rfl (lv_at hl 2 rfl) ?_
  refine mw_afterI hP hS hA (mw_runV (As := [.int (nI k)]) (rest := []) J hK hZ hP hS hA (mw_ov_is (i := 2) ho.1 (by decide) hc2) rfl (c_Tr_add l D cI cZ cP cR cC tS _ B ad cw pm L ho hpm ht0 k hk hkL) (cwV 1 hts (mw_gV k_216 k_217 k_218 k_3 k_219) rfl rfl rfl (by decide +kernel) ⟨Nat.le_of_ble_eq_true rfl, Nat.le_of_ble_eq_true rfl⟩) rfl hl.1 rfl (Nat.le_of_ble_eq_true rfl) d_Kp_hold_13 ⟨Nat.le_of_ble_eq_true rfl, Nat.le_of_ble_eq_true rfl⟩) (fun r1 M1 H locs hw hP hS => ?_)
  refine lv_if_eq (tgt := 30) hx hb d_Kp_hold_16 (by decide) (fun c_16 => ?_) (fun c_16 => ?_)
  · have hfl : L.length = 300 ∧ M1 = mw_ov B ad cw 21 := by
      rcases hw with ⟨_, h, _⟩ | ⟨h1, _, h2⟩
      · rw [h] at c_16
        exact absurd c_16 (by decide)
      · exact ⟨h1, h2⟩
    obtain ⟨hfl, rfl⟩ := hfl
    have hmany : rk_many (L ++ [k]) rs := rk_many_of hnd hfl (fun z hz => rk_gen_in (List.mem_append_left _ hz)) hkL (rk_gen_in (by simp))
    refine lv_aload_n hx hb d_Kp_hold_30 rfl (lv_at hl 1 rfl) ?_
    refine mw_get (v := .ref (ad 2)) (ci := 6) (C := R_Kp) (T := T_Kp) (N := 7) J i_Kp hK hP (mw_ov_is (i := 0) ho.1 (by decide) hc0) rfl 1 (by decide) (hts _ k_169) (fun _ h9 => h9) rfl d_Kp_hold_31 ?_
    refine lv_iload_n hx hb d_Kp_hold_34 rfl (lv_at hl 0 rfl) ?_
    refine mw_afterV hP hS hA (mw_runV (As := [.int (nI L.length)]) (rest := []) J hK hZ hP hS hA (mw_ov_is (i := 2) ho.1 (by decide) hc2) rfl (c_Tr_cutTo l D cI cZ cP cR cC tS _ B ad cw pm L ho hpm ht0 L.length (Nat.le_refl _)) (cwV 1 hts (mw_gV k_283 k_284 k_285 k_3 k_286) rfl rfl rfl (by decide +kernel) ⟨Nat.le_of_ble_eq_true rfl, Nat.le_of_ble_eq_true rfl⟩) rfl hl.1 rfl (Nat.le_of_ble_eq_true rfl) d_Kp_hold_35 ⟨Nat.le_of_ble_eq_true rfl, Nat.le_of_ble_eq_true rfl⟩) (fun M1 H locs hw hP hS => ?_)
    obtain ⟨c3, rfl, kt3, ho3⟩ := hw
    rw [List.take_length] at kt3
    have hsv3 : ∃ cc u, k_sv cI cC B ad c3 ca cc u := by
      obtain ⟨cc, u, a1, a2, a3⟩ := hsv
      exact ⟨cc, u, (ho3 1 (by decide) (by decide) (by decide)).trans a1, (ho3 8 (by decide) (by decide) (by decide)).trans a2, a3⟩
    have hbl3 : ∀ d, d < 3 → k_blank cI ad c3 d := fun d hd => k_blank_same (hbl d hd) (fun z hz => ho3 _ (by omega) (by omega) (by omega))
    have hox3 : ∀ i, i = 0 ∨ i = 5 ∨ i = 6 ∨ i = 7 → c3 i = cw i := fun i hi => ho3 i (by omega) (by omega) (by omega)
    refine lv_iconst (v := 0) hx hb d_Kp_hold_38 (by decide) ?_
    exact mw_zret J hr hlk rfl hP hS d_Kp_hold_39 (⟨c3, rfl, hsv3, hbl3, hox3, Or.inr ⟨rfl, kt3, hmany⟩⟩)
  · have had : ∃ c1, M1 = mw_ov B ad c1 21 ∧ k_tr cI ad c1 pm (L ++ [k]) ∧ (∀ i, i ≠ 2 → i ≠ 3 → i ≠ 4 → c1 i = cw i) := by
      rcases hw with ⟨_, _, c1, h1, h2, h3⟩ | ⟨_, h, _⟩
      · exact ⟨c1, h1, h2, h3⟩
      · exact absurd h c_16
    obtain ⟨c1, rfl, kt1, ho1⟩ := had
    have hsv1 : ∃ cc u, k_sv cI cC B ad c1 ca cc u := by
      obtain ⟨cc, u, a1, a2, a3⟩ := hsv
      exact ⟨cc, u, (ho1 1 (by decide) (by decide) (by decide)).trans a1, (ho1 8 (by decide) (by decide) (by decide)).trans a2, a3⟩
    have hbl1 : ∀ d, d < 3 → k_blank cI ad c1 d := fun d hd => k_blank_same (hbl d hd) (fun z hz => ho1 _ (by omega) (by omega) (by omega))
    have hox1 : ∀ i, i = 0 ∨ i = 5 ∨ i = 6 ∨ i = 7 → c1 i = cw i := fun i hi => ho1 i (by omega) (by omega) (by omega)
    have hmd1 : k_made cI cP cR B c1 rs := by
      obtain ⟨a1, fm, a2, a3⟩ := hmd
      exact ⟨a1, fm, (hox1 6 (by decide)).trans a2, a3⟩
    have hpre : ∀ i, i < rs.length → ∀ v, rk_case (rk_rth rs i) (· ∈ (L ++ [k]).take L.length) v → rk_inst (rk_rth rs i).2 v ∈ L ++ [k] := fun i hi v hv => by
      rw [rk_take_app (Nat.le_refl _), List.take_length] at hv
      exact List.mem_append_left _ (hclo i hi v hv)
    obtain ⟨f1, w1, h12, -⟩ := id kt1
    refine lv_aload_n hx hb d_Kp_hold_19 rfl (lv_at hl 1 rfl) ?_
    refine lv_iload_n hx hb d_Kp_hold_20 rfl (lv_at hl 0 rfl) ?_
    refine lv_iload_n hx hb d_Kp_hold_21 rfl (lv_at hl 0 rfl) ?_
    refine mw_afterI hP hS hA (mw_runV (As := [.int (nI L.length), .int (nI L.length)]) (rest := []) J hK hZ hP hS hA (mw_ov_is (i := 0) ho.1 (by decide) ((hox1 0 (by decide)).trans hc0)) rfl (c_Kp_follow l D cI cZ cP cR cC tS _ B ad c1 pm (L ++ [k]) ho hpm kt1 ca hsv1 hbl1 sm dn rs ((hox1 0 (by decide)).trans hc0) hmd1 L.length L.length (by rw [List.length_append]; omega) (by rw [List.length_append]; omega) hpre (fun i hi => hpre i (by omega))) (cwV 2 hts (mw_gV k_224 k_226 s_Kp_follow k_1 k_227) rfl rfl rfl (by decide +kernel) ⟨Nat.le_of_ble_eq_true rfl, Nat.le_of_ble_eq_true rfl⟩) rfl hl.1 rfl (Nat.le_of_ble_eq_true rfl) d_Kp_hold_22 ⟨Nat.le_of_ble_eq_true rfl, Nat.le_of_ble_eq_true rfl⟩) (fun r2 M1 H locs hw hP hS => ?_)
    obtain ⟨c2, N1, rfl, kt2, hsv2, hbl2, hox20, hg2, hcase⟩ := hw
    have hox2 : ∀ i, i = 0 ∨ i = 5 ∨ i = 6 ∨ i = 7 → c2 i = cw i := fun i hi => by rw [hox20 i hi]; exact hox1 i hi
    obtain ⟨f2, w2, h22, -, -, -, -, -, hnd2, -⟩ := id kt2
    refine lv_if_eq (tgt := 30) hx hb d_Kp_hold_25 (by decide) (fun c_25 => ?_) (fun c_25 => ?_)
    · have hno := hcase.resolve_left (fun g => by rw [g.1] at c_25; exact absurd c_25 (by decide))
      have hmany : rk_many (L ++ [k]) rs := by
        obtain ⟨_, h3, z, hz, hg⟩ := hno
        exact rk_many_of hnd2 h3 (fun y hy => (List.mem_append.mp hy).elim rk_gen_in (hg2 y)) hz hg
      refine lv_aload_n hx hb d_Kp_hold_30 rfl (lv_at hl 1 rfl) ?_
      refine mw_get (v := .ref (ad 2)) (ci := 6) (C := R_Kp) (T := T_Kp) (N := 7) J i_Kp hK hP (mw_ov_is (i := 0) ho.1 (by decide) ((hox2 0 (by decide)).trans hc0)) rfl 1 (by decide) (hts _ k_169) (fun _ h9 => h9) rfl d_Kp_hold_31 ?_
      refine lv_iload_n hx hb d_Kp_hold_34 rfl (lv_at hl 0 rfl) ?_
      refine mw_afterV hP hS hA (mw_runV (As := [.int (nI L.length)]) (rest := []) J hK hZ hP hS hA (mw_ov_is (i := 2) ho.1 (by decide) h22) rfl (c_Tr_cutTo l D cI cZ cP cR cC tS _ B ad c2 pm ((L ++ [k]) ++ N1) ho hpm kt2 L.length (by rw [List.length_append, List.length_append]; omega)) (cwV 1 hts (mw_gV k_283 k_284 k_285 k_3 k_286) rfl rfl rfl (by decide +kernel) ⟨Nat.le_of_ble_eq_true rfl, Nat.le_of_ble_eq_true rfl⟩) rfl hl.1 rfl (Nat.le_of_ble_eq_true rfl) d_Kp_hold_35 ⟨Nat.le_of_ble_eq_true rfl, Nat.le_of_ble_eq_true rfl⟩) (fun M1 H locs hw hP hS => ?_)
      obtain ⟨c3, rfl, kt3, ho3⟩ := hw
      rw [List.append_assoc, rk_take_app (Nat.le_refl _), List.take_length] at kt3
      have hsv3 : ∃ cc u, k_sv cI cC B ad c3 ca cc u := by
        obtain ⟨cc, u, a1, a2, a3⟩ := hsv2
        exact ⟨cc, u, (ho3 1 (by decide) (by decide) (by decide)).trans a1, (ho3 8 (by decide) (by decide) (by decide)).trans a2, a3⟩
      have hbl3 : ∀ d, d < 3 → k_blank cI ad c3 d := fun d hd => k_blank_same (hbl2 d hd) (fun z hz => ho3 _ (by omega) (by omega) (by omega))
      have hox3 : ∀ i, i = 0 ∨ i = 5 ∨ i = 6 ∨ i = 7 → c3 i = cw i := fun i hi => by rw [ho3 i (by omega) (by omega) (by omega)]; exact hox2 i hi
      refine lv_iconst (v := 0) hx hb d_Kp_hold_38 (by decide) ?_
      exact mw_zret J hr hlk rfl hP hS d_Kp_hold_39 (⟨c3, rfl, hsv3, hbl3, hox3, Or.inr ⟨rfl, kt3, hmany⟩⟩)
    · have hyes := hcase.resolve_right (fun g => c_25 g.1)
      refine lv_iconst (v := 1) hx hb d_Kp_hold_28 (by decide) ?_
      exact mw_zret J hr hlk rfl hP hS d_Kp_hold_29 (⟨c2, rfl, hsv2, hbl2, hox2, Or.inl ⟨rfl, N1, kt2, hg2, hyes.2⟩⟩)
end
section
/-! what the calls answer, in terms of what is said, the rules and the patterns in the making -/
theorem rk_clo_closed {rs : List rk_Ru} {L : List Nat} : rk_clo rs L ↔ rk_closed rs (· ∈ L) := by
  constructor
  · intro h r hr v hc
    obtain ⟨i, hi, rfl⟩ := rk_mem_rth hr
    exact h i hi v hc
  · intro h i hi v hc
    exact h _ (rk_rth_mem hi) v hc
theorem rk_holds_clo {said : Nat → Bool} {rs : List rk_Ru} {L : List Nat} (h : rk_holds said rs L) : rk_clo rs L := by
  rw [rk_clo_closed]
  intro r hr v hc
  exact (h.2.2 _).mpr (rk_lfp_closed r hr v (rk_case_mono hc (fun k hk => (h.2.2 k).mp hk)))
theorem rk_gen_lfp {said : Nat → Bool} {rs : List rk_Ru} {L0 : List Nat} {z : Nat} (h0 : ∀ k, k ∈ L0 → rk_lfp said rs k) (h : rk_gen L0 rs z) : rk_lfp said rs z := fun X h1 h2 => h X (fun k hk => h0 k hk X h1 h2) h2
theorem rk_holds_of {said : Nat → Bool} {rs : List rk_Ru} {L0 N1 : List Nat} (hn : (L0 ++ N1).Nodup) (h3 : (L0 ++ N1).length ≤ 300) (h0 : ∀ k, k ∈ L0 → rk_lfp said rs k) (hs : ∀ j, said j = true → j ∈ L0 ++ N1) (hg : ∀ z, z ∈ N1 → rk_gen L0 rs z) (hc : rk_clo rs (L0 ++ N1)) : rk_holds said rs (L0 ++ N1) :=
  ⟨hn, h3, fun k => ⟨fun hk => (List.mem_append.mp hk).elim (h0 k) (fun h => rk_gen_lfp h0 (hg k h)), fun h => h (· ∈ L0 ++ N1) hs (rk_clo_closed.mp hc)⟩⟩
theorem rk_much_of {said : Nat → Bool} {rs : List rk_Ru} {L0 : List Nat} (h0 : ∀ k, k ∈ L0 → rk_lfp said rs k) (hm : rk_many L0 rs) : rk_much said rs := by
  obtain ⟨K, h1, h2, h3⟩ := hm
  exact ⟨K, h1, h2, fun k hk => rk_gen_lfp h0 (h3 k hk)⟩
theorem rk_up_le {said : Nat → Bool} {k : Nat} : ∀ j, said j = true → va_up said k true j = true := by
  intro j hj
  by_cases e : j = k
  · rw [e, va_up_self]
  · rw [va_up_ne _ _ e]
    exact hj
theorem rk_dn_le {said : Nat → Bool} {k : Nat} : ∀ j, va_up said k false j = true → said j = true := by
  intro j hj
  by_cases e : j = k
  · rw [e, va_up_self] at hj
    cases hj
  · rw [va_up_ne _ _ e] at hj
    exact hj
theorem rk_up_lt {said : Nat → Bool} {k : Nat} (hs : ∀ j, said j = true → j < 32768) (hk : k < 32768) : ∀ j, va_up said k true j = true → j < 32768 := by
  intro j hj
  by_cases e : j = k
  · rw [e]
    exact hk
  · rw [va_up_ne _ _ e] at hj
    exact hs j hj
theorem rk_holds_more {said : Nat → Bool} {rs : List rk_Ru} {L : List Nat} {k : Nat} (h : rk_holds said rs L) (hk : k ∈ L) : rk_holds (va_up said k true) rs L := by
  refine ⟨h.1, h.2.1, fun z => ⟨fun hz => rk_lfp_mono rk_up_le (fun _ h => h) ((h.2.2 z).mp hz), fun hz => hz (· ∈ L) (fun j hj => ?_) (rk_clo_closed.mp (rk_holds_clo h))⟩⟩
  by_cases e : j = k
  · rw [e]
    exact hk
  · rw [va_up_ne _ _ e] at hj
    exact (h.2.2 j).mpr (rk_lfp_said hj)
/-- fewer said, fewer rules: what stays of the row, and what follows from it -/
theorem rk_less_no {said said' : Nat → Bool} {rs rs' : List rk_Ru} {L : List Nat} (h : rk_holds said rs L) (hs : ∀ j, said' j = true → said j = true) (hr : ∀ r, r ∈ rs' → r ∈ rs) : ∀ K : List Nat, K.Nodup → (∀ z, z ∈ K → rk_gen (L.filter said') rs' z) → K.length ≤ 300 := by
  intro K hK hg
  refine Nat.le_trans (rk_nodup_le hK (fun z hz => ?_)) h.2.1
  refine (h.2.2 z).mpr (rk_lfp_mono hs hr (rk_gen_lfp (fun k hk => ?_) (hg z hz)))
  exact rk_lfp_said (List.mem_filter.mp hk).2
theorem rk_less {said said' : Nat → Bool} {rs rs' : List rk_Ru} {L N1 : List Nat} (h : rk_holds said rs L) (hs : ∀ j, said' j = true → said j = true) (hn : (L.filter said' ++ N1).Nodup) (h3 : (L.filter said' ++ N1).length ≤ 300) (hg : ∀ z, z ∈ N1 → rk_gen (L.filter said') rs' z) (hc : rk_clo rs' (L.filter said' ++ N1)) : rk_holds said' rs' (L.filter said' ++ N1) :=
  rk_holds_of hn h3 (fun k hk => rk_lfp_said (List.mem_filter.mp hk).2) (fun j hj => List.mem_append_left _ (List.mem_filter.mpr ⟨(h.2.2 j).mpr (rk_lfp_said (hs j hj)), hj⟩)) hg hc
/-! the calls -/
def sp_say (said : Nat → Bool) (rs : List rk_Ru) (a b c : Int32) (r : Int32) (said' : Nat → Bool) : Prop :=
  ((¬ ∃ k, rk_tri a b c k) ∧ r = -1 ∧ said' = said) ∨ ∃ k, rk_tri a b c k ∧ ((said k = true ∧ r = 0 ∧ said' = said) ∨ (said k = false ∧ r = 1 ∧ said' = va_up said k true ∧ ¬ rk_much (va_up said k true) rs) ∨ (said k = false ∧ r = -3 ∧ said' = said ∧ rk_much (va_up said k true) rs))
def sp_unsay (said : Nat → Bool) (a b c : Int32) (r : Int32) (said' : Nat → Bool) : Prop :=
  ((¬ ∃ k, rk_tri a b c k) ∧ r = -1 ∧ said' = said) ∨ ∃ k, rk_tri a b c k ∧ ((said k = false ∧ r = 0 ∧ said' = said) ∨ (said k = true ∧ r = 1 ∧ said' = va_up said k false))
/-- the keeper's whole state stands in the world M, over the frozen B0 -/
def k_ks (cI cP cR cC : ClassId) (B0 : mw_M) (ad : Nat → Nat) (pm sm ca : Nat) (said : Nat → Bool) (rs : List rk_Ru) (dr : List rk_Pt) (M : mw_M) : Prop :=
  ∃ B cw L, M = mw_ov B ad cw 21 ∧ (∀ q e, B0 q = some e → B q = some e) ∧ k_ov B ad ∧ k_fz B ad pm sm ∧ k_kp cI cP cR cC B ad cw pm sm ca said rs dr L ∧ rk_holds said rs L ∧ ∀ j, said j = true → j < 32768
end
section
/-! RuleKeeper: holdAnew, say, unsay, rules, holds, size -/
set_option maxHeartbeats 4000000 in
set_option maxRecDepth 100000 in
theorem c_Kp_holdAnew (l : Launch) (D : va_G) (cI cZ cP cR cC : ClassId) (tS : Nat) (sz : Nat) (B : mw_M) (ad : Nat → Nat) (cw : Nat → va_E) (pm : Nat) (L : List Nat) (ho : k_ov B ad) (hpm : B pm = some (.inr (0, [.ref (ad 4)]))) (ht : k_tr cI ad cw pm L) (ca : Nat) (hsv : ∃ cc u, k_sv cI cC B ad cw ca cc u) (hbl : ∀ d, d < 3 → k_blank cI ad cw d) (sm dn : Nat) (rs : List rk_Ru) (hc0 : cw 0 = k_k0 ad sm rs.length dn) (hmd : k_made cI cP cR B cw rs) (ws : Nat → Int32) (S : Nat → Bool) (hsm : B sm = some (.inr (0, [.ref (ad 5)]))) (hc5 : cw 5 = .inl (cI, 1024, .inl ws)) (hWs : rk_W ws S) (hno : ∀ K : List Nat, K.Nodup → (∀ z, z ∈ K → rk_gen (L.filter S) rs z) → K.length ≤ 300) :
    Met l y_Kp_holdAnew (.code y_Kp_holdAnew b_Kp_holdAnew 1 none :: gw) ({ frames := 9, cells := 0, slots := 0, locals := 211 }) (va_Pc [.ref (ad 0)] (mw_B D k_cl (k_tys cI cZ cP cR cC) (k_g tS) (mw_ov B ad cw 21) sz)) (va_Qv (fun (M1 : mw_M) => ∃ cw1 N1, M1 = mw_ov B ad cw1 21 ∧ k_tr cI ad cw1 pm (L.filter S ++ N1) ∧ (∃ cc u, k_sv cI cC B ad cw1 ca cc u) ∧ (∀ d, d < 3 → k_blank cI ad cw1 d) ∧ (∀ i, i = 0 ∨ i = 5 ∨ i = 6 ∨ i = 7 → cw1 i = cw i) ∧ (∀ z, z ∈ N1 → rk_gen (L.filter S) rs z) ∧ rk_clo rs (L.filter S ++ N1)) (mw_E D k_cl (mw_ov B ad cw 21) sz) (mw_A (mw_ov B ad cw 21) sz)) 0 0 (mw_A (mw_ov B ad cw 21) sz) := by
  refine mw_met (by decide) rfl (Nat.le_of_ble_eq_true rfl) ?_
  intro p e s m below meth c hsz J hr hlk hnm hK hZ hP hS hA ls hl
  subst hsz
  have hx := J.1
  have hb := J.2.1
  have hts := J.2.2.2.2
  have hl : lv_has ls 1 [(0, .ref (ad 0))] := hl
  have ht0 := ht
  obtain ⟨fc, w, hc2, hc3, hc4, hfc, hW, hL3, hnd, hlt⟩ := ht
  refine lv_aload_n hx hb d_Kp_holdAnew_0 rfl (lv_at hl 0 rfl) ?_
  refine mw_get (v := .ref (ad 2)) (ci := 6) (C := R_Kp) (T := T_Kp) (N := 7) J i_Kp hK hP (mw_ov_is (i := 0) ho.1 (by decide) hc0) rfl 1 (by decide) (hts _ k_169) (fun _ h9 => h9) rfl d_Kp_holdAnew_1 ?_
  refine lv_aload_n hx hb d_Kp_holdAnew_4 rfl (lv_at hl 0 rfl) ?_
  refine mw_get (v := .ref sm) (ci := 6) (C := R_Kp) (T := T_Kp) (N := 7) J i_Kp hK hP (mw_ov_is (i := 0) ho.1 (by decide) hc0) rfl 2 (by decide) (hts _ k_170) (fun _ h9 => h9) rfl d_Kp_holdAnew_5 ?_
  refine mw_afterV hP hS hA (mw_runV (As := [.ref sm]) (rest := []) J hK hZ hP hS hA (mw_ov_is (i := 2) ho.1 (by decide) hc2) rfl (c_Tr_keepThose l D cI cZ cP cR cC tS _ B ad cw pm L ho hpm ht0 sm ws S hsm hc5 hWs) (cwV 1 hts (mw_gV k_305 k_306 k_307 k_3 k_308) rfl rfl rfl (by decide +kernel) ⟨Nat.le_of_ble_eq_true rfl, Nat.le_of_ble_eq_true rfl⟩) rfl hl.1 rfl (Nat.le_of_ble_eq_true rfl) d_Kp_holdAnew_8 ⟨Nat.le_of_ble_eq_true rfl, Nat.le_of_ble_eq_true rfl⟩) (fun M1 H locs hw hP hS => ?_)
  obtain ⟨c1, rfl, kt1, ho1⟩ := hw
  have hsv1 : ∃ cc u, k_sv cI cC B ad c1 ca cc u := by
    obtain ⟨cc, u, a1, a2, a3⟩ := hsv
    exact ⟨cc, u, (ho1 1 (by decide) (by decide) (by decide)).trans a1, (ho1 8 (by decide) (by decide) (by decide)).trans a2, a3⟩
  have hbl1 : ∀ d, d < 3 → k_blank cI ad c1 d := fun d hd => k_blank_same (hbl d hd) (fun z hz => ho1 _ (by omega) (by omega) (by omega))
  have hox1 : ∀ i, i = 0 ∨ i = 5 ∨ i = 6 ∨ i = 7 → c1 i = cw i := fun i hi => ho1 i (by omega) (by omega) (by omega)
  have hmd1 : k_made cI cP cR B c1 rs := by
    obtain ⟨a1, fm, a2, a3⟩ := hmd
    exact ⟨a1, fm, (hox1 6 (by decide)).trans a2, a3⟩
  have hpre : ∀ i, i < rs.length → ∀ v, rk_case (rk_rth rs i) (· ∈ (L.filter S).take 0) v → rk_okR (rk_rth rs i) → rk_inst (rk_rth rs i).2 v ∈ L.filter S := fun i hi v hv hok => by
    obtain ⟨P, hP⟩ := List.exists_mem_of_length_pos hok.1
    exact absurd (hv.2 P hP) (by simp)
  obtain ⟨-, fm, -, hfm⟩ := id hmd
  have hpre2 : ∀ i, i < rs.length → ∀ v, rk_case (rk_rth rs i) (· ∈ (L.filter S).take 0) v → rk_inst (rk_rth rs i).2 v ∈ L.filter S := fun i hi v hv => by
    obtain ⟨_, _, _, hok⟩ := hfm i hi
    exact hpre i hi v hv hok
  refine lv_aload_n hx hb d_Kp_holdAnew_11 rfl (lv_at hl 0 rfl) ?_
  refine lv_iconst (v := 0) hx hb d_Kp_holdAnew_12 (by decide) ?_
  refine mw_top (x' := nI 0) nI_0.symm ?_
  refine lv_iconst (v := 0) hx hb d_Kp_holdAnew_13 (by decide) ?_
  refine mw_top (x' := nI 0) nI_0.symm ?_
  refine mw_afterI hP hS hA (mw_runV (As := [.int (nI 0), .int (nI 0)]) (rest := []) J hK hZ hP hS hA (mw_ov_is (i := 0) ho.1 (by decide) ((hox1 0 (by decide)).trans hc0)) rfl (c_Kp_follow l D cI cZ cP cR cC tS _ B ad c1 pm (L.filter S) ho hpm kt1 ca hsv1 hbl1 sm dn rs ((hox1 0 (by decide)).trans hc0) hmd1 0 0 (Nat.zero_le _) (Nat.zero_le _) hpre2 (fun i hi => hpre2 i (by omega))) (cwV 2 hts (mw_gV k_224 k_226 s_Kp_follow k_1 k_227) rfl rfl rfl (by decide +kernel) ⟨Nat.le_of_ble_eq_true rfl, Nat.le_of_ble_eq_true rfl⟩) rfl hl.1 rfl (Nat.le_of_ble_eq_true rfl) d_Kp_holdAnew_14 ⟨Nat.le_of_ble_eq_true rfl, Nat.le_of_ble_eq_true rfl⟩) (fun r2 M1 H locs hw hP hS => ?_)
  obtain ⟨c2, N1, rfl, kt2, hsv2, hbl2, hox20, hg2, hcase⟩ := hw
  have hox2 : ∀ i, i = 0 ∨ i = 5 ∨ i = 6 ∨ i = 7 → c2 i = cw i := fun i hi => by rw [hox20 i hi]; exact hox1 i hi
  obtain ⟨f2, w2, h22, -, -, -, -, -, hnd2, -⟩ := id kt2
  have hcl2 : rk_clo rs (L.filter S ++ N1) := by
    rcases hcase with ⟨_, h⟩ | ⟨_, h3, z, hz, hg⟩
    · exact h
    · obtain ⟨K, k1, k2, k3⟩ := rk_many_of hnd2 h3 (fun y hy => (List.mem_append.mp hy).elim rk_gen_in (hg2 y)) hz hg
      have := hno K k1 k3
      omega
  refine lv_pop hx hb d_Kp_holdAnew_17 rfl ?_
  exact mw_vret J hr hlk hP hS d_Kp_holdAnew_18 (⟨c2, N1, rfl, kt2, hsv2, hbl2, hox2, hg2, hcl2⟩)

theorem k_sv_5 {cI cC : ClassId} {B : mw_M} {ad : Nat → Nat} {cw : Nat → va_E} {ca : Nat} {e : va_E} (h : ∃ cc u, k_sv cI cC B ad cw ca cc u) : ∃ cc u, k_sv cI cC B ad (va_up cw 5 e) ca cc u := by
  obtain ⟨cc, u, a1, a2, a3⟩ := h
  exact ⟨cc, u, a1, a2, a3⟩
theorem k_blank_5 {cI : ClassId} {ad : Nat → Nat} {cw : Nat → va_E} {e : va_E} (h : ∀ d, d < 3 → k_blank cI ad cw d) : ∀ d, d < 3 → k_blank cI ad (va_up cw 5 e) d := fun d hd => k_blank_same (h d hd) (fun z hz => va_up_ne _ _ (by omega))
theorem k_tr_5 {cI : ClassId} {ad : Nat → Nat} {cw : Nat → va_E} {pm : Nat} {L : List Nat} {e : va_E} (h : k_tr cI ad cw pm L) : k_tr cI ad (va_up cw 5 e) pm L := by
  obtain ⟨fc, w, a2, a3, a4, a5⟩ := h
  exact ⟨fc, w, a2, a3, a4, a5⟩
set_option maxHeartbeats 4000000 in
set_option maxRecDepth 100000 in
theorem c_Kp_say (l : Launch) (D : va_G) (cI cZ cP cR cC : ClassId) (tS : Nat) (sz : Nat) (B : mw_M) (ad : Nat → Nat) (cw : Nat → va_E) (pm sm ca : Nat) (said : Nat → Bool) (rs : List rk_Ru) (dr : List rk_Pt) (L : List Nat) (ho : k_ov B ad) (hfz : k_fz B ad pm sm) (hkp : k_kp cI cP cR cC B ad cw pm sm ca said rs dr L) (hh : rk_holds said rs L) (hsd : ∀ j, said j = true → j < 32768) (x y z : Int32) :
    Met l y_Kp_say (.code y_Kp_say b_Kp_say 5 (some .int) :: gw) ({ frames := 10, cells := 0, slots := 0, locals := 233 }) (va_Pc [.ref (ad 0), .int x, .int y, .int z] (mw_B D k_cl (k_tys cI cZ cP cR cC) (k_g tS) (mw_ov B ad cw 21) sz)) (va_Qi (fun (r : Int32) (M1 : mw_M) => ∃ said1, sp_say said rs x y z r said1 ∧ k_ks cI cP cR cC B ad pm sm ca said1 rs dr M1) (mw_E D k_cl (mw_ov B ad cw 21) sz) (mw_A (mw_ov B ad cw 21) sz)) 0 0 (mw_A (mw_ov B ad cw 21) sz) := by
  refine mw_met (by decide) rfl (Nat.le_of_ble_eq_true rfl) ?_
  intro p e s m below meth c hsz J hr hlk hnm hK hZ hP hS hA ls hl
  subst hsz
  have hx := J.1
  have hb := J.2.1
  have hts := J.2.2.2.2
  have hl : lv_has ls 5 [(0, .ref (ad 0)), (1, .int x), (2, .int y), (3, .int z)] := hl
  obtain ⟨hc0, ht, hsv, hbl, ⟨ws, hc5, hWs⟩, hmd, hdr⟩ := id hkp
  obtain ⟨hpm, hsm⟩ := id hfz
  have hclo := rk_holds_clo hh
  obtain ⟨fc, w, hc2, hc3, hc4, hfc, hW, hL3, hnd, hlt⟩ := id ht
  obtain ⟨hrs12, fm, hc6, hfm⟩ := id hmd
  obtain ⟨hdr4, fd, hc7, hfd⟩ := id hdr
  refine lv_iload_n hx hb d_Kp_say_0 rfl (lv_at hl 1 rfl) ?_
  refine lv_iload_n hx hb d_Kp_say_1 rfl (lv_at hl 2 rfl) ?_
  refine lv_iload_n hx hb d_Kp_say_2 rfl (lv_at hl 3 rfl) ?_
  refine mw_afterI hP hS hA (mw_runS (As := [.int x, .int y, .int z]) (rest := []) J hK hZ hP hS hA (c_Kp_isTriple l D cI cZ cP cR cC tS _ (mw_ov B ad cw 21) x y z) (cwS 3 hts (mw_gS k_194 k_195 k_1 k_196) rfl rfl rfl (by decide +kernel) ⟨Nat.le_of_ble_eq_true rfl, Nat.le_of_ble_eq_true rfl⟩) rfl hl.1 rfl (Nat.le_of_ble_eq_true rfl) d_Kp_say_3 ⟨Nat.le_of_ble_eq_true rfl, Nat.le_of_ble_eq_true rfl⟩) (fun r0 M1 H locs hw hP hS => ?_)
  obtain ⟨rfl, hw⟩ := hw
  refine lv_if_ne (tgt := 11) hx hb d_Kp_say_6 (by decide) (fun c_6 => ?_) (fun c_6 => ?_)
  · obtain ⟨k, htri⟩ := (hw.resolve_right (fun g => c_6 g.1)).2
    have hk := rk_tri_lt htri
    refine lv_iload_n hx hb d_Kp_say_11 rfl (lv_at hl 1 rfl) ?_
    refine lv_iload_n hx hb d_Kp_say_12 rfl (lv_at hl 2 rfl) ?_
    refine lv_iload_n hx hb d_Kp_say_13 rfl (lv_at hl 3 rfl) ?_
    refine mw_afterI hP hS hA (mw_runS (As := [.int x, .int y, .int z]) (rest := []) J hK hZ hP hS hA (c_Kp_codeOf l D cI cZ cP cR cC tS _ (mw_ov B ad cw 21) x y z k htri) (cwS 3 hts (mw_gS k_200 k_201 k_1 k_202) rfl rfl rfl (by decide +kernel) ⟨Nat.le_of_ble_eq_true rfl, Nat.le_of_ble_eq_true rfl⟩) rfl hl.1 rfl (Nat.le_of_ble_eq_true rfl) d_Kp_say_14 ⟨Nat.le_of_ble_eq_true rfl, Nat.le_of_ble_eq_true rfl⟩) (fun r M1 H locs hw hP hS => ?_)
    obtain ⟨rfl, rfl⟩ := hw
    refine lv_istore (lv' := [(4, .int (nI k)), (0, .ref (ad 0)), (1, .int x), (2, .int y), (3, .int z)]) hx hb d_Kp_say_17 hl (by decide) rfl (fun ls hl => ?_)
    refine lv_aload_n hx hb d_Kp_say_19 rfl (lv_at hl 1 rfl) ?_
    refine mw_get (v := .ref sm) (ci := 6) (C := R_Kp) (T := T_Kp) (N := 7) J i_Kp hK hP (mw_ov_is (i := 0) ho.1 (by decide) hc0) rfl 2 (by decide) (hts _ k_170) (fun _ h9 => h9) rfl d_Kp_say_20 ?_
    refine lv_iload hx hb d_Kp_say_23 (lv_at hl 0 rfl) ?_
    refine mw_afterI hP hS hA (mw_runV (As := [.int (nI k)]) (rest := []) J hK hZ hP hS hA (mw_ov_fr ho.2 hsm) rfl (c_Mk_has l D cI cZ cP cR cC tS _ (mw_ov B ad cw 21) sm (ad 5) ws said k hk hWs (mw_ov_fr ho.2 hsm) (mw_ov_is (i := 5) ho.1 (by decide) hc5)) (cwV 1 hts (mw_gV k_203 k_204 k_205 k_4 k_206) rfl rfl rfl (by decide +kernel) ⟨Nat.le_of_ble_eq_true rfl, Nat.le_of_ble_eq_true rfl⟩) rfl hl.1 rfl (Nat.le_of_ble_eq_true rfl) d_Kp_say_25 ⟨Nat.le_of_ble_eq_true rfl, Nat.le_of_ble_eq_true rfl⟩) (fun r M1 H locs hw hP hS => ?_)
    obtain ⟨rfl, rfl⟩ := hw
    refine lv_if_eq (tgt := 33) hx hb d_Kp_say_28 (by decide) (fun c_28 => ?_) (fun c_28 => ?_)
    · have hs : said k = false := by
        cases z : said k
        · rfl
        · rw [if_pos z] at c_28
          exact absurd c_28 (by decide)
      refine lv_aload_n hx hb d_Kp_say_33 rfl (lv_at hl 1 rfl) ?_
      refine mw_get (v := .ref (ad 2)) (ci := 6) (C := R_Kp) (T := T_Kp) (N := 7) J i_Kp hK hP (mw_ov_is (i := 0) ho.1 (by decide) hc0) rfl 1 (by decide) (hts _ k_169) (fun _ h9 => h9) rfl d_Kp_say_34 ?_
      refine lv_iload hx hb d_Kp_say_37 (lv_at hl 0 rfl) ?_
      refine mw_afterI hP hS hA (mw_runV (As := [.int (nI k)]) (rest := []) J hK hZ hP hS hA (mw_ov_is (i := 2) ho.1 (by decide) hc2) rfl (c_Tr_has l D cI cZ cP cR cC tS _ B ad cw pm L ho hpm ht k hk) (cwV 1 hts (mw_gV k_207 k_208 k_209 k_3 k_210) rfl rfl rfl (by decide +kernel) ⟨Nat.le_of_ble_eq_true rfl, Nat.le_of_ble_eq_true rfl⟩) rfl hl.1 rfl (Nat.le_of_ble_eq_true rfl) d_Kp_say_39 ⟨Nat.le_of_ble_eq_true rfl, Nat.le_of_ble_eq_true rfl⟩) (fun r M1 H locs hw hP hS => ?_)
      obtain ⟨rfl, rfl⟩ := hw
      refine lv_if_ne (tgt := 57) hx hb d_Kp_say_42 (by decide) (fun c_42 => ?_) (fun c_42 => ?_)
      · have hkL : k ∈ L := Classical.byContradiction fun z => c_42 (if_neg z)
        refine lv_aload_n hx hb d_Kp_say_57 rfl (lv_at hl 1 rfl) ?_
        refine mw_get (v := .ref sm) (ci := 6) (C := R_Kp) (T := T_Kp) (N := 7) J i_Kp hK hP (mw_ov_is (i := 0) ho.1 (by decide) hc0) rfl 2 (by decide) (hts _ k_170) (fun _ h9 => h9) rfl d_Kp_say_58 ?_
        refine lv_iload hx hb d_Kp_say_61 (lv_at hl 0 rfl) ?_
        refine mw_afterV hP hS hA (mw_runV (As := [.int (nI k)]) (rest := []) J hK hZ hP hS hA (mw_ov_fr ho.2 hsm) rfl (c_Mk_put l D cI cZ cP cR cC tS _ (mw_ov B ad cw 21) sm (ad 5) ws said k hk hWs (mw_ov_fr ho.2 hsm) (mw_ov_is (i := 5) ho.1 (by decide) hc5)) (cwV 1 hts (mw_gV k_295 k_221 k_222 k_4 k_223) rfl rfl rfl (by decide +kernel) ⟨Nat.le_of_ble_eq_true rfl, Nat.le_of_ble_eq_true rfl⟩) rfl hl.1 rfl (Nat.le_of_ble_eq_true rfl) d_Kp_say_63 ⟨Nat.le_of_ble_eq_true rfl, Nat.le_of_ble_eq_true rfl⟩) (fun M1 H locs hw hP hS => ?_)
        obtain ⟨w9, hW9, rfl⟩ := hw
        rw [mw_ov_set ho.1 (by decide)] at hP
        have hP : mw_P D k_cl (mw_ov B ad (va_up cw 5 (.inl (cI, 1024, .inl w9))) 21) _ H := hP
        refine lv_iconst (v := 1) hx hb d_Kp_say_66 (by decide) ?_
        exact mw_iret J hr hlk hP hS d_Kp_say_67 (⟨va_up said k true, Or.inr ⟨k, htri, Or.inr (Or.inl ⟨hs, rfl, rfl, rk_not_much (rk_holds_more hh hkL)⟩)⟩, B, _, L, rfl, fun _ _ h => h, ho, hfz, ⟨hc0, ⟨fc, w, hc2, hc3, hc4, hfc, hW, hL3, hnd, hlt⟩, k_sv_5 hsv, k_blank_5 hbl, ⟨w9, rfl, hW9⟩, ⟨hrs12, fm, hc6, hfm⟩, ⟨hdr4, fd, hc7, hfd⟩⟩, rk_holds_more hh hkL, rk_up_lt hsd hk⟩)
      · have hkL : k ∉ L := fun z => by
          rw [if_pos z] at c_42
          exact absurd c_42 (by decide)
        refine lv_aload_n hx hb d_Kp_say_45 rfl (lv_at hl 1 rfl) ?_
        refine lv_iload hx hb d_Kp_say_46 (lv_at hl 0 rfl) ?_
        refine mw_afterI hP hS hA (mw_runV (As := [.int (nI k)]) (rest := []) J hK hZ hP hS hA (mw_ov_is (i := 0) ho.1 (by decide) hc0) rfl (c_Kp_hold l D cI cZ cP cR cC tS _ B ad cw pm L ho hpm ht ca hsv hbl sm dr.length rs hc0 hmd hclo k hk hkL) (cwV 1 hts (mw_gV k_212 k_214 s_Kp_hold k_1 k_215) rfl rfl rfl (by decide +kernel) ⟨Nat.le_of_ble_eq_true rfl, Nat.le_of_ble_eq_true rfl⟩) rfl hl.1 rfl (Nat.le_of_ble_eq_true rfl) d_Kp_say_48 ⟨Nat.le_of_ble_eq_true rfl, Nat.le_of_ble_eq_true rfl⟩) (fun r5 M1 H locs hw hP hS => ?_)
        obtain ⟨c1, rfl, hsv1, hbl1, hox1, hcase⟩ := hw
        refine lv_if_ne (tgt := 57) hx hb d_Kp_say_51 (by decide) (fun c_51 => ?_) (fun c_51 => ?_)
        · have hyes := (hcase.resolve_right (fun g => c_51 g.1)).2
          obtain ⟨N1, kt1, hg1, hcl1⟩ := hyes
          obtain ⟨f1, w1, -, -, -, -, -, h13, h1n, -⟩ := id kt1
          have hl0 : ∀ z, z ∈ L ++ [k] → rk_lfp (va_up said k true) rs z := fun z hz => (List.mem_append.mp hz).elim (fun h => rk_lfp_mono rk_up_le (fun _ g => g) ((hh.2.2 z).mp h)) (fun h => rk_lfp_said (by rw [List.mem_singleton.mp h, va_up_self]))
          have hh1 : rk_holds (va_up said k true) rs ((L ++ [k]) ++ N1) := rk_holds_of h1n h13 hl0 (fun j hj => List.mem_append_left _ (by
            by_cases e : j = k
            · rw [e]
              simp
            · rw [va_up_ne _ _ e] at hj
              exact List.mem_append_left _ ((hh.2.2 j).mpr (rk_lfp_said hj)))) hg1 hcl1
          have hmd1 : k_made cI cP cR B c1 rs := ⟨hrs12, fm, (hox1 6 (by decide)).trans hc6, hfm⟩
          have hdr1 : k_dr cI cP B c1 dr := ⟨hdr4, fd, (hox1 7 (by decide)).trans hc7, hfd⟩
          refine lv_aload_n hx hb d_Kp_say_57 rfl (lv_at hl 1 rfl) ?_
          refine mw_get (v := .ref sm) (ci := 6) (C := R_Kp) (T := T_Kp) (N := 7) J i_Kp hK hP (mw_ov_is (i := 0) ho.1 (by decide) ((hox1 0 (by decide)).trans hc0)) rfl 2 (by decide) (hts _ k_170) (fun _ h9 => h9) rfl d_Kp_say_58 ?_
          refine lv_iload hx hb d_Kp_say_61 (lv_at hl 0 rfl) ?_
          refine mw_afterV hP hS hA (mw_runV (As := [.int (nI k)]) (rest := []) J hK hZ hP hS hA (mw_ov_fr ho.2 hsm) rfl (c_Mk_put l D cI cZ cP cR cC tS _ (mw_ov B ad c1 21) sm (ad 5) ws said k hk hWs (mw_ov_fr ho.2 hsm) (mw_ov_is (i := 5) ho.1 (by decide) ((hox1 5 (by decide)).trans hc5))) (cwV 1 hts (mw_gV k_295 k_221 k_222 k_4 k_223) rfl rfl rfl (by decide +kernel) ⟨Nat.le_of_ble_eq_true rfl, Nat.le_of_ble_eq_true rfl⟩) rfl hl.1 rfl (Nat.le_of_ble_eq_true rfl) d_Kp_say_63 ⟨Nat.le_of_ble_eq_true rfl, Nat.le_of_ble_eq_true rfl⟩) (fun M1 H locs hw hP hS => ?_)
          obtain ⟨w9, hW9, rfl⟩ := hw
          rw [mw_ov_set ho.1 (by decide)] at hP
          have hP : mw_P D k_cl (mw_ov B ad (va_up c1 5 (.inl (cI, 1024, .inl w9))) 21) _ H := hP
          refine lv_iconst (v := 1) hx hb d_Kp_say_66 (by decide) ?_
          exact mw_iret J hr hlk hP hS d_Kp_say_67 (⟨va_up said k true, Or.inr ⟨k, htri, Or.inr (Or.inl ⟨hs, rfl, rfl, rk_not_much hh1⟩)⟩, B, _, _, rfl, fun _ _ h => h, ho, hfz, ⟨(hox1 0 (by decide)).trans hc0, k_tr_5 kt1, k_sv_5 hsv1, k_blank_5 hbl1, ⟨w9, rfl, hW9⟩, ⟨hrs12, fm, (hox1 6 (by decide)).trans hc6, hfm⟩, ⟨hdr4, fd, (hox1 7 (by decide)).trans hc7, hfd⟩⟩, hh1, rk_up_lt hsd hk⟩)
        · obtain ⟨-, kt1, hmn⟩ := hcase.resolve_left (fun g => by rw [g.1] at c_51; exact absurd c_51 (by decide))
          have hmu : rk_much (va_up said k true) rs := rk_much_of (fun z hz => (List.mem_append.mp hz).elim (fun h => rk_lfp_mono rk_up_le (fun _ g => g) ((hh.2.2 z).mp h)) (fun h => rk_lfp_said (by rw [List.mem_singleton.mp h, va_up_self]))) hmn
          have hmd1 : k_made cI cP cR B c1 rs := ⟨hrs12, fm, (hox1 6 (by decide)).trans hc6, hfm⟩
          have hdr1 : k_dr cI cP B c1 dr := ⟨hdr4, fd, (hox1 7 (by decide)).trans hc7, hfd⟩
          refine lv_bipush (v := (-3)) hx hb d_Kp_say_54 (by decide) ?_
          exact mw_iret J hr hlk hP hS d_Kp_say_56 (⟨said, Or.inr ⟨k, htri, Or.inr (Or.inr ⟨hs, rfl, rfl, hmu⟩)⟩, B, c1, L, rfl, fun _ _ h => h, ho, hfz, ⟨(hox1 0 (by decide)).trans hc0, kt1, hsv1, hbl1, ⟨ws, (hox1 5 (by decide)).trans hc5, hWs⟩, hmd1, hdr1⟩, hh, hsd⟩)
    · have hs : said k = true := by
        cases z : said k
        · exact absurd (if_neg (by rw [z]; decide)) c_28
        · rfl
      refine lv_iconst (v := 0) hx hb d_Kp_say_31 (by decide) ?_
      exact mw_iret J hr hlk hP hS d_Kp_say_32 (⟨said, Or.inr ⟨k, htri, Or.inl ⟨hs, rfl, rfl⟩⟩, ⟨B, cw, L, rfl, fun _ _ h => h, ho, hfz, hkp, hh, hsd⟩⟩)
  · have hno := (hw.resolve_left (fun g => by rw [g.1] at c_6; exact absurd c_6 (by decide))).2
    refine lv_iconst (v := (-1)) hx hb d_Kp_say_9 (by decide) ?_
    exact mw_iret J hr hlk hP hS d_Kp_say_10 (⟨said, Or.inl ⟨hno, rfl, rfl⟩, ⟨B, cw, L, rfl, fun _ _ h => h, ho, hfz, hkp, hh, hsd⟩⟩)

set_option maxHeartbeats 4000000 in
set_option maxRecDepth 100000 in
theorem c_Kp_unsay (l : Launch) (D : va_G) (cI cZ cP cR cC : ClassId) (tS : Nat) (sz : Nat) (B : mw_M) (ad : Nat → Nat) (cw : Nat → va_E) (pm sm ca : Nat) (said : Nat → Bool) (rs : List rk_Ru) (dr : List rk_Pt) (L : List Nat) (ho : k_ov B ad) (hfz : k_fz B ad pm sm) (hkp : k_kp cI cP cR cC B ad cw pm sm ca said rs dr L) (hh : rk_holds said rs L) (hsd : ∀ j, said j = true → j < 32768) (x y z : Int32) :
    Met l y_Kp_unsay (.code y_Kp_unsay b_Kp_unsay 5 (some .int) :: gw) ({ frames := 10, cells := 0, slots := 0, locals := 233 }) (va_Pc [.ref (ad 0), .int x, .int y, .int z] (mw_B D k_cl (k_tys cI cZ cP cR cC) (k_g tS) (mw_ov B ad cw 21) sz)) (va_Qi (fun (r : Int32) (M1 : mw_M) => ∃ said1, sp_unsay said x y z r said1 ∧ k_ks cI cP cR cC B ad pm sm ca said1 rs dr M1) (mw_E D k_cl (mw_ov B ad cw 21) sz) (mw_A (mw_ov B ad cw 21) sz)) 0 0 (mw_A (mw_ov B ad cw 21) sz) := by
  refine mw_met (by decide) rfl (Nat.le_of_ble_eq_true rfl) ?_
  intro p e s m below meth c hsz J hr hlk hnm hK hZ hP hS hA ls hl
  subst hsz
  have hx := J.1
  have hb := J.2.1
  have hts := J.2.2.2.2
  have hl : lv_has ls 5 [(0, .ref (ad 0)), (1, .int x), (2, .int y), (3, .int z)] := hl
  obtain ⟨hc0, ht, hsv, hbl, ⟨ws, hc5, hWs⟩, hmd, hdr⟩ := id hkp
  obtain ⟨hpm, hsm⟩ := id hfz
  have hclo := rk_holds_clo hh
  obtain ⟨fc, w, hc2, hc3, hc4, hfc, hW, hL3, hnd, hlt⟩ := id ht
  obtain ⟨hrs12, fm, hc6, hfm⟩ := id hmd
  obtain ⟨hdr4, fd, hc7, hfd⟩ := id hdr
  refine lv_iload_n hx hb d_Kp_unsay_0 rfl (lv_at hl 1 rfl) ?_
  refine lv_iload_n hx hb d_Kp_unsay_1 rfl (lv_at hl 2 rfl) ?_
  refine lv_iload_n hx hb d_Kp_unsay_2 rfl (lv_at hl 3 rfl) ?_
  refine mw_afterI hP hS hA (mw_runS (As := [.int x, .int y, .int z]) (rest := []) J hK hZ hP hS hA (c_Kp_isTriple l D cI cZ cP cR cC tS _ (mw_ov B ad cw 21) x y z) (cwS 3 hts (mw_gS k_194 k_195 k_1 k_196) rfl rfl rfl (by decide +kernel) ⟨Nat.le_of_ble_eq_true rfl, Nat.le_of_ble_eq_true rfl⟩) rfl hl.1 rfl (Nat.le_of_ble_eq_true rfl) d_Kp_unsay_3 ⟨Nat.le_of_ble_eq_true rfl, Nat.le_of_ble_eq_true rfl⟩) (fun r0 M1 H locs hw hP hS => ?_)
  obtain ⟨rfl, hw⟩ := hw
  refine lv_if_ne (tgt := 11) hx hb d_Kp_unsay_6 (by decide) (fun c_6 => ?_) (fun c_6 => ?_)
  · obtain ⟨k, htri⟩ := (hw.resolve_right (fun g => c_6 g.1)).2
    have hk := rk_tri_lt htri
    refine lv_iload_n hx hb d_Kp_unsay_11 rfl (lv_at hl 1 rfl) ?_
    refine lv_iload_n hx hb d_Kp_unsay_12 rfl (lv_at hl 2 rfl) ?_
    refine lv_iload_n hx hb d_Kp_unsay_13 rfl (lv_at hl 3 rfl) ?_
    refine mw_afterI hP hS hA (mw_runS (As := [.int x, .int y, .int z]) (rest := []) J hK hZ hP hS hA (c_Kp_codeOf l D cI cZ cP cR cC tS _ (mw_ov B ad cw 21) x y z k htri) (cwS 3 hts (mw_gS k_200 k_201 k_1 k_202) rfl rfl rfl (by decide +kernel) ⟨Nat.le_of_ble_eq_true rfl, Nat.le_of_ble_eq_true rfl⟩) rfl hl.1 rfl (Nat.le_of_ble_eq_true rfl) d_Kp_unsay_14 ⟨Nat.le_of_ble_eq_true rfl, Nat.le_of_ble_eq_true rfl⟩) (fun r M1 H locs hw hP hS => ?_)
    obtain ⟨rfl, rfl⟩ := hw
    refine lv_istore (lv' := [(4, .int (nI k)), (0, .ref (ad 0)), (1, .int x), (2, .int y), (3, .int z)]) hx hb d_Kp_unsay_17 hl (by decide) rfl (fun ls hl => ?_)
    refine lv_aload_n hx hb d_Kp_unsay_19 rfl (lv_at hl 1 rfl) ?_
    refine mw_get (v := .ref sm) (ci := 6) (C := R_Kp) (T := T_Kp) (N := 7) J i_Kp hK hP (mw_ov_is (i := 0) ho.1 (by decide) hc0) rfl 2 (by decide) (hts _ k_170) (fun _ h9 => h9) rfl d_Kp_unsay_20 ?_
    refine lv_iload hx hb d_Kp_unsay_23 (lv_at hl 0 rfl) ?_
    refine mw_afterI hP hS hA (mw_runV (As := [.int (nI k)]) (rest := []) J hK hZ hP hS hA (mw_ov_fr ho.2 hsm) rfl (c_Mk_has l D cI cZ cP cR cC tS _ (mw_ov B ad cw 21) sm (ad 5) ws said k hk hWs (mw_ov_fr ho.2 hsm) (mw_ov_is (i := 5) ho.1 (by decide) hc5)) (cwV 1 hts (mw_gV k_203 k_204 k_205 k_4 k_206) rfl rfl rfl (by decide +kernel) ⟨Nat.le_of_ble_eq_true rfl, Nat.le_of_ble_eq_true rfl⟩) rfl hl.1 rfl (Nat.le_of_ble_eq_true rfl) d_Kp_unsay_25 ⟨Nat.le_of_ble_eq_true rfl, Nat.le_of_ble_eq_true rfl⟩) (fun r M1 H locs hw hP hS => ?_)
    obtain ⟨rfl, rfl⟩ := hw
    refine lv_if_ne (tgt := 33) hx hb d_Kp_unsay_28 (by decide) (fun c_28 => ?_) (fun c_28 => ?_)
    · have hs : said k = true := by
        cases z : said k
        · exact absurd (if_neg (by rw [z]; decide)) c_28
        · rfl
      refine lv_aload_n hx hb d_Kp_unsay_33 rfl (lv_at hl 1 rfl) ?_
      refine mw_get (v := .ref sm) (ci := 6) (C := R_Kp) (T := T_Kp) (N := 7) J i_Kp hK hP (mw_ov_is (i := 0) ho.1 (by decide) hc0) rfl 2 (by decide) (hts _ k_170) (fun _ h9 => h9) rfl d_Kp_unsay_34 ?_
      refine lv_iload hx hb d_Kp_unsay_37 (lv_at hl 0 rfl) ?_
      refine mw_afterV hP hS hA (mw_runV (As := [.int (nI k)]) (rest := []) J hK hZ hP hS hA (mw_ov_fr ho.2 hsm) rfl (c_Mk_drop l D cI cZ cP cR cC tS _ (mw_ov B ad cw 21) sm (ad 5) ws said k hk hWs (mw_ov_fr ho.2 hsm) (mw_ov_is (i := 5) ho.1 (by decide) hc5)) (cwV 1 hts (mw_gV k_300 k_289 k_290 k_4 k_291) rfl rfl rfl (by decide +kernel) ⟨Nat.le_of_ble_eq_true rfl, Nat.le_of_ble_eq_true rfl⟩) rfl hl.1 rfl (Nat.le_of_ble_eq_true rfl) d_Kp_unsay_39 ⟨Nat.le_of_ble_eq_true rfl, Nat.le_of_ble_eq_true rfl⟩) (fun M1 H locs hw hP hS => ?_)
      obtain ⟨w9, hW9, rfl⟩ := hw
      rw [mw_ov_set ho.1 (by decide)] at hP
      have hP : mw_P D k_cl (mw_ov B ad (va_up cw 5 (.inl (cI, 1024, .inl w9))) 21) _ H := hP
      refine lv_aload_n hx hb d_Kp_unsay_42 rfl (lv_at hl 1 rfl) ?_
      refine mw_afterV hP hS hA (mw_runV (As := []) (rest := []) J hK hZ hP hS hA (mw_ov_is (i := 0) ho.1 (by decide) hc0) rfl (c_Kp_holdAnew l D cI cZ cP cR cC tS _ B ad (va_up cw 5 (.inl (cI, 1024, .inl w9))) pm L ho hpm (k_tr_5 ht) ca (k_sv_5 hsv) (k_blank_5 hbl) sm dr.length rs hc0 ⟨hrs12, fm, hc6, hfm⟩ w9 (va_up said k false) hsm rfl hW9 (rk_less_no hh rk_dn_le (fun _ h => h))) (cwV 0 hts (mw_gV k_301 k_303 s_Kp_holdAnew k_1 k_304) rfl rfl rfl (by decide +kernel) ⟨Nat.le_of_ble_eq_true rfl, Nat.le_of_ble_eq_true rfl⟩) rfl hl.1 rfl (Nat.le_of_ble_eq_true rfl) d_Kp_unsay_43 ⟨Nat.le_of_ble_eq_true rfl, Nat.le_of_ble_eq_true rfl⟩) (fun M1 H locs hw hP hS => ?_)
      obtain ⟨c2, N1, rfl, kt2, hsv2, hbl2, hox2, hg2, hcl2⟩ := hw
      obtain ⟨f2, w2, -, -, -, -, -, h23, h2n, -⟩ := id kt2
      have hh2 := rk_less hh rk_dn_le h2n h23 hg2 hcl2
      refine lv_iconst (v := 1) hx hb d_Kp_unsay_46 (by decide) ?_
      exact mw_iret J hr hlk hP hS d_Kp_unsay_47 (⟨va_up said k false, Or.inr ⟨k, htri, Or.inr ⟨hs, rfl, rfl⟩⟩, B, c2, _, rfl, fun _ _ h => h, ho, hfz, ⟨(hox2 0 (by decide)).trans hc0, kt2, hsv2, hbl2, ⟨w9, (hox2 5 (by decide)).trans rfl, hW9⟩, ⟨hrs12, fm, (hox2 6 (by decide)).trans hc6, hfm⟩, ⟨hdr4, fd, (hox2 7 (by decide)).trans hc7, hfd⟩⟩, hh2, fun j hj => hsd j (rk_dn_le j hj)⟩)
    · have hs : said k = false := by
        cases z : said k
        · rfl
        · rw [if_pos z] at c_28
          exact absurd c_28 (by decide)
      refine lv_iconst (v := 0) hx hb d_Kp_unsay_31 (by decide) ?_
      exact mw_iret J hr hlk hP hS d_Kp_unsay_32 (⟨said, Or.inr ⟨k, htri, Or.inl ⟨hs, rfl, rfl⟩⟩, ⟨B, cw, L, rfl, fun _ _ h => h, ho, hfz, hkp, hh, hsd⟩⟩)
  · have hno := (hw.resolve_left (fun g => by rw [g.1] at c_6; exact absurd c_6 (by decide))).2
    refine lv_iconst (v := (-1)) hx hb d_Kp_unsay_9 (by decide) ?_
    exact mw_iret J hr hlk hP hS d_Kp_unsay_10 (⟨said, Or.inl ⟨hno, rfl, rfl⟩, ⟨B, cw, L, rfl, fun _ _ h => h, ho, hfz, hkp, hh, hsd⟩⟩)
end
