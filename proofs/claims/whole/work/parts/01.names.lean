-- ===== PART A: goes FIRST, ahead of the names: the tables' words, and 'selects' of them =====
def lw_okq (q : MethodName × Nat) : Prop := (q.1.cls ≠ "java/lang/invoke/MethodHandle" ∧ q.1.cls ≠ "java/lang/invoke/VarHandle") ∧ Cond.instantiable q.1.cls q.2 ∈ tables_1 ∧ Cond.privateMethod q.1 ∈ tables_1 ∧ Cond.instanceMethod q.1 ∈ tables_1
theorem lw_p0 : lw_okq (⟨"RuleKeeper", "hold", "(I)Z"⟩, 7) := ⟨⟨by decide +kernel, by decide +kernel⟩, List.mem_of_getElem? (i := 11) (by decide +kernel), List.mem_of_getElem? (i := 213) (by decide +kernel), List.mem_of_getElem? (i := 214) (by decide +kernel)⟩
theorem lw_p1 : lw_okq (⟨"RuleKeeper", "follow", "(II)Z"⟩, 7) := ⟨⟨by decide +kernel, by decide +kernel⟩, List.mem_of_getElem? (i := 11) (by decide +kernel), List.mem_of_getElem? (i := 225) (by decide +kernel), List.mem_of_getElem? (i := 226) (by decide +kernel)⟩
theorem lw_p2 : lw_okq (⟨"RuleKeeper$Solver", "isMatchedBefore", "(LRuleKeeper$Pattern;II)Z"⟩, 4) := ⟨⟨by decide +kernel, by decide +kernel⟩, List.mem_of_getElem? (i := 19) (by decide +kernel), List.mem_of_getElem? (i := 248) (by decide +kernel), List.mem_of_getElem? (i := 249) (by decide +kernel)⟩
theorem lw_p3 : lw_okq (⟨"RuleKeeper$Solver", "fillColumns", "(LRuleKeeper$Rule;III)Z"⟩, 4) := ⟨⟨by decide +kernel, by decide +kernel⟩, List.mem_of_getElem? (i := 19) (by decide +kernel), List.mem_of_getElem? (i := 261) (by decide +kernel), List.mem_of_getElem? (i := 262) (by decide +kernel)⟩
theorem lw_p4 : lw_okq (⟨"RuleKeeper$Column", "take", "(III)V"⟩, 6) := ⟨⟨by decide +kernel, by decide +kernel⟩, List.mem_of_getElem? (i := 59) (by decide +kernel), List.mem_of_getElem? (i := 275) (by decide +kernel), List.mem_of_getElem? (i := 276) (by decide +kernel)⟩
theorem lw_p5 : lw_okq (⟨"RuleKeeper", "holdAnew", "()V"⟩, 7) := ⟨⟨by decide +kernel, by decide +kernel⟩, List.mem_of_getElem? (i := 11) (by decide +kernel), List.mem_of_getElem? (i := 302) (by decide +kernel), List.mem_of_getElem? (i := 303) (by decide +kernel)⟩
theorem lw_p6 : lw_okq (⟨"RuleKeeper", "draftIsRule", "()Z"⟩, 7) := ⟨⟨by decide +kernel, by decide +kernel⟩, List.mem_of_getElem? (i := 11) (by decide +kernel), List.mem_of_getElem? (i := 324) (by decide +kernel), List.mem_of_getElem? (i := 325) (by decide +kernel)⟩
theorem lw_p7 : lw_okq (⟨"RuleKeeper", "ruleOfDraft", "()LRuleKeeper$Rule;"⟩, 7) := ⟨⟨by decide +kernel, by decide +kernel⟩, List.mem_of_getElem? (i := 11) (by decide +kernel), List.mem_of_getElem? (i := 328) (by decide +kernel), List.mem_of_getElem? (i := 329) (by decide +kernel)⟩
theorem lw_p8 : lw_okq (⟨"RuleKeeperModel", "reckon", "()Z"⟩, 14) := ⟨⟨by decide +kernel, by decide +kernel⟩, List.mem_of_getElem? (i := 372) (by decide +kernel), List.mem_of_getElem? (i := 433) (by decide +kernel), List.mem_of_getElem? (i := 434) (by decide +kernel)⟩
theorem lw_p9 : lw_okq (⟨"RuleKeeperModel", "come", "(I)Z"⟩, 14) := ⟨⟨by decide +kernel, by decide +kernel⟩, List.mem_of_getElem? (i := 372) (by decide +kernel), List.mem_of_getElem? (i := 437) (by decide +kernel), List.mem_of_getElem? (i := 438) (by decide +kernel)⟩
theorem lw_p10 : lw_okq (⟨"RuleKeeperModel", "free", "()V"⟩, 14) := ⟨⟨by decide +kernel, by decide +kernel⟩, List.mem_of_getElem? (i := 372) (by decide +kernel), List.mem_of_getElem? (i := 441) (by decide +kernel), List.mem_of_getElem? (i := 442) (by decide +kernel)⟩
theorem lw_p11 : lw_okq (⟨"RuleKeeperModel", "allCases", "(IZ)Z"⟩, 14) := ⟨⟨by decide +kernel, by decide +kernel⟩, List.mem_of_getElem? (i := 372) (by decide +kernel), List.mem_of_getElem? (i := 445) (by decide +kernel), List.mem_of_getElem? (i := 446) (by decide +kernel)⟩
theorem lw_p12 : lw_okq (⟨"RuleKeeperModel", "loosen", "([III)V"⟩, 14) := ⟨⟨by decide +kernel, by decide +kernel⟩, List.mem_of_getElem? (i := 372) (by decide +kernel), List.mem_of_getElem? (i := 449) (by decide +kernel), List.mem_of_getElem? (i := 450) (by decide +kernel)⟩
theorem lw_p13 : lw_okq (⟨"RuleKeeperModel", "bind", "([III)Z"⟩, 14) := ⟨⟨by decide +kernel, by decide +kernel⟩, List.mem_of_getElem? (i := 372) (by decide +kernel), List.mem_of_getElem? (i := 453) (by decide +kernel), List.mem_of_getElem? (i := 454) (by decide +kernel)⟩
theorem lw_p14 : lw_okq (⟨"RuleKeeperModel", "give", "(IZ)Z"⟩, 14) := ⟨⟨by decide +kernel, by decide +kernel⟩, List.mem_of_getElem? (i := 372) (by decide +kernel), List.mem_of_getElem? (i := 460) (by decide +kernel), List.mem_of_getElem? (i := 461) (by decide +kernel)⟩
theorem lw_p15 : lw_okq (⟨"RuleKeeperModel", "value", "(I)I"⟩, 14) := ⟨⟨by decide +kernel, by decide +kernel⟩, List.mem_of_getElem? (i := 372) (by decide +kernel), List.mem_of_getElem? (i := 464) (by decide +kernel), List.mem_of_getElem? (i := 465) (by decide +kernel)⟩
def lw_privs_1 : List (MethodName × Nat) := [(⟨"RuleKeeper", "hold", "(I)Z"⟩, 7), (⟨"RuleKeeper", "follow", "(II)Z"⟩, 7), (⟨"RuleKeeper$Solver", "isMatchedBefore", "(LRuleKeeper$Pattern;II)Z"⟩, 4), (⟨"RuleKeeper$Solver", "fillColumns", "(LRuleKeeper$Rule;III)Z"⟩, 4), (⟨"RuleKeeper$Column", "take", "(III)V"⟩, 6), (⟨"RuleKeeper", "holdAnew", "()V"⟩, 7), (⟨"RuleKeeper", "draftIsRule", "()Z"⟩, 7), (⟨"RuleKeeper", "ruleOfDraft", "()LRuleKeeper$Rule;"⟩, 7), (⟨"RuleKeeperModel", "reckon", "()Z"⟩, 14), (⟨"RuleKeeperModel", "come", "(I)Z"⟩, 14), (⟨"RuleKeeperModel", "free", "()V"⟩, 14), (⟨"RuleKeeperModel", "allCases", "(IZ)Z"⟩, 14), (⟨"RuleKeeperModel", "loosen", "([III)V"⟩, 14), (⟨"RuleKeeperModel", "bind", "([III)Z"⟩, 14), (⟨"RuleKeeperModel", "give", "(IZ)Z"⟩, 14), (⟨"RuleKeeperModel", "value", "(I)I"⟩, 14)]
theorem lw_r1 : ∀ q ∈ lw_privs_1, lw_okq q := List.forall_mem_cons.mpr ⟨lw_p0, List.forall_mem_cons.mpr ⟨lw_p1, List.forall_mem_cons.mpr ⟨lw_p2, List.forall_mem_cons.mpr ⟨lw_p3, List.forall_mem_cons.mpr ⟨lw_p4, List.forall_mem_cons.mpr ⟨lw_p5, List.forall_mem_cons.mpr ⟨lw_p6, List.forall_mem_cons.mpr ⟨lw_p7, List.forall_mem_cons.mpr ⟨lw_p8, List.forall_mem_cons.mpr ⟨lw_p9, List.forall_mem_cons.mpr ⟨lw_p10, List.forall_mem_cons.mpr ⟨lw_p11, List.forall_mem_cons.mpr ⟨lw_p12, List.forall_mem_cons.mpr ⟨lw_p13, List.forall_mem_cons.mpr ⟨lw_p14, List.forall_mem_cons.mpr ⟨lw_p15, fun _ h => absurd h List.not_mem_nil⟩⟩⟩⟩⟩⟩⟩⟩⟩⟩⟩⟩⟩⟩⟩⟩
theorem lw_p16 : lw_okq (⟨"RuleKeeperModel", "isMade", "()Z"⟩, 14) := ⟨⟨by decide +kernel, by decide +kernel⟩, List.mem_of_getElem? (i := 372) (by decide +kernel), List.mem_of_getElem? (i := 483) (by decide +kernel), List.mem_of_getElem? (i := 484) (by decide +kernel)⟩
def lw_privs_2 : List (MethodName × Nat) := [(⟨"RuleKeeperModel", "isMade", "()Z"⟩, 14)]
theorem lw_r2 : ∀ q ∈ lw_privs_2, lw_okq q := List.forall_mem_cons.mpr ⟨lw_p16, fun _ h => absurd h List.not_mem_nil⟩
def lw_privs : List (MethodName × Nat) := lw_privs_1 ++ (lw_privs_2)
def lw_tbl : List Cond := k2_sels lw_privs ++ tables_1
theorem lw_privs_ok : ∀ q ∈ lw_privs, lw_okq q := by
  show ∀ q ∈ lw_privs_1 ++ (lw_privs_2), lw_okq q
  exact List.forall_mem_append.mpr ⟨lw_r1, lw_r2⟩
-- names, by a program of mine (wip/gen/names.py)
def gw : List Cond := lw_tbl.filter goodWord
theorem gw_in : ∀ w ∈ gw, w ∈ lw_tbl := fun _ h => (List.mem_filter.mp h).1
theorem gw_good : ∀ w ∈ gw, (w.onTables && w.keeps) = true ∨ ∃ ty, w = .arrayClass ty := fun _ h => good_of_word (List.mem_filter.mp h).2
def R_Mk : String := "RuleKeeper$Marks"
def T_Mk : u_T := fun k => match k with
  | _ => ("RuleKeeper$Marks", "words", "[I", true)
def t_Mk : Nat → FieldType := fun k => match k with
  | _ => .array .int
theorem n_Mk : ∀ a, a < 1 → ∀ b, b < 1 → a ≠ b → (T_Mk a).2.1 ≠ (T_Mk b).2.1 := by decide +kernel
theorem o_Mk : ∀ k, k < 1 → parseFieldDescriptor (T_Mk k).2.2.1 = some (t_Mk k) := by decide +kernel
def R_Tr : String := "RuleKeeper$Triples"
def T_Tr : u_T := fun k => match k with
  | 0 => ("RuleKeeper$Triples", "codes", "[I", true)
  | 1 => ("RuleKeeper$Triples", "present", "LRuleKeeper$Marks;", true)
  | _ => ("RuleKeeper$Triples", "count", "I", false)
def t_Tr : Nat → FieldType := fun k => match k with
  | 0 => .array .int
  | 1 => .object "RuleKeeper$Marks"
  | _ => .int
theorem n_Tr : ∀ a, a < 3 → ∀ b, b < 3 → a ≠ b → (T_Tr a).2.1 ≠ (T_Tr b).2.1 := by decide +kernel
theorem o_Tr : ∀ k, k < 3 → parseFieldDescriptor (T_Tr k).2.2.1 = some (t_Tr k) := by decide +kernel
def R_Pt : String := "RuleKeeper$Pattern"
def T_Pt : u_T := fun k => match k with
  | 0 => ("RuleKeeper$Pattern", "bits", "[I", true)
  | 1 => ("RuleKeeper$Pattern", "slots", "[I", true)
  | 2 => ("RuleKeeper$Pattern", "variables", "I", true)
  | 3 => ("RuleKeeper$Pattern", "numberMask", "I", true)
  | 4 => ("RuleKeeper$Pattern", "numberCode", "I", true)
  | 5 => ("RuleKeeper$Pattern", "sameAB", "Z", true)
  | 6 => ("RuleKeeper$Pattern", "sameAC", "Z", true)
  | _ => ("RuleKeeper$Pattern", "sameBC", "Z", true)
def t_Pt : Nat → FieldType := fun k => match k with
  | 0 => .array .int
  | 1 => .array .int
  | 2 => .int
  | 3 => .int
  | 4 => .int
  | 5 => .boolean
  | 6 => .boolean
  | _ => .boolean
theorem n_Pt : ∀ a, a < 8 → ∀ b, b < 8 → a ≠ b → (T_Pt a).2.1 ≠ (T_Pt b).2.1 := by decide +kernel
theorem o_Pt : ∀ k, k < 8 → parseFieldDescriptor (T_Pt k).2.2.1 = some (t_Pt k) := by decide +kernel
def R_Ru : String := "RuleKeeper$Rule"
def T_Ru : u_T := fun k => match k with
  | 0 => ("RuleKeeper$Rule", "body", "[LRuleKeeper$Pattern;", true)
  | 1 => ("RuleKeeper$Rule", "head", "LRuleKeeper$Pattern;", true)
  | _ => ("RuleKeeper$Rule", "shared", "[I", true)
def t_Ru : Nat → FieldType := fun k => match k with
  | 0 => .array (.object "RuleKeeper$Pattern")
  | 1 => .object "RuleKeeper$Pattern"
  | _ => .array .int
theorem n_Ru : ∀ a, a < 3 → ∀ b, b < 3 → a ≠ b → (T_Ru a).2.1 ≠ (T_Ru b).2.1 := by decide +kernel
theorem o_Ru : ∀ k, k < 3 → parseFieldDescriptor (T_Ru k).2.2.1 = some (t_Ru k) := by decide +kernel
def R_Co : String := "RuleKeeper$Column"
def T_Co : u_T := fun k => match k with
  | 0 => ("RuleKeeper$Column", "parts", "[I", true)
  | 1 => ("RuleKeeper$Column", "times", "[I", true)
  | 2 => ("RuleKeeper$Column", "places", "[I", true)
  | 3 => ("RuleKeeper$Column", "source", "LRuleKeeper$Pattern;", false)
  | 4 => ("RuleKeeper$Column", "kept", "I", false)
  | _ => ("RuleKeeper$Column", "count", "I", false)
def t_Co : Nat → FieldType := fun k => match k with
  | 0 => .array .int
  | 1 => .array .int
  | 2 => .array .int
  | 3 => .object "RuleKeeper$Pattern"
  | 4 => .int
  | _ => .int
theorem n_Co : ∀ a, a < 6 → ∀ b, b < 6 → a ≠ b → (T_Co a).2.1 ≠ (T_Co b).2.1 := by decide +kernel
theorem o_Co : ∀ k, k < 6 → parseFieldDescriptor (T_Co k).2.2.1 = some (t_Co k) := by decide +kernel
def R_Sv : String := "RuleKeeper$Solver"
def T_Sv : u_T := fun k => match k with
  | 0 => ("RuleKeeper$Solver", "held", "LRuleKeeper$Triples;", true)
  | 1 => ("RuleKeeper$Solver", "values", "[I", true)
  | 2 => ("RuleKeeper$Solver", "columns", "[LRuleKeeper$Column;", true)
  | _ => ("RuleKeeper$Solver", "columnCount", "I", false)
def t_Sv : Nat → FieldType := fun k => match k with
  | 0 => .object "RuleKeeper$Triples"
  | 1 => .array .int
  | 2 => .array (.object "RuleKeeper$Column")
  | _ => .int
theorem n_Sv : ∀ a, a < 4 → ∀ b, b < 4 → a ≠ b → (T_Sv a).2.1 ≠ (T_Sv b).2.1 := by decide +kernel
theorem o_Sv : ∀ k, k < 4 → parseFieldDescriptor (T_Sv k).2.2.1 = some (t_Sv k) := by decide +kernel
def R_Kp : String := "RuleKeeper"
def T_Kp : u_T := fun k => match k with
  | 0 => ("RuleKeeper", "solver", "LRuleKeeper$Solver;", true)
  | 1 => ("RuleKeeper", "held", "LRuleKeeper$Triples;", true)
  | 2 => ("RuleKeeper", "said", "LRuleKeeper$Marks;", true)
  | 3 => ("RuleKeeper", "made", "[LRuleKeeper$Rule;", true)
  | 4 => ("RuleKeeper", "draft", "[LRuleKeeper$Pattern;", true)
  | 5 => ("RuleKeeper", "madeCount", "I", false)
  | _ => ("RuleKeeper", "draftCount", "I", false)
def t_Kp : Nat → FieldType := fun k => match k with
  | 0 => .object "RuleKeeper$Solver"
  | 1 => .object "RuleKeeper$Triples"
  | 2 => .object "RuleKeeper$Marks"
  | 3 => .array (.object "RuleKeeper$Rule")
  | 4 => .array (.object "RuleKeeper$Pattern")
  | 5 => .int
  | _ => .int
theorem n_Kp : ∀ a, a < 7 → ∀ b, b < 7 → a ≠ b → (T_Kp a).2.1 ≠ (T_Kp b).2.1 := by decide +kernel
theorem o_Kp : ∀ k, k < 7 → parseFieldDescriptor (T_Kp k).2.2.1 = some (t_Kp k) := by decide +kernel
def R_Md : String := "RuleKeeperModel"
def T_Md : u_T := fun k => match k with
  | 0 => ("RuleKeeperModel", "said", "[Z", true)
  | 1 => ("RuleKeeperModel", "holding", "[Z", true)
  | 2 => ("RuleKeeperModel", "supports", "[I", true)
  | 3 => ("RuleKeeperModel", "row", "[I", true)
  | 4 => ("RuleKeeperModel", "size", "I", false)
  | 5 => ("RuleKeeperModel", "items", "[I", true)
  | 6 => ("RuleKeeperModel", "bodies", "[I", true)
  | 7 => ("RuleKeeperModel", "rules", "I", false)
  | 8 => ("RuleKeeperModel", "draft", "[I", true)
  | 9 => ("RuleKeeperModel", "drafted", "I", false)
  | 10 => ("RuleKeeperModel", "values", "[I", true)
  | 11 => ("RuleKeeperModel", "bound", "[I", true)
  | 12 => ("RuleKeeperModel", "places", "[I", true)
  | _ => ("RuleKeeperModel", "asked", "[I", true)
def t_Md : Nat → FieldType := fun k => match k with
  | 0 => .array .boolean
  | 1 => .array .boolean
  | 2 => .array .int
  | 3 => .array .int
  | 4 => .int
  | 5 => .array .int
  | 6 => .array .int
  | 7 => .int
  | 8 => .array .int
  | 9 => .int
  | 10 => .array .int
  | 11 => .array .int
  | 12 => .array .int
  | _ => .array .int
theorem n_Md : ∀ a, a < 14 → ∀ b, b < 14 → a ≠ b → (T_Md a).2.1 ≠ (T_Md b).2.1 := by decide +kernel
theorem o_Md : ∀ k, k < 14 → parseFieldDescriptor (T_Md k).2.2.1 = some (t_Md k) := by decide +kernel
abbrev k_cl : List vw_C := [(R_Mk, T_Mk, 1), (R_Tr, T_Tr, 3), (R_Pt, T_Pt, 8), (R_Ru, T_Ru, 3), (R_Co, T_Co, 6), (R_Sv, T_Sv, 4), (R_Kp, T_Kp, 7), (R_Md, T_Md, 14)]
abbrev b_Kp_init : ByteArray := prog_1_method_1_code
def y_Kp_init : MethodName := ⟨"RuleKeeper", "<init>", "()V"⟩
abbrev b_Kp_say : ByteArray := prog_1_method_2_code
def y_Kp_say : MethodName := ⟨"RuleKeeper", "say", "(III)I"⟩
abbrev b_Kp_unsay : ByteArray := prog_1_method_3_code
def y_Kp_unsay : MethodName := ⟨"RuleKeeper", "unsay", "(III)I"⟩
abbrev b_Kp_pattern : ByteArray := prog_1_method_4_code
def y_Kp_pattern : MethodName := ⟨"RuleKeeper", "pattern", "(III)I"⟩
abbrev b_Kp_rule : ByteArray := prog_1_method_5_code
def y_Kp_rule : MethodName := ⟨"RuleKeeper", "rule", "()I"⟩
abbrev b_Kp_unrule : ByteArray := prog_1_method_6_code
def y_Kp_unrule : MethodName := ⟨"RuleKeeper", "unrule", "(I)I"⟩
abbrev b_Kp_rules : ByteArray := prog_1_method_7_code
def y_Kp_rules : MethodName := ⟨"RuleKeeper", "rules", "()I"⟩
abbrev b_Kp_holds : ByteArray := prog_1_method_8_code
def y_Kp_holds : MethodName := ⟨"RuleKeeper", "holds", "(III)I"⟩
abbrev b_Kp_support : ByteArray := prog_1_method_9_code
def y_Kp_support : MethodName := ⟨"RuleKeeper", "support", "(III)I"⟩
abbrev b_Kp_size : ByteArray := prog_1_method_10_code
def y_Kp_size : MethodName := ⟨"RuleKeeper", "size", "()I"⟩
abbrev b_Kp_next : ByteArray := prog_1_method_11_code
def y_Kp_next : MethodName := ⟨"RuleKeeper", "next", "(I)I"⟩
abbrev b_Kp_fitting : ByteArray := prog_1_method_12_code
def y_Kp_fitting : MethodName := ⟨"RuleKeeper", "fitting", "(III)I"⟩
abbrev b_Kp_clear : ByteArray := prog_1_method_13_code
def y_Kp_clear : MethodName := ⟨"RuleKeeper", "clear", "()I"⟩
abbrev b_Kp_isNumber : ByteArray := prog_1_method_14_code
def y_Kp_isNumber : MethodName := ⟨"RuleKeeper", "isNumber", "(I)Z"⟩
abbrev b_Kp_isTriple : ByteArray := prog_1_method_15_code
def y_Kp_isTriple : MethodName := ⟨"RuleKeeper", "isTriple", "(III)Z"⟩
abbrev b_Kp_isItem : ByteArray := prog_1_method_16_code
def y_Kp_isItem : MethodName := ⟨"RuleKeeper", "isItem", "(I)Z"⟩
abbrev b_Kp_isPattern : ByteArray := prog_1_method_17_code
def y_Kp_isPattern : MethodName := ⟨"RuleKeeper", "isPattern", "(III)Z"⟩
abbrev b_Kp_codeOf : ByteArray := prog_1_method_18_code
def y_Kp_codeOf : MethodName := ⟨"RuleKeeper", "codeOf", "(III)I"⟩
abbrev b_Kp_draftIsRule : ByteArray := prog_1_method_19_code
def y_Kp_draftIsRule : MethodName := ⟨"RuleKeeper", "draftIsRule", "()Z"⟩
abbrev b_Kp_ruleOfDraft : ByteArray := prog_1_method_20_code
def y_Kp_ruleOfDraft : MethodName := ⟨"RuleKeeper", "ruleOfDraft", "()LRuleKeeper$Rule;"⟩
abbrev b_Kp_hold : ByteArray := prog_1_method_21_code
def y_Kp_hold : MethodName := ⟨"RuleKeeper", "hold", "(I)Z"⟩
abbrev b_Kp_holdAnew : ByteArray := prog_1_method_22_code
def y_Kp_holdAnew : MethodName := ⟨"RuleKeeper", "holdAnew", "()V"⟩
abbrev b_Kp_follow : ByteArray := prog_1_method_23_code
def y_Kp_follow : MethodName := ⟨"RuleKeeper", "follow", "(II)Z"⟩
abbrev b_Md_init : ByteArray := prog_9_method_1_code
def y_Md_init : MethodName := ⟨"RuleKeeperModel", "<init>", "()V"⟩
abbrev b_Md_isNumber : ByteArray := prog_9_method_2_code
def y_Md_isNumber : MethodName := ⟨"RuleKeeperModel", "isNumber", "(I)Z"⟩
abbrev b_Md_isItem : ByteArray := prog_9_method_3_code
def y_Md_isItem : MethodName := ⟨"RuleKeeperModel", "isItem", "(I)Z"⟩
abbrev b_Md_code : ByteArray := prog_9_method_4_code
def y_Md_code : MethodName := ⟨"RuleKeeperModel", "code", "(III)I"⟩
abbrev b_Md_part : ByteArray := prog_9_method_5_code
def y_Md_part : MethodName := ⟨"RuleKeeperModel", "part", "(II)I"⟩
abbrev b_Md_bind : ByteArray := prog_9_method_6_code
def y_Md_bind : MethodName := ⟨"RuleKeeperModel", "bind", "([III)Z"⟩
abbrev b_Md_loosen : ByteArray := prog_9_method_7_code
def y_Md_loosen : MethodName := ⟨"RuleKeeperModel", "loosen", "([III)V"⟩
abbrev b_Md_value : ByteArray := prog_9_method_8_code
def y_Md_value : MethodName := ⟨"RuleKeeperModel", "value", "(I)I"⟩
abbrev b_Md_allCases : ByteArray := prog_9_method_9_code
def y_Md_allCases : MethodName := ⟨"RuleKeeperModel", "allCases", "(IZ)Z"⟩
abbrev b_Md_give : ByteArray := prog_9_method_10_code
def y_Md_give : MethodName := ⟨"RuleKeeperModel", "give", "(IZ)Z"⟩
abbrev b_Md_come : ByteArray := prog_9_method_11_code
def y_Md_come : MethodName := ⟨"RuleKeeperModel", "come", "(I)Z"⟩
abbrev b_Md_free : ByteArray := prog_9_method_12_code
def y_Md_free : MethodName := ⟨"RuleKeeperModel", "free", "()V"⟩
abbrev b_Md_reckon : ByteArray := prog_9_method_13_code
def y_Md_reckon : MethodName := ⟨"RuleKeeperModel", "reckon", "()Z"⟩
abbrev b_Md_say : ByteArray := prog_9_method_14_code
def y_Md_say : MethodName := ⟨"RuleKeeperModel", "say", "(III)I"⟩
abbrev b_Md_unsay : ByteArray := prog_9_method_15_code
def y_Md_unsay : MethodName := ⟨"RuleKeeperModel", "unsay", "(III)I"⟩
abbrev b_Md_pattern : ByteArray := prog_9_method_16_code
def y_Md_pattern : MethodName := ⟨"RuleKeeperModel", "pattern", "(III)I"⟩
abbrev b_Md_isMade : ByteArray := prog_9_method_17_code
def y_Md_isMade : MethodName := ⟨"RuleKeeperModel", "isMade", "()Z"⟩
abbrev b_Md_rule : ByteArray := prog_9_method_18_code
def y_Md_rule : MethodName := ⟨"RuleKeeperModel", "rule", "()I"⟩
abbrev b_Md_unrule : ByteArray := prog_9_method_19_code
def y_Md_unrule : MethodName := ⟨"RuleKeeperModel", "unrule", "(I)I"⟩
abbrev b_Md_rules : ByteArray := prog_9_method_20_code
def y_Md_rules : MethodName := ⟨"RuleKeeperModel", "rules", "()I"⟩
abbrev b_Md_holds : ByteArray := prog_9_method_21_code
def y_Md_holds : MethodName := ⟨"RuleKeeperModel", "holds", "(III)I"⟩
abbrev b_Md_support : ByteArray := prog_9_method_22_code
def y_Md_support : MethodName := ⟨"RuleKeeperModel", "support", "(III)I"⟩
abbrev b_Md_size : ByteArray := prog_9_method_23_code
def y_Md_size : MethodName := ⟨"RuleKeeperModel", "size", "()I"⟩
abbrev b_Md_next : ByteArray := prog_9_method_24_code
def y_Md_next : MethodName := ⟨"RuleKeeperModel", "next", "(I)I"⟩
abbrev b_Md_fitting : ByteArray := prog_9_method_25_code
def y_Md_fitting : MethodName := ⟨"RuleKeeperModel", "fitting", "(III)I"⟩
abbrev b_Md_clear : ByteArray := prog_9_method_26_code
def y_Md_clear : MethodName := ⟨"RuleKeeperModel", "clear", "()I"⟩
abbrev b_Co_init : ByteArray := prog_2_method_1_code
def y_Co_init : MethodName := ⟨"RuleKeeper$Column", "<init>", "()V"⟩
abbrev b_Co_fill : ByteArray := prog_2_method_2_code
def y_Co_fill : MethodName := ⟨"RuleKeeper$Column", "fill", "(LRuleKeeper$Triples;II[I)V"⟩
abbrev b_Co_take : ByteArray := prog_2_method_3_code
def y_Co_take : MethodName := ⟨"RuleKeeper$Column", "take", "(III)V"⟩
abbrev b_Co_placeOf : ByteArray := prog_2_method_4_code
def y_Co_placeOf : MethodName := ⟨"RuleKeeper$Column", "placeOf", "(II)I"⟩
abbrev b_Mk_init : ByteArray := prog_3_method_1_code
def y_Mk_init : MethodName := ⟨"RuleKeeper$Marks", "<init>", "()V"⟩
abbrev b_Mk_has : ByteArray := prog_3_method_2_code
def y_Mk_has : MethodName := ⟨"RuleKeeper$Marks", "has", "(I)Z"⟩
abbrev b_Mk_put : ByteArray := prog_3_method_3_code
def y_Mk_put : MethodName := ⟨"RuleKeeper$Marks", "put", "(I)V"⟩
abbrev b_Mk_drop : ByteArray := prog_3_method_4_code
def y_Mk_drop : MethodName := ⟨"RuleKeeper$Marks", "drop", "(I)V"⟩
abbrev b_Pt_init : ByteArray := prog_4_method_1_code
def y_Pt_init : MethodName := ⟨"RuleKeeper$Pattern", "<init>", "(III)V"⟩
abbrev b_Pt_fits : ByteArray := prog_4_method_2_code
def y_Pt_fits : MethodName := ⟨"RuleKeeper$Pattern", "fits", "(I)Z"⟩
abbrev b_Pt_agrees : ByteArray := prog_4_method_3_code
def y_Pt_agrees : MethodName := ⟨"RuleKeeper$Pattern", "agrees", "(I)Z"⟩
abbrev b_Pt_maskOf : ByteArray := prog_4_method_4_code
def y_Pt_maskOf : MethodName := ⟨"RuleKeeper$Pattern", "maskOf", "(I)I"⟩
abbrev b_Pt_filled : ByteArray := prog_4_method_5_code
def y_Pt_filled : MethodName := ⟨"RuleKeeper$Pattern", "filled", "(I[I)I"⟩
abbrev b_Pt_bind : ByteArray := prog_4_method_6_code
def y_Pt_bind : MethodName := ⟨"RuleKeeper$Pattern", "bind", "(II[I)V"⟩
abbrev b_Ru_init : ByteArray := prog_5_method_1_code
def y_Ru_init : MethodName := ⟨"RuleKeeper$Rule", "<init>", "([LRuleKeeper$Pattern;LRuleKeeper$Pattern;)V"⟩
abbrev b_Sv_init : ByteArray := prog_6_method_1_code
def y_Sv_init : MethodName := ⟨"RuleKeeper$Solver", "<init>", "()V"⟩
abbrev b_Sv_derive : ByteArray := prog_6_method_2_code
def y_Sv_derive : MethodName := ⟨"RuleKeeper$Solver", "derive", "(LRuleKeeper$Rule;II)Z"⟩
abbrev b_Sv_casesGiving : ByteArray := prog_6_method_3_code
def y_Sv_casesGiving : MethodName := ⟨"RuleKeeper$Solver", "casesGiving", "(LRuleKeeper$Rule;I)I"⟩
abbrev b_Sv_isMatchedBefore : ByteArray := prog_6_method_4_code
def y_Sv_isMatchedBefore : MethodName := ⟨"RuleKeeper$Solver", "isMatchedBefore", "(LRuleKeeper$Pattern;II)Z"⟩
abbrev b_Sv_fillColumns : ByteArray := prog_6_method_5_code
def y_Sv_fillColumns : MethodName := ⟨"RuleKeeper$Solver", "fillColumns", "(LRuleKeeper$Rule;III)Z"⟩
abbrev b_Sv_addJoined : ByteArray := prog_6_method_6_code
def y_Sv_addJoined : MethodName := ⟨"RuleKeeper$Solver", "addJoined", "(LRuleKeeper$Solver;LRuleKeeper$Rule;II)Z"⟩
abbrev b_Sv_countJoined : ByteArray := prog_6_method_7_code
def y_Sv_countJoined : MethodName := ⟨"RuleKeeper$Solver", "countJoined", "(LRuleKeeper$Solver;II)I"⟩
abbrev b_Tr_init : ByteArray := prog_7_method_1_code
def y_Tr_init : MethodName := ⟨"RuleKeeper$Triples", "<init>", "()V"⟩
abbrev b_Tr_has : ByteArray := prog_7_method_2_code
def y_Tr_has : MethodName := ⟨"RuleKeeper$Triples", "has", "(I)Z"⟩
abbrev b_Tr_add : ByteArray := prog_7_method_3_code
def y_Tr_add : MethodName := ⟨"RuleKeeper$Triples", "add", "(I)Z"⟩
abbrev b_Tr_cutTo : ByteArray := prog_7_method_4_code
def y_Tr_cutTo : MethodName := ⟨"RuleKeeper$Triples", "cutTo", "(I)V"⟩
abbrev b_Tr_keepThose : ByteArray := prog_7_method_5_code
def y_Tr_keepThose : MethodName := ⟨"RuleKeeper$Triples", "keepThose", "(LRuleKeeper$Marks;)V"⟩
abbrev b_Lw_law : ByteArray := code
