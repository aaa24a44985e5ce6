def RX0 : String := "FloatSolver$Arithmetic"
def TX0 : u_T := fun k => match k with
  | _ => ("", "", "", false)
def tyX0 : Nat → FieldType := fun k => match k with
  | _ => .int
abbrev wsX00 : List Cond := u_ws RX0 TX0 0
theorem nmX0 : ∀ a, a < 0 → ∀ b, b < 0 → a ≠ b → (TX0 a).2.1 ≠ (TX0 b).2.1 := by decide +kernel
theorem tyX0_ok : ∀ k, k < 0 → parseFieldDescriptor (TX0 k).2.2.1 = some (tyX0 k) := by decide +kernel
abbrev cX0_ofOne : ByteArray := prog_2_method_2_code
def yX0_ofOne : MethodName := ⟨RX0, "ofOne", "(II)I"⟩
abbrev cX0_ofTwo : ByteArray := prog_2_method_3_code
def yX0_ofTwo : MethodName := ⟨RX0, "ofTwo", "(III)I"⟩
abbrev cX0_sum : ByteArray := prog_2_method_4_code
def yX0_sum : MethodName := ⟨RX0, "sum", "(II)I"⟩
abbrev cX0_product : ByteArray := prog_2_method_5_code
def yX0_product : MethodName := ⟨RX0, "product", "(II)I"⟩
abbrev cX0_quotient : ByteArray := prog_2_method_6_code
def yX0_quotient : MethodName := ⟨RX0, "quotient", "(II)I"⟩
abbrev cX0_remainder : ByteArray := prog_2_method_7_code
def yX0_remainder : MethodName := ⟨RX0, "remainder", "(II)I"⟩
abbrev cX0_root : ByteArray := prog_2_method_8_code
def yX0_root : MethodName := ⟨RX0, "root", "(I)I"⟩
abbrev cX0_rootDown : ByteArray := prog_2_method_9_code
def yX0_rootDown : MethodName := ⟨RX0, "rootDown", "(J)J"⟩
abbrev cX0_cut : ByteArray := prog_2_method_10_code
def yX0_cut : MethodName := ⟨RX0, "cut", "(I)I"⟩
abbrev cX0_grown : ByteArray := prog_2_method_11_code
def yX0_grown : MethodName := ⟨RX0, "grown", "(I)I"⟩
abbrev cX0_nearestWhole : ByteArray := prog_2_method_12_code
def yX0_nearestWhole : MethodName := ⟨RX0, "nearestWhole", "(I)I"⟩
abbrev cX0_unitOf : ByteArray := prog_2_method_13_code
def yX0_unitOf : MethodName := ⟨RX0, "unitOf", "(I)I"⟩
abbrev cX0_asInt : ByteArray := prog_2_method_14_code
def yX0_asInt : MethodName := ⟨RX0, "asInt", "(II)I"⟩
def RX1 : String := "FloatSolver$Box"
def TX1 : u_T := fun k => match k with
  | 0 => ("FloatSolver$Box", "low", "[I", true)
  | _ => ("FloatSolver$Box", "high", "[I", true)
def tyX1 : Nat → FieldType := fun k => match k with
  | 0 => .array .int
  | _ => .array .int
abbrev wsX10 : List Cond := u_ws RX1 TX1 2
theorem nmX1 : ∀ a, a < 2 → ∀ b, b < 2 → a ≠ b → (TX1 a).2.1 ≠ (TX1 b).2.1 := by decide +kernel
theorem tyX1_ok : ∀ k, k < 2 → parseFieldDescriptor (TX1 k).2.2.1 = some (tyX1 k) := by decide +kernel
abbrev cX1_init : ByteArray := prog_3_method_1_code
def yX1_init : MethodName := ⟨RX1, "<init>", "()V"⟩
abbrev cX1_put : ByteArray := prog_3_method_2_code
def yX1_put : MethodName := ⟨RX1, "put", "(III)V"⟩
abbrev cX1_follow : ByteArray := prog_3_method_3_code
def yX1_follow : MethodName := ⟨RX1, "follow", "(LFloatSolver$Box;)I"⟩
abbrev cX1_firstWide : ByteArray := prog_3_method_4_code
def yX1_firstWide : MethodName := ⟨RX1, "firstWide", "()I"⟩
def RX2 : String := "FloatSolver$Floats"
def TX2 : u_T := fun k => match k with
  | _ => ("", "", "", false)
def tyX2 : Nat → FieldType := fun k => match k with
  | _ => .int
abbrev wsX20 : List Cond := u_ws RX2 TX2 0
theorem nmX2 : ∀ a, a < 0 → ∀ b, b < 0 → a ≠ b → (TX2 a).2.1 ≠ (TX2 b).2.1 := by decide +kernel
theorem tyX2_ok : ∀ k, k < 0 → parseFieldDescriptor (TX2 k).2.2.1 = some (tyX2 k) := by decide +kernel
abbrev cX2_isNone : ByteArray := prog_4_method_2_code
def yX2_isNone : MethodName := ⟨RX2, "isNone", "(I)Z"⟩
abbrev cX2_placeOf : ByteArray := prog_4_method_3_code
def yX2_placeOf : MethodName := ⟨RX2, "placeOf", "(I)I"⟩
abbrev cX2_bitsAt : ByteArray := prog_4_method_4_code
def yX2_bitsAt : MethodName := ⟨RX2, "bitsAt", "(I)I"⟩
abbrev cX2_rank : ByteArray := prog_4_method_5_code
def yX2_rank : MethodName := ⟨RX2, "rank", "(I)I"⟩
abbrev cX2_significand : ByteArray := prog_4_method_6_code
def yX2_significand : MethodName := ⟨RX2, "significand", "(I)J"⟩
abbrev cX2_exponent : ByteArray := prog_4_method_7_code
def yX2_exponent : MethodName := ⟨RX2, "exponent", "(I)I"⟩
abbrev cX2_nearest : ByteArray := prog_4_method_8_code
def yX2_nearest : MethodName := ⟨RX2, "nearest", "(IJI)I"⟩
def RX3 : String := "FloatSolver$Nodes"
def TX3 : u_T := fun k => match k with
  | 0 => ("FloatSolver$Nodes", "kind", "[I", true)
  | 1 => ("FloatSolver$Nodes", "x", "[I", true)
  | 2 => ("FloatSolver$Nodes", "y", "[I", true)
  | 3 => ("FloatSolver$Nodes", "values", "[I", true)
  | 4 => ("FloatSolver$Nodes", "rests", "[J", true)
  | 5 => ("FloatSolver$Nodes", "users", "[J", true)
  | _ => ("FloatSolver$Nodes", "count", "I", false)
def tyX3 : Nat → FieldType := fun k => match k with
  | 0 => .array .int
  | 1 => .array .int
  | 2 => .array .int
  | 3 => .array .int
  | 4 => .array .long
  | 5 => .array .long
  | _ => .int
abbrev wsX30 : List Cond := u_ws RX3 TX3 7
theorem nmX3 : ∀ a, a < 7 → ∀ b, b < 7 → a ≠ b → (TX3 a).2.1 ≠ (TX3 b).2.1 := by decide +kernel
theorem tyX3_ok : ∀ k, k < 7 → parseFieldDescriptor (TX3 k).2.2.1 = some (tyX3 k) := by decide +kernel
abbrev cX3_init : ByteArray := prog_5_method_1_code
def yX3_init : MethodName := ⟨RX3, "<init>", "()V"⟩
abbrev cX3_looksAtX : ByteArray := prog_5_method_2_code
def yX3_looksAtX : MethodName := ⟨RX3, "looksAtX", "(I)Z"⟩
abbrev cX3_looksAtY : ByteArray := prog_5_method_3_code
def yX3_looksAtY : MethodName := ⟨RX3, "looksAtY", "(I)Z"⟩
abbrev cX3_has : ByteArray := prog_5_method_4_code
def yX3_has : MethodName := ⟨RX3, "has", "(I)Z"⟩
abbrev cX3_add : ByteArray := prog_5_method_5_code
def yX3_add : MethodName := ⟨RX3, "add", "(III)I"⟩
abbrev cX3_link : ByteArray := prog_5_method_6_code
def yX3_link : MethodName := ⟨RX3, "link", "(I)V"⟩
abbrev cX3_evaluate : ByteArray := prog_5_method_7_code
def yX3_evaluate : MethodName := ⟨RX3, "evaluate", "([I)V"⟩
def RX4 : String := "FloatSolver$Rules"
def TX4 : u_T := fun k => match k with
  | 0 => ("FloatSolver$Rules", "kind", "[I", true)
  | 1 => ("FloatSolver$Rules", "a", "[I", true)
  | 2 => ("FloatSolver$Rules", "b", "[I", true)
  | _ => ("FloatSolver$Rules", "count", "I", false)
def tyX4 : Nat → FieldType := fun k => match k with
  | 0 => .array .int
  | 1 => .array .int
  | 2 => .array .int
  | _ => .int
abbrev wsX40 : List Cond := u_ws RX4 TX4 4
theorem nmX4 : ∀ a, a < 4 → ∀ b, b < 4 → a ≠ b → (TX4 a).2.1 ≠ (TX4 b).2.1 := by decide +kernel
theorem tyX4_ok : ∀ k, k < 4 → parseFieldDescriptor (TX4 k).2.2.1 = some (tyX4 k) := by decide +kernel
abbrev cX4_init : ByteArray := prog_6_method_1_code
def yX4_init : MethodName := ⟨RX4, "<init>", "()V"⟩
abbrev cX4_has : ByteArray := prog_6_method_2_code
def yX4_has : MethodName := ⟨RX4, "has", "(I)Z"⟩
abbrev cX4_add : ByteArray := prog_6_method_3_code
def yX4_add : MethodName := ⟨RX4, "add", "(III)I"⟩
abbrev cX4_clear : ByteArray := prog_6_method_4_code
def yX4_clear : MethodName := ⟨RX4, "clear", "()I"⟩
abbrev cX4_restOn : ByteArray := prog_6_method_5_code
def yX4_restOn : MethodName := ⟨RX4, "restOn", "(ILFloatSolver$Nodes;)J"⟩
abbrev cX4_allRestOn : ByteArray := prog_6_method_6_code
def yX4_allRestOn : MethodName := ⟨RX4, "allRestOn", "(LFloatSolver$Nodes;)J"⟩
abbrev cX4_isTrue : ByteArray := prog_6_method_7_code
def yX4_isTrue : MethodName := ⟨RX4, "isTrue", "(I[I)Z"⟩
abbrev cX4_areTrue : ByteArray := prog_6_method_8_code
def yX4_areTrue : MethodName := ⟨RX4, "areTrue", "([I)Z"⟩
abbrev cX4_verdict : ByteArray := prog_6_method_9_code
def yX4_verdict : MethodName := ⟨RX4, "verdict", "(ILFloatSolver$Spans;)I"⟩
abbrev cX4_verdictOfAll : ByteArray := prog_6_method_10_code
def yX4_verdictOfAll : MethodName := ⟨RX4, "verdictOfAll", "(LFloatSolver$Spans;)I"⟩
abbrev cX4_turned : ByteArray := prog_6_method_11_code
def yX4_turned : MethodName := ⟨RX4, "turned", "(I)I"⟩
abbrev cX4_verdictOfOrder : ByteArray := prog_6_method_12_code
def yX4_verdictOfOrder : MethodName := ⟨RX4, "verdictOfOrder", "(ZIILFloatSolver$Spans;)I"⟩
abbrev cX4_verdictOfSame : ByteArray := prog_6_method_13_code
def yX4_verdictOfSame : MethodName := ⟨RX4, "verdictOfSame", "(IILFloatSolver$Spans;)I"⟩
abbrev cX4_verdictOfNone : ByteArray := prog_6_method_14_code
def yX4_verdictOfNone : MethodName := ⟨RX4, "verdictOfNone", "(ILFloatSolver$Spans;)I"⟩
def RX5 : String := "FloatSolver$Search"
def TX5 : u_T := fun k => match k with
  | 0 => ("FloatSolver$Search", "nodes", "LFloatSolver$Nodes;", true)
  | 1 => ("FloatSolver$Search", "rules", "LFloatSolver$Rules;", true)
  | 2 => ("FloatSolver$Search", "spans", "LFloatSolver$Spans;", true)
  | 3 => ("FloatSolver$Search", "ranges", "LFloatSolver$Box;", true)
  | 4 => ("FloatSolver$Search", "asideVariable", "[I", true)
  | 5 => ("FloatSolver$Search", "asideLow", "[I", true)
  | 6 => ("FloatSolver$Search", "asideHigh", "[I", true)
  | 7 => ("FloatSolver$Search", "aside", "I", false)
  | 8 => ("FloatSolver$Search", "box", "LFloatSolver$Box;", true)
  | 9 => ("FloatSolver$Search", "hasRun", "Z", false)
  | 10 => ("FloatSolver$Search", "answer", "I", false)
  | 11 => ("FloatSolver$Search", "looked", "I", false)
  | _ => ("FloatSolver$Search", "halved", "I", false)
def tyX5 : Nat → FieldType := fun k => match k with
  | 0 => .object "FloatSolver$Nodes"
  | 1 => .object "FloatSolver$Rules"
  | 2 => .object "FloatSolver$Spans"
  | 3 => .object "FloatSolver$Box"
  | 4 => .array .int
  | 5 => .array .int
  | 6 => .array .int
  | 7 => .int
  | 8 => .object "FloatSolver$Box"
  | 9 => .boolean
  | 10 => .int
  | 11 => .int
  | _ => .int
abbrev wsX50 : List Cond := u_ws RX5 TX5 13
theorem nmX5 : ∀ a, a < 13 → ∀ b, b < 13 → a ≠ b → (TX5 a).2.1 ≠ (TX5 b).2.1 := by decide +kernel
theorem tyX5_ok : ∀ k, k < 13 → parseFieldDescriptor (TX5 k).2.2.1 = some (tyX5 k) := by decide +kernel
abbrev cX5_init : ByteArray := prog_7_method_1_code
def yX5_init : MethodName := ⟨RX5, "<init>", "(LFloatSolver$Nodes;LFloatSolver$Rules;LFloatSolver$Spans;LFloatSolver$Box;)V"⟩
abbrev cX5_run : ByteArray := prog_7_method_2_code
def yX5_run : MethodName := ⟨RX5, "run", "(I)I"⟩
abbrev cX5_start : ByteArray := prog_7_method_3_code
def yX5_start : MethodName := ⟨RX5, "start", "()V"⟩
abbrev cX5_end : ByteArray := prog_7_method_4_code
def yX5_end : MethodName := ⟨RX5, "end", "(I)I"⟩
abbrev cX5_isTrueHere : ByteArray := prog_7_method_5_code
def yX5_isTrueHere : MethodName := ⟨RX5, "isTrueHere", "()Z"⟩
abbrev cX5_halve : ByteArray := prog_7_method_6_code
def yX5_halve : MethodName := ⟨RX5, "halve", "(I)V"⟩
abbrev cX5_takeUp : ByteArray := prog_7_method_7_code
def yX5_takeUp : MethodName := ⟨RX5, "takeUp", "()V"⟩
def RX6 : String := "FloatSolver$Spans"
def TX6 : u_T := fun k => match k with
  | 0 => ("FloatSolver$Spans", "some", "[Z", true)
  | 1 => ("FloatSolver$Spans", "none", "[Z", true)
  | 2 => ("FloatSolver$Spans", "low", "[I", true)
  | 3 => ("FloatSolver$Spans", "high", "[I", true)
  | 4 => ("FloatSolver$Spans", "nodes", "LFloatSolver$Nodes;", true)
  | 5 => ("FloatSolver$Spans", "box", "LFloatSolver$Box;", true)
  | _ => ("FloatSolver$Spans", "standing", "J", false)
def tyX6 : Nat → FieldType := fun k => match k with
  | 0 => .array .boolean
  | 1 => .array .boolean
  | 2 => .array .int
  | 3 => .array .int
  | 4 => .object "FloatSolver$Nodes"
  | 5 => .object "FloatSolver$Box"
  | _ => .long
abbrev wsX60 : List Cond := u_ws RX6 TX6 7
theorem nmX6 : ∀ a, a < 7 → ∀ b, b < 7 → a ≠ b → (TX6 a).2.1 ≠ (TX6 b).2.1 := by decide +kernel
theorem tyX6_ok : ∀ k, k < 7 → parseFieldDescriptor (TX6 k).2.2.1 = some (tyX6 k) := by decide +kernel
abbrev cX6_init : ByteArray := prog_8_method_1_code
def yX6_init : MethodName := ⟨RX6, "<init>", "(LFloatSolver$Nodes;)V"⟩
abbrev cX6_fill : ByteArray := prog_8_method_2_code
def yX6_fill : MethodName := ⟨RX6, "fill", "(LFloatSolver$Box;J)V"⟩
abbrev cX6_forget : ByteArray := prog_8_method_3_code
def yX6_forget : MethodName := ⟨RX6, "forget", "(I)V"⟩
abbrev cX6_put : ByteArray := prog_8_method_4_code
def yX6_put : MethodName := ⟨RX6, "put", "(IIIZ)V"⟩
abbrev cX6_putAll : ByteArray := prog_8_method_5_code
def yX6_putAll : MethodName := ⟨RX6, "putAll", "(I)V"⟩
abbrev cX6_putValue : ByteArray := prog_8_method_6_code
def yX6_putValue : MethodName := ⟨RX6, "putValue", "(II)V"⟩
abbrev cX6_fillFromEnds : ByteArray := prog_8_method_7_code
def yX6_fillFromEnds : MethodName := ⟨RX6, "fillFromEnds", "(III)V"⟩
abbrev cX6_fillFromPairs : ByteArray := prog_8_method_8_code
def yX6_fillFromPairs : MethodName := ⟨RX6, "fillFromPairs", "(IZII)V"⟩
abbrev cX6_fillFromCorners : ByteArray := prog_8_method_9_code
def yX6_fillFromCorners : MethodName := ⟨RX6, "fillFromCorners", "(IIII)V"⟩
abbrev cX6_cornersTellTooLittle : ByteArray := prog_8_method_10_code
def yX6_cornersTellTooLittle : MethodName := ⟨RX6, "cornersTellTooLittle", "(III)Z"⟩
abbrev cX6_fillRemainder : ByteArray := prog_8_method_11_code
def yX6_fillRemainder : MethodName := ⟨RX6, "fillRemainder", "(III)V"⟩
abbrev cX6_isPoint : ByteArray := prog_8_method_12_code
def yX6_isPoint : MethodName := ⟨RX6, "isPoint", "(I)Z"⟩
abbrev cX6_hasZero : ByteArray := prog_8_method_13_code
def yX6_hasZero : MethodName := ⟨RX6, "hasZero", "(I)Z"⟩
abbrev cX6_endsInfinite : ByteArray := prog_8_method_14_code
def yX6_endsInfinite : MethodName := ⟨RX6, "endsInfinite", "(I)Z"⟩
def RX7 : String := "FloatSolver"
def TX7 : u_T := fun k => match k with
  | 0 => ("FloatSolver", "nodes", "LFloatSolver$Nodes;", true)
  | 1 => ("FloatSolver", "rules", "LFloatSolver$Rules;", true)
  | 2 => ("FloatSolver", "ranges", "LFloatSolver$Box;", true)
  | 3 => ("FloatSolver", "settings", "[I", true)
  | 4 => ("FloatSolver", "spans", "LFloatSolver$Spans;", true)
  | _ => ("FloatSolver", "search", "LFloatSolver$Search;", true)
def tyX7 : Nat → FieldType := fun k => match k with
  | 0 => .object "FloatSolver$Nodes"
  | 1 => .object "FloatSolver$Rules"
  | 2 => .object "FloatSolver$Box"
  | 3 => .array .int
  | 4 => .object "FloatSolver$Spans"
  | _ => .object "FloatSolver$Search"
abbrev wsX70 : List Cond := u_ws RX7 TX7 6
theorem nmX7 : ∀ a, a < 6 → ∀ b, b < 6 → a ≠ b → (TX7 a).2.1 ≠ (TX7 b).2.1 := by decide +kernel
theorem tyX7_ok : ∀ k, k < 6 → parseFieldDescriptor (TX7 k).2.2.1 = some (tyX7 k) := by decide +kernel
abbrev cX7_init : ByteArray := prog_1_method_1_code
def yX7_init : MethodName := ⟨RX7, "<init>", "()V"⟩
abbrev cX7_node : ByteArray := prog_1_method_2_code
def yX7_node : MethodName := ⟨RX7, "node", "(III)I"⟩
abbrev cX7_rule : ByteArray := prog_1_method_3_code
def yX7_rule : MethodName := ⟨RX7, "rule", "(III)I"⟩
abbrev cX7_noRules : ByteArray := prog_1_method_4_code
def yX7_noRules : MethodName := ⟨RX7, "noRules", "()I"⟩
abbrev cX7_range : ByteArray := prog_1_method_5_code
def yX7_range : MethodName := ⟨RX7, "range", "(III)I"⟩
abbrev cX7_set : ByteArray := prog_1_method_6_code
def yX7_set : MethodName := ⟨RX7, "set", "(II)I"⟩
abbrev cX7_place : ByteArray := prog_1_method_7_code
def yX7_place : MethodName := ⟨RX7, "place", "(I)J"⟩
abbrev cX7_bits : ByteArray := prog_1_method_8_code
def yX7_bits : MethodName := ⟨RX7, "bits", "(I)J"⟩
abbrev cX7_value : ByteArray := prog_1_method_9_code
def yX7_value : MethodName := ⟨RX7, "value", "(I)J"⟩
abbrev cX7_holds : ByteArray := prog_1_method_10_code
def yX7_holds : MethodName := ⟨RX7, "holds", "(I)I"⟩
abbrev cX7_span : ByteArray := prog_1_method_11_code
def yX7_span : MethodName := ⟨RX7, "span", "(II)J"⟩
abbrev cX7_judge : ByteArray := prog_1_method_12_code
def yX7_judge : MethodName := ⟨RX7, "judge", "(I)I"⟩
abbrev cX7_solve : ByteArray := prog_1_method_13_code
def yX7_solve : MethodName := ⟨RX7, "solve", "(I)I"⟩
abbrev cX7_solved : ByteArray := prog_1_method_14_code
def yX7_solved : MethodName := ⟨RX7, "solved", "(I)J"⟩
abbrev cX7_width : ByteArray := prog_1_method_15_code
def yX7_width : MethodName := ⟨RX7, "width", "(II)J"⟩
abbrev cX7_isVariable : ByteArray := prog_1_method_16_code
def yX7_isVariable : MethodName := ⟨RX7, "isVariable", "(I)Z"⟩
abbrev cX7_isPlace : ByteArray := prog_1_method_17_code
def yX7_isPlace : MethodName := ⟨RX7, "isPlace", "(I)Z"⟩
def RX8 : String := "FloatSolverModel"
def TX8 : u_T := fun k => match k with
  | 0 => ("FloatSolverModel", "thrown", "I", false)
  | 1 => ("FloatSolverModel", "nodes", "I", false)
  | 2 => ("FloatSolverModel", "kind", "[I", true)
  | 3 => ("FloatSolverModel", "opX", "[I", true)
  | 4 => ("FloatSolverModel", "opY", "[I", true)
  | 5 => ("FloatSolverModel", "rules", "I", false)
  | 6 => ("FloatSolverModel", "ruleKind", "[I", true)
  | 7 => ("FloatSolverModel", "ruleA", "[I", true)
  | 8 => ("FloatSolverModel", "ruleB", "[I", true)
  | 9 => ("FloatSolverModel", "low", "[J", true)
  | 10 => ("FloatSolverModel", "high", "[J", true)
  | 11 => ("FloatSolverModel", "var", "[J", true)
  | 12 => ("FloatSolverModel", "isSolved", "Z", false)
  | 13 => ("FloatSolverModel", "answer", "I", false)
  | 14 => ("FloatSolverModel", "looked", "I", false)
  | 15 => ("FloatSolverModel", "halved", "I", false)
  | 16 => ("FloatSolverModel", "found", "[J", true)
  | 17 => ("FloatSolverModel", "worth", "[J", true)
  | 18 => ("FloatSolverModel", "boxLow", "[J", true)
  | 19 => ("FloatSolverModel", "boxHigh", "[J", true)
  | 20 => ("FloatSolverModel", "has", "[Z", true)
  | 21 => ("FloatSolverModel", "least", "[J", true)
  | 22 => ("FloatSolverModel", "most", "[J", true)
  | 23 => ("FloatSolverModel", "mayNone", "[Z", true)
  | 24 => ("FloatSolverModel", "stack", "[J", true)
  | _ => ("FloatSolverModel", "stacked", "I", false)
def tyX8 : Nat → FieldType := fun k => match k with
  | 0 => .int
  | 1 => .int
  | 2 => .array .int
  | 3 => .array .int
  | 4 => .array .int
  | 5 => .int
  | 6 => .array .int
  | 7 => .array .int
  | 8 => .array .int
  | 9 => .array .long
  | 10 => .array .long
  | 11 => .array .long
  | 12 => .boolean
  | 13 => .int
  | 14 => .int
  | 15 => .int
  | 16 => .array .long
  | 17 => .array .long
  | 18 => .array .long
  | 19 => .array .long
  | 20 => .array .boolean
  | 21 => .array .long
  | 22 => .array .long
  | 23 => .array .boolean
  | 24 => .array .long
  | _ => .int
abbrev wsX80 : List Cond := u_ws RX8 TX8 26
theorem nmX8 : ∀ a, a < 26 → ∀ b, b < 26 → a ≠ b → (TX8 a).2.1 ≠ (TX8 b).2.1 := by decide +kernel
theorem tyX8_ok : ∀ k, k < 26 → parseFieldDescriptor (TX8 k).2.2.1 = some (tyX8 k) := by decide +kernel
abbrev cX8_init : ByteArray := prog_10_method_1_code
def yX8_init : MethodName := ⟨RX8, "<init>", "()V"⟩
abbrev cX8_thrown : ByteArray := prog_10_method_2_code
def yX8_thrown : MethodName := ⟨RX8, "thrown", "()I"⟩
abbrev cX8_in : ByteArray := prog_10_method_3_code
def yX8_in : MethodName := ⟨RX8, "in", "(JJJ)Z"⟩
abbrev cX8_magOf : ByteArray := prog_10_method_4_code
def yX8_magOf : MethodName := ⟨RX8, "magOf", "(J)J"⟩
abbrev cX8_placeOf : ByteArray := prog_10_method_5_code
def yX8_placeOf : MethodName := ⟨RX8, "placeOf", "(ZJ)J"⟩
abbrev cX8_digits : ByteArray := prog_10_method_6_code
def yX8_digits : MethodName := ⟨RX8, "digits", "(J)J"⟩
abbrev cX8_power : ByteArray := prog_10_method_7_code
def yX8_power : MethodName := ⟨RX8, "power", "(J)I"⟩
abbrev cX8_isInfinite : ByteArray := prog_10_method_8_code
def yX8_isInfinite : MethodName := ⟨RX8, "isInfinite", "(J)Z"⟩
abbrev cX8_isZero : ByteArray := prog_10_method_9_code
def yX8_isZero : MethodName := ⟨RX8, "isZero", "(J)Z"⟩
abbrev cX8_pack : ByteArray := prog_10_method_10_code
def yX8_pack : MethodName := ⟨RX8, "pack", "(ZJIZ)J"⟩
abbrev cX8_turned : ByteArray := prog_10_method_11_code
def yX8_turned : MethodName := ⟨RX8, "turned", "(J)J"⟩
abbrev cX8_plus : ByteArray := prog_10_method_12_code
def yX8_plus : MethodName := ⟨RX8, "plus", "(JJ)J"⟩
abbrev cX8_timesOf : ByteArray := prog_10_method_13_code
def yX8_timesOf : MethodName := ⟨RX8, "timesOf", "(JJ)J"⟩
abbrev cX8_byOf : ByteArray := prog_10_method_14_code
def yX8_byOf : MethodName := ⟨RX8, "byOf", "(JJ)J"⟩
abbrev cX8_restOf : ByteArray := prog_10_method_15_code
def yX8_restOf : MethodName := ⟨RX8, "restOf", "(JJ)J"⟩
abbrev cX8_rootOf : ByteArray := prog_10_method_16_code
def yX8_rootOf : MethodName := ⟨RX8, "rootOf", "(J)J"⟩
abbrev cX8_wholeOf : ByteArray := prog_10_method_17_code
def yX8_wholeOf : MethodName := ⟨RX8, "wholeOf", "(JI)J"⟩
abbrev cX8_intOf : ByteArray := prog_10_method_18_code
def yX8_intOf : MethodName := ⟨RX8, "intOf", "(J)J"⟩
abbrev cX8_valueOf : ByteArray := prog_10_method_19_code
def yX8_valueOf : MethodName := ⟨RX8, "valueOf", "(IJJ)J"⟩
abbrev cX8_number : ByteArray := prog_10_method_20_code
def yX8_number : MethodName := ⟨RX8, "number", "(J)J"⟩
abbrev cX8_fromBits : ByteArray := prog_10_method_21_code
def yX8_fromBits : MethodName := ⟨RX8, "fromBits", "(I)J"⟩
abbrev cX8_toBits : ByteArray := prog_10_method_22_code
def yX8_toBits : MethodName := ⟨RX8, "toBits", "(J)J"⟩
abbrev cX8_isNode : ByteArray := prog_10_method_23_code
def yX8_isNode : MethodName := ⟨RX8, "isNode", "(I)Z"⟩
abbrev cX8_hasTwo : ByteArray := prog_10_method_24_code
def yX8_hasTwo : MethodName := ⟨RX8, "hasTwo", "(I)Z"⟩
abbrev cX8_node : ByteArray := prog_10_method_25_code
def yX8_node : MethodName := ⟨RX8, "node", "(III)I"⟩
abbrev cX8_rule : ByteArray := prog_10_method_26_code
def yX8_rule : MethodName := ⟨RX8, "rule", "(III)I"⟩
abbrev cX8_noRules : ByteArray := prog_10_method_27_code
def yX8_noRules : MethodName := ⟨RX8, "noRules", "()I"⟩
abbrev cX8_range : ByteArray := prog_10_method_28_code
def yX8_range : MethodName := ⟨RX8, "range", "(III)I"⟩
abbrev cX8_set : ByteArray := prog_10_method_29_code
def yX8_set : MethodName := ⟨RX8, "set", "(II)I"⟩
abbrev cX8_place : ByteArray := prog_10_method_30_code
def yX8_place : MethodName := ⟨RX8, "place", "(I)J"⟩
abbrev cX8_bits : ByteArray := prog_10_method_31_code
def yX8_bits : MethodName := ⟨RX8, "bits", "(I)J"⟩
abbrev cX8_work : ByteArray := prog_10_method_32_code
def yX8_work : MethodName := ⟨RX8, "work", "(I[J)V"⟩
abbrev cX8_value : ByteArray := prog_10_method_33_code
def yX8_value : MethodName := ⟨RX8, "value", "(I)J"⟩
abbrev cX8_isTrue : ByteArray := prog_10_method_34_code
def yX8_isTrue : MethodName := ⟨RX8, "isTrue", "(I)Z"⟩
abbrev cX8_holds : ByteArray := prog_10_method_35_code
def yX8_holds : MethodName := ⟨RX8, "holds", "(I)I"⟩
abbrev cX8_tell : ByteArray := prog_10_method_36_code
def yX8_tell : MethodName := ⟨RX8, "tell", "(IZJJZ)V"⟩
abbrev cX8_all : ByteArray := prog_10_method_37_code
def yX8_all : MethodName := ⟨RX8, "all", "(I)V"⟩
abbrev cX8_hasZero : ByteArray := prog_10_method_38_code
def yX8_hasZero : MethodName := ⟨RX8, "hasZero", "(I)Z"⟩
abbrev cX8_hasInfinity : ByteArray := prog_10_method_39_code
def yX8_hasInfinity : MethodName := ⟨RX8, "hasInfinity", "(I)Z"⟩
abbrev cX8_spanOf : ByteArray := prog_10_method_40_code
def yX8_spanOf : MethodName := ⟨RX8, "spanOf", "(I)V"⟩
abbrev cX8_spanOfTwo : ByteArray := prog_10_method_41_code
def yX8_spanOfTwo : MethodName := ⟨RX8, "spanOfTwo", "(IIIIZ)V"⟩
abbrev cX8_spans : ByteArray := prog_10_method_42_code
def yX8_spans : MethodName := ⟨RX8, "spans", "()V"⟩
abbrev cX8_wholeBox : ByteArray := prog_10_method_43_code
def yX8_wholeBox : MethodName := ⟨RX8, "wholeBox", "()V"⟩
abbrev cX8_span : ByteArray := prog_10_method_44_code
def yX8_span : MethodName := ⟨RX8, "span", "(II)J"⟩
abbrev cX8_judgeOf : ByteArray := prog_10_method_45_code
def yX8_judgeOf : MethodName := ⟨RX8, "judgeOf", "(I)I"⟩
abbrev cX8_equal : ByteArray := prog_10_method_46_code
def yX8_equal : MethodName := ⟨RX8, "equal", "(II)I"⟩
abbrev cX8_judge : ByteArray := prog_10_method_47_code
def yX8_judge : MethodName := ⟨RX8, "judge", "(I)I"⟩
abbrev cX8_lay : ByteArray := prog_10_method_48_code
def yX8_lay : MethodName := ⟨RX8, "lay", "()V"⟩
abbrev cX8_lift : ByteArray := prog_10_method_49_code
def yX8_lift : MethodName := ⟨RX8, "lift", "()V"⟩
abbrev cX8_solves : ByteArray := prog_10_method_50_code
def yX8_solves : MethodName := ⟨RX8, "solves", "()V"⟩
abbrev cX8_solve : ByteArray := prog_10_method_51_code
def yX8_solve : MethodName := ⟨RX8, "solve", "(I)I"⟩
abbrev cX8_look : ByteArray := prog_10_method_52_code
def yX8_look : MethodName := ⟨RX8, "look", "()V"⟩
abbrev cX8_solved : ByteArray := prog_10_method_53_code
def yX8_solved : MethodName := ⟨RX8, "solved", "(I)J"⟩
abbrev cX8_width : ByteArray := prog_10_method_54_code
def yX8_width : MethodName := ⟨RX8, "width", "(II)J"⟩
def RJ6 : String := "java/lang/Integer"
def TJ6 : u_T := fun k => match k with
  | _ => ("", "", "", false)
def tyJ6 : Nat → FieldType := fun k => match k with
  | _ => .int
abbrev wsJ60 : List Cond := u_ws RJ6 TJ6 0
theorem nmJ6 : ∀ a, a < 0 → ∀ b, b < 0 → a ≠ b → (TJ6 a).2.1 ≠ (TJ6 b).2.1 := by decide +kernel
theorem tyJ6_ok : ∀ k, k < 0 → parseFieldDescriptor (TJ6 k).2.2.1 = some (tyJ6 k) := by decide +kernel
abbrev cJ6_compare_7cf53 : ByteArray := prog_13_method_40_code
def yJ6_compare_7cf53 : MethodName := ⟨RJ6, "compare", "(II)I"⟩
abbrev cJ6_numberOfLeadingZeros_0f7a4 : ByteArray := prog_13_method_47_code
def yJ6_numberOfLeadingZeros_0f7a4 : MethodName := ⟨RJ6, "numberOfLeadingZeros", "(I)I"⟩
def RJ13 : String := "java/lang/Long"
def TJ13 : u_T := fun k => match k with
  | _ => ("", "", "", false)
def tyJ13 : Nat → FieldType := fun k => match k with
  | _ => .int
abbrev wsJ130 : List Cond := u_ws RJ13 TJ13 0
theorem nmJ13 : ∀ a, a < 0 → ∀ b, b < 0 → a ≠ b → (TJ13 a).2.1 ≠ (TJ13 b).2.1 := by decide +kernel
theorem tyJ13_ok : ∀ k, k < 0 → parseFieldDescriptor (TJ13 k).2.2.1 = some (tyJ13 k) := by decide +kernel
abbrev cJ13_numberOfLeadingZeros_95d88 : ByteArray := prog_14_method_48_code
def yJ13_numberOfLeadingZeros_95d88 : MethodName := ⟨RJ13, "numberOfLeadingZeros", "(J)I"⟩
def RJ9 : String := "java/lang/Math"
def TJ9 : u_T := fun k => match k with
  | _ => ("", "", "", false)
def tyJ9 : Nat → FieldType := fun k => match k with
  | _ => .int
abbrev wsJ90 : List Cond := u_ws RJ9 TJ9 0
theorem nmJ9 : ∀ a, a < 0 → ∀ b, b < 0 → a ≠ b → (TJ9 a).2.1 ≠ (TJ9 b).2.1 := by decide +kernel
theorem tyJ9_ok : ∀ k, k < 0 → parseFieldDescriptor (TJ9 k).2.2.1 = some (tyJ9 k) := by decide +kernel
abbrev cJ9_abs_0f7a4 : ByteArray := prog_15_method_59_code
def yJ9_abs_0f7a4 : MethodName := ⟨RJ9, "abs", "(I)I"⟩
abbrev cJ9_abs_067f4 : ByteArray := prog_15_method_61_code
def yJ9_abs_067f4 : MethodName := ⟨RJ9, "abs", "(J)J"⟩
abbrev cJ9_max_7cf53 : ByteArray := prog_15_method_65_code
def yJ9_max_7cf53 : MethodName := ⟨RJ9, "max", "(II)I"⟩
abbrev cJ9_min_7cf53 : ByteArray := prog_15_method_69_code
def yJ9_min_7cf53 : MethodName := ⟨RJ9, "min", "(II)I"⟩
def RJ0 : String := "java/lang/String"
def TJ0 : u_T := fun k => match k with
  | _ => ("", "", "", false)
def tyJ0 : Nat → FieldType := fun k => match k with
  | _ => .int
abbrev wsJ00 : List Cond := u_ws RJ0 TJ0 0
theorem nmJ0 : ∀ a, a < 0 → ∀ b, b < 0 → a ≠ b → (TJ0 a).2.1 ≠ (TJ0 b).2.1 := by decide +kernel
theorem tyJ0_ok : ∀ k, k < 0 → parseFieldDescriptor (TJ0 k).2.2.1 = some (tyJ0 k) := by decide +kernel
def RJ7 : String := "java/util/Arrays"
def TJ7 : u_T := fun k => match k with
  | _ => ("", "", "", false)
def tyJ7 : Nat → FieldType := fun k => match k with
  | _ => .int
abbrev wsJ70 : List Cond := u_ws RJ7 TJ7 0
theorem nmJ7 : ∀ a, a < 0 → ∀ b, b < 0 → a ≠ b → (TJ7 a).2.1 ≠ (TJ7 b).2.1 := by decide +kernel
theorem tyJ7_ok : ∀ k, k < 0 → parseFieldDescriptor (TJ7 k).2.2.1 = some (tyJ7 k) := by decide +kernel
abbrev cJ7_fill_53178 : ByteArray := prog_19_method_103_code
def yJ7_fill_53178 : MethodName := ⟨RJ7, "fill", "([II)V"⟩
def RL : String := "FloatSolverLaw"
abbrev cL_width : ByteArray := method_3_code
def yL_width : MethodName := ⟨RL, "width", "(LFloatSolver;II[J)I"⟩
abbrev cL_law : ByteArray := code
def yL_law : MethodName := ⟨RL, "law", "([I)Z"⟩
theorem dX1_init_0 : decode cX1_init 0 = .ok (.aload_n 0, 1) := by decide +kernel
theorem dX1_init_1 : decode cX1_init 1 = .ok (.invokespecial 3, 3) := by decide +kernel
theorem dX1_init_4 : decode cX1_init 4 = .ok (.aload_n 0, 1) := by decide +kernel
theorem dX1_init_5 : decode cX1_init 5 = .ok (.iconst 4, 1) := by decide +kernel
theorem dX1_init_6 : decode cX1_init 6 = .ok (.newarray .int, 2) := by decide +kernel
theorem dX1_init_8 : decode cX1_init 8 = .ok (.putfield 9, 3) := by decide +kernel
theorem dX1_init_11 : decode cX1_init 11 = .ok (.aload_n 0, 1) := by decide +kernel
theorem dX1_init_12 : decode cX1_init 12 = .ok (.iconst 4, 1) := by decide +kernel
theorem dX1_init_13 : decode cX1_init 13 = .ok (.newarray .int, 2) := by decide +kernel
theorem dX1_init_15 : decode cX1_init 15 = .ok (.putfield 15, 3) := by decide +kernel
theorem dX1_init_18 : decode cX1_init 18 = .ok (.aload_n 0, 1) := by decide +kernel
theorem dX1_init_19 : decode cX1_init 19 = .ok (.getfield 9, 3) := by decide +kernel
theorem dX1_init_22 : decode cX1_init 22 = .ok (.ldc 18, 2) := by decide +kernel
theorem dX1_init_24 : decode cX1_init 24 = .ok (.invokestatic 19, 3) := by decide +kernel
theorem dX1_init_27 : decode cX1_init 27 = .ok (.aload_n 0, 1) := by decide +kernel
theorem dX1_init_28 : decode cX1_init 28 = .ok (.getfield 15, 3) := by decide +kernel
theorem dX1_init_31 : decode cX1_init 31 = .ok (.ldc 25, 2) := by decide +kernel
theorem dX1_init_33 : decode cX1_init 33 = .ok (.invokestatic 19, 3) := by decide +kernel
theorem dX1_init_36 : decode cX1_init 36 = .ok (.return_, 1) := by decide +kernel
theorem dX1_put_0 : decode cX1_put 0 = .ok (.aload_n 0, 1) := by decide +kernel
theorem dX1_put_1 : decode cX1_put 1 = .ok (.getfield 9, 3) := by decide +kernel
theorem dX1_put_4 : decode cX1_put 4 = .ok (.iload_n 1, 1) := by decide +kernel
theorem dX1_put_5 : decode cX1_put 5 = .ok (.iload_n 2, 1) := by decide +kernel
theorem dX1_put_6 : decode cX1_put 6 = .ok (.iastore, 1) := by decide +kernel
theorem dX1_put_7 : decode cX1_put 7 = .ok (.aload_n 0, 1) := by decide +kernel
theorem dX1_put_8 : decode cX1_put 8 = .ok (.getfield 15, 3) := by decide +kernel
theorem dX1_put_11 : decode cX1_put 11 = .ok (.iload_n 1, 1) := by decide +kernel
theorem dX1_put_12 : decode cX1_put 12 = .ok (.iload_n 3, 1) := by decide +kernel
theorem dX1_put_13 : decode cX1_put 13 = .ok (.iastore, 1) := by decide +kernel
theorem dX1_put_14 : decode cX1_put 14 = .ok (.return_, 1) := by decide +kernel
theorem dX1_follow_0 : decode cX1_follow 0 = .ok (.iconst 0, 1) := by decide +kernel
theorem dX1_follow_1 : decode cX1_follow 1 = .ok (.istore_n 2, 1) := by decide +kernel
theorem dX1_follow_2 : decode cX1_follow 2 = .ok (.iconst 0, 1) := by decide +kernel
theorem dX1_follow_3 : decode cX1_follow 3 = .ok (.istore_n 3, 1) := by decide +kernel
theorem dX1_follow_4 : decode cX1_follow 4 = .ok (.iload_n 3, 1) := by decide +kernel
theorem dX1_follow_5 : decode cX1_follow 5 = .ok (.iconst 4, 1) := by decide +kernel
theorem dX1_follow_6 : decode cX1_follow 6 = .ok (.if_icmp .ge 62, 3) := by decide +kernel
theorem dX1_follow_9 : decode cX1_follow 9 = .ok (.aload_n 0, 1) := by decide +kernel
theorem dX1_follow_10 : decode cX1_follow 10 = .ok (.getfield 9, 3) := by decide +kernel
theorem dX1_follow_13 : decode cX1_follow 13 = .ok (.iload_n 3, 1) := by decide +kernel
theorem dX1_follow_14 : decode cX1_follow 14 = .ok (.iaload, 1) := by decide +kernel
theorem dX1_follow_15 : decode cX1_follow 15 = .ok (.aload_n 1, 1) := by decide +kernel
theorem dX1_follow_16 : decode cX1_follow 16 = .ok (.getfield 9, 3) := by decide +kernel
theorem dX1_follow_19 : decode cX1_follow 19 = .ok (.iload_n 3, 1) := by decide +kernel
theorem dX1_follow_20 : decode cX1_follow 20 = .ok (.iaload, 1) := by decide +kernel
theorem dX1_follow_21 : decode cX1_follow 21 = .ok (.if_icmp .ne 18, 3) := by decide +kernel
theorem dX1_follow_24 : decode cX1_follow 24 = .ok (.aload_n 0, 1) := by decide +kernel
theorem dX1_follow_25 : decode cX1_follow 25 = .ok (.getfield 15, 3) := by decide +kernel
theorem dX1_follow_28 : decode cX1_follow 28 = .ok (.iload_n 3, 1) := by decide +kernel
theorem dX1_follow_29 : decode cX1_follow 29 = .ok (.iaload, 1) := by decide +kernel
theorem dX1_follow_30 : decode cX1_follow 30 = .ok (.aload_n 1, 1) := by decide +kernel
theorem dX1_follow_31 : decode cX1_follow 31 = .ok (.getfield 15, 3) := by decide +kernel
theorem dX1_follow_34 : decode cX1_follow 34 = .ok (.iload_n 3, 1) := by decide +kernel
theorem dX1_follow_35 : decode cX1_follow 35 = .ok (.iaload, 1) := by decide +kernel
theorem dX1_follow_36 : decode cX1_follow 36 = .ok (.if_icmp .eq 26, 3) := by decide +kernel
theorem dX1_follow_39 : decode cX1_follow 39 = .ok (.iload_n 2, 1) := by decide +kernel
theorem dX1_follow_40 : decode cX1_follow 40 = .ok (.iconst 1, 1) := by decide +kernel
theorem dX1_follow_41 : decode cX1_follow 41 = .ok (.iload_n 3, 1) := by decide +kernel
theorem dX1_follow_42 : decode cX1_follow 42 = .ok (.ishl, 1) := by decide +kernel
theorem dX1_follow_43 : decode cX1_follow 43 = .ok (.ior, 1) := by decide +kernel
theorem dX1_follow_44 : decode cX1_follow 44 = .ok (.istore_n 2, 1) := by decide +kernel
theorem dX1_follow_45 : decode cX1_follow 45 = .ok (.aload_n 0, 1) := by decide +kernel
theorem dX1_follow_46 : decode cX1_follow 46 = .ok (.iload_n 3, 1) := by decide +kernel
theorem dX1_follow_47 : decode cX1_follow 47 = .ok (.aload_n 1, 1) := by decide +kernel
theorem dX1_follow_48 : decode cX1_follow 48 = .ok (.getfield 9, 3) := by decide +kernel
theorem dX1_follow_51 : decode cX1_follow 51 = .ok (.iload_n 3, 1) := by decide +kernel
theorem dX1_follow_52 : decode cX1_follow 52 = .ok (.iaload, 1) := by decide +kernel
theorem dX1_follow_53 : decode cX1_follow 53 = .ok (.aload_n 1, 1) := by decide +kernel
theorem dX1_follow_54 : decode cX1_follow 54 = .ok (.getfield 15, 3) := by decide +kernel
theorem dX1_follow_57 : decode cX1_follow 57 = .ok (.iload_n 3, 1) := by decide +kernel
theorem dX1_follow_58 : decode cX1_follow 58 = .ok (.iaload, 1) := by decide +kernel
theorem dX1_follow_59 : decode cX1_follow 59 = .ok (.invokevirtual 26, 3) := by decide +kernel
theorem dX1_follow_62 : decode cX1_follow 62 = .ok (.iinc 3 1, 3) := by decide +kernel
theorem dX1_follow_65 : decode cX1_follow 65 = .ok (.goto (-61), 3) := by decide +kernel
theorem dX1_follow_68 : decode cX1_follow 68 = .ok (.iload_n 2, 1) := by decide +kernel
theorem dX1_follow_69 : decode cX1_follow 69 = .ok (.ireturn, 1) := by decide +kernel
theorem dX1_firstWide_0 : decode cX1_firstWide 0 = .ok (.iconst 0, 1) := by decide +kernel
theorem dX1_firstWide_1 : decode cX1_firstWide 1 = .ok (.istore_n 1, 1) := by decide +kernel
theorem dX1_firstWide_2 : decode cX1_firstWide 2 = .ok (.iload_n 1, 1) := by decide +kernel
theorem dX1_firstWide_3 : decode cX1_firstWide 3 = .ok (.iconst 4, 1) := by decide +kernel
theorem dX1_firstWide_4 : decode cX1_firstWide 4 = .ok (.if_icmp .ge 24, 3) := by decide +kernel
theorem dX1_firstWide_7 : decode cX1_firstWide 7 = .ok (.aload_n 0, 1) := by decide +kernel
theorem dX1_firstWide_8 : decode cX1_firstWide 8 = .ok (.getfield 9, 3) := by decide +kernel
theorem dX1_firstWide_11 : decode cX1_firstWide 11 = .ok (.iload_n 1, 1) := by decide +kernel
theorem dX1_firstWide_12 : decode cX1_firstWide 12 = .ok (.iaload, 1) := by decide +kernel
theorem dX1_firstWide_13 : decode cX1_firstWide 13 = .ok (.aload_n 0, 1) := by decide +kernel
theorem dX1_firstWide_14 : decode cX1_firstWide 14 = .ok (.getfield 15, 3) := by decide +kernel
theorem dX1_firstWide_17 : decode cX1_firstWide 17 = .ok (.iload_n 1, 1) := by decide +kernel
theorem dX1_firstWide_18 : decode cX1_firstWide 18 = .ok (.iaload, 1) := by decide +kernel
theorem dX1_firstWide_19 : decode cX1_firstWide 19 = .ok (.if_icmp .ne 9, 3) := by decide +kernel
theorem dX1_firstWide_22 : decode cX1_firstWide 22 = .ok (.iinc 1 1, 3) := by decide +kernel
theorem dX1_firstWide_25 : decode cX1_firstWide 25 = .ok (.goto (-23), 3) := by decide +kernel
theorem dX1_firstWide_28 : decode cX1_firstWide 28 = .ok (.iload_n 1, 1) := by decide +kernel
theorem dX1_firstWide_29 : decode cX1_firstWide 29 = .ok (.ireturn, 1) := by decide +kernel
theorem dX2_isNone_0 : decode cX2_isNone 0 = .ok (.iload_n 0, 1) := by decide +kernel
theorem dX2_isNone_1 : decode cX2_isNone 1 = .ok (.ldc 9, 2) := by decide +kernel
theorem dX2_isNone_3 : decode cX2_isNone 3 = .ok (.iand, 1) := by decide +kernel
theorem dX2_isNone_4 : decode cX2_isNone 4 = .ok (.ldc 10, 2) := by decide +kernel
theorem dX2_isNone_6 : decode cX2_isNone 6 = .ok (.if_icmp .le 7, 3) := by decide +kernel
theorem dX2_isNone_9 : decode cX2_isNone 9 = .ok (.iconst 1, 1) := by decide +kernel
theorem dX2_isNone_10 : decode cX2_isNone 10 = .ok (.goto 4, 3) := by decide +kernel
theorem dX2_isNone_13 : decode cX2_isNone 13 = .ok (.iconst 0, 1) := by decide +kernel
theorem dX2_isNone_14 : decode cX2_isNone 14 = .ok (.ireturn, 1) := by decide +kernel
theorem dX2_placeOf_0 : decode cX2_placeOf 0 = .ok (.iload_n 0, 1) := by decide +kernel
theorem dX2_placeOf_1 : decode cX2_placeOf 1 = .ok (.ifCond .ge 10, 3) := by decide +kernel
theorem dX2_placeOf_4 : decode cX2_placeOf 4 = .ok (.iload_n 0, 1) := by decide +kernel
theorem dX2_placeOf_5 : decode cX2_placeOf 5 = .ok (.ldc 9, 2) := by decide +kernel
theorem dX2_placeOf_7 : decode cX2_placeOf 7 = .ok (.ixor, 1) := by decide +kernel
theorem dX2_placeOf_8 : decode cX2_placeOf 8 = .ok (.goto 4, 3) := by decide +kernel
theorem dX2_placeOf_11 : decode cX2_placeOf 11 = .ok (.iload_n 0, 1) := by decide +kernel
theorem dX2_placeOf_12 : decode cX2_placeOf 12 = .ok (.ireturn, 1) := by decide +kernel
theorem dX2_bitsAt_0 : decode cX2_bitsAt 0 = .ok (.iload_n 0, 1) := by decide +kernel
theorem dX2_bitsAt_1 : decode cX2_bitsAt 1 = .ok (.ifCond .ge 10, 3) := by decide +kernel
theorem dX2_bitsAt_4 : decode cX2_bitsAt 4 = .ok (.iload_n 0, 1) := by decide +kernel
theorem dX2_bitsAt_5 : decode cX2_bitsAt 5 = .ok (.ldc 9, 2) := by decide +kernel
theorem dX2_bitsAt_7 : decode cX2_bitsAt 7 = .ok (.ixor, 1) := by decide +kernel
theorem dX2_bitsAt_8 : decode cX2_bitsAt 8 = .ok (.goto 4, 3) := by decide +kernel
theorem dX2_bitsAt_11 : decode cX2_bitsAt 11 = .ok (.iload_n 0, 1) := by decide +kernel
theorem dX2_bitsAt_12 : decode cX2_bitsAt 12 = .ok (.ireturn, 1) := by decide +kernel
theorem dX3_init_0 : decode cX3_init 0 = .ok (.aload_n 0, 1) := by decide +kernel
theorem dX3_init_1 : decode cX3_init 1 = .ok (.invokespecial 3, 3) := by decide +kernel
theorem dX3_init_4 : decode cX3_init 4 = .ok (.aload_n 0, 1) := by decide +kernel
theorem dX3_init_5 : decode cX3_init 5 = .ok (.bipush 40, 2) := by decide +kernel
theorem dX3_init_7 : decode cX3_init 7 = .ok (.newarray .int, 2) := by decide +kernel
theorem dX3_init_9 : decode cX3_init 9 = .ok (.putfield 9, 3) := by decide +kernel
theorem dX3_init_12 : decode cX3_init 12 = .ok (.aload_n 0, 1) := by decide +kernel
theorem dX3_init_13 : decode cX3_init 13 = .ok (.bipush 40, 2) := by decide +kernel
theorem dX3_init_15 : decode cX3_init 15 = .ok (.newarray .int, 2) := by decide +kernel
theorem dX3_init_17 : decode cX3_init 17 = .ok (.putfield 15, 3) := by decide +kernel
theorem dX3_init_20 : decode cX3_init 20 = .ok (.aload_n 0, 1) := by decide +kernel
theorem dX3_init_21 : decode cX3_init 21 = .ok (.bipush 40, 2) := by decide +kernel
theorem dX3_init_23 : decode cX3_init 23 = .ok (.newarray .int, 2) := by decide +kernel
theorem dX3_init_25 : decode cX3_init 25 = .ok (.putfield 18, 3) := by decide +kernel
theorem dX3_init_28 : decode cX3_init 28 = .ok (.aload_n 0, 1) := by decide +kernel
theorem dX3_init_29 : decode cX3_init 29 = .ok (.bipush 40, 2) := by decide +kernel
theorem dX3_init_31 : decode cX3_init 31 = .ok (.newarray .int, 2) := by decide +kernel
theorem dX3_init_33 : decode cX3_init 33 = .ok (.putfield 21, 3) := by decide +kernel
theorem dX3_init_36 : decode cX3_init 36 = .ok (.aload_n 0, 1) := by decide +kernel
theorem dX3_init_37 : decode cX3_init 37 = .ok (.bipush 40, 2) := by decide +kernel
theorem dX3_init_39 : decode cX3_init 39 = .ok (.newarray .long, 2) := by decide +kernel
theorem dX3_init_41 : decode cX3_init 41 = .ok (.putfield 24, 3) := by decide +kernel
theorem dX3_init_44 : decode cX3_init 44 = .ok (.aload_n 0, 1) := by decide +kernel
theorem dX3_init_45 : decode cX3_init 45 = .ok (.iconst 4, 1) := by decide +kernel
theorem dX3_init_46 : decode cX3_init 46 = .ok (.newarray .long, 2) := by decide +kernel
theorem dX3_init_48 : decode cX3_init 48 = .ok (.putfield 28, 3) := by decide +kernel
theorem dX3_init_51 : decode cX3_init 51 = .ok (.aload_n 0, 1) := by decide +kernel
theorem dX3_init_52 : decode cX3_init 52 = .ok (.iconst 0, 1) := by decide +kernel
theorem dX3_init_53 : decode cX3_init 53 = .ok (.putfield 31, 3) := by decide +kernel
theorem dX3_init_56 : decode cX3_init 56 = .ok (.return_, 1) := by decide +kernel
theorem dX3_looksAtX_0 : decode cX3_looksAtX 0 = .ok (.iload_n 0, 1) := by decide +kernel
theorem dX3_looksAtX_1 : decode cX3_looksAtX 1 = .ok (.iconst 2, 1) := by decide +kernel
theorem dX3_looksAtX_2 : decode cX3_looksAtX 2 = .ok (.if_icmp .lt 13, 3) := by decide +kernel
theorem dX3_looksAtX_5 : decode cX3_looksAtX 5 = .ok (.iload_n 0, 1) := by decide +kernel
theorem dX3_looksAtX_6 : decode cX3_looksAtX 6 = .ok (.bipush 15, 2) := by decide +kernel
theorem dX3_looksAtX_8 : decode cX3_looksAtX 8 = .ok (.if_icmp .gt 7, 3) := by decide +kernel
theorem dX3_looksAtX_11 : decode cX3_looksAtX 11 = .ok (.iconst 1, 1) := by decide +kernel
theorem dX3_looksAtX_12 : decode cX3_looksAtX 12 = .ok (.goto 4, 3) := by decide +kernel
theorem dX3_looksAtX_15 : decode cX3_looksAtX 15 = .ok (.iconst 0, 1) := by decide +kernel
theorem dX3_looksAtX_16 : decode cX3_looksAtX 16 = .ok (.ireturn, 1) := by decide +kernel
theorem dX3_looksAtY_0 : decode cX3_looksAtY 0 = .ok (.iload_n 0, 1) := by decide +kernel
theorem dX3_looksAtY_1 : decode cX3_looksAtY 1 = .ok (.tableswitch 69 2 14 #[67, 67, 67, 67, 69, 69, 67, 67, 69, 69, 69, 69, 67], 67) := by decide +kernel
theorem dX3_looksAtY_68 : decode cX3_looksAtY 68 = .ok (.iconst 1, 1) := by decide +kernel
theorem dX3_looksAtY_69 : decode cX3_looksAtY 69 = .ok (.ireturn, 1) := by decide +kernel
theorem dX3_looksAtY_70 : decode cX3_looksAtY 70 = .ok (.iconst 0, 1) := by decide +kernel
theorem dX3_looksAtY_71 : decode cX3_looksAtY 71 = .ok (.ireturn, 1) := by decide +kernel
theorem dX3_has_0 : decode cX3_has 0 = .ok (.iload_n 1, 1) := by decide +kernel
theorem dX3_has_1 : decode cX3_has 1 = .ok (.ifCond .lt 15, 3) := by decide +kernel
theorem dX3_has_4 : decode cX3_has 4 = .ok (.iload_n 1, 1) := by decide +kernel
theorem dX3_has_5 : decode cX3_has 5 = .ok (.aload_n 0, 1) := by decide +kernel
theorem dX3_has_6 : decode cX3_has 6 = .ok (.getfield 31, 3) := by decide +kernel
theorem dX3_has_9 : decode cX3_has 9 = .ok (.if_icmp .ge 7, 3) := by decide +kernel
theorem dX3_has_12 : decode cX3_has 12 = .ok (.iconst 1, 1) := by decide +kernel
theorem dX3_has_13 : decode cX3_has 13 = .ok (.goto 4, 3) := by decide +kernel
theorem dX3_has_16 : decode cX3_has 16 = .ok (.iconst 0, 1) := by decide +kernel
theorem dX3_has_17 : decode cX3_has 17 = .ok (.ireturn, 1) := by decide +kernel
theorem dX3_add_0 : decode cX3_add 0 = .ok (.aload_n 0, 1) := by decide +kernel
theorem dX3_add_1 : decode cX3_add 1 = .ok (.getfield 9, 3) := by decide +kernel
theorem dX3_add_4 : decode cX3_add 4 = .ok (.aload_n 0, 1) := by decide +kernel
theorem dX3_add_5 : decode cX3_add 5 = .ok (.getfield 31, 3) := by decide +kernel
theorem dX3_add_8 : decode cX3_add 8 = .ok (.iload_n 1, 1) := by decide +kernel
theorem dX3_add_9 : decode cX3_add 9 = .ok (.iastore, 1) := by decide +kernel
theorem dX3_add_10 : decode cX3_add 10 = .ok (.aload_n 0, 1) := by decide +kernel
theorem dX3_add_11 : decode cX3_add 11 = .ok (.getfield 15, 3) := by decide +kernel
theorem dX3_add_14 : decode cX3_add 14 = .ok (.aload_n 0, 1) := by decide +kernel
theorem dX3_add_15 : decode cX3_add 15 = .ok (.getfield 31, 3) := by decide +kernel
theorem dX3_add_18 : decode cX3_add 18 = .ok (.iload_n 1, 1) := by decide +kernel
theorem dX3_add_19 : decode cX3_add 19 = .ok (.ifCond .ne 15, 3) := by decide +kernel
theorem dX3_add_22 : decode cX3_add 22 = .ok (.iload_n 2, 1) := by decide +kernel
theorem dX3_add_23 : decode cX3_add 23 = .ok (.invokestatic 35, 3) := by decide +kernel
theorem dX3_add_26 : decode cX3_add 26 = .ok (.ifCond .eq 8, 3) := by decide +kernel
theorem dX3_add_29 : decode cX3_add 29 = .ok (.ldc 41, 2) := by decide +kernel
theorem dX3_add_31 : decode cX3_add 31 = .ok (.goto 4, 3) := by decide +kernel
theorem dX3_add_34 : decode cX3_add 34 = .ok (.iload_n 2, 1) := by decide +kernel
theorem dX3_add_35 : decode cX3_add 35 = .ok (.iastore, 1) := by decide +kernel
theorem dX3_add_36 : decode cX3_add 36 = .ok (.aload_n 0, 1) := by decide +kernel
theorem dX3_add_37 : decode cX3_add 37 = .ok (.getfield 18, 3) := by decide +kernel
theorem dX3_add_40 : decode cX3_add 40 = .ok (.aload_n 0, 1) := by decide +kernel
theorem dX3_add_41 : decode cX3_add 41 = .ok (.getfield 31, 3) := by decide +kernel
theorem dX3_add_44 : decode cX3_add 44 = .ok (.iload_n 1, 1) := by decide +kernel
theorem dX3_add_45 : decode cX3_add 45 = .ok (.invokestatic 42, 3) := by decide +kernel
theorem dX3_add_48 : decode cX3_add 48 = .ok (.ifCond .eq 7, 3) := by decide +kernel
theorem dX3_add_51 : decode cX3_add 51 = .ok (.iload_n 3, 1) := by decide +kernel
theorem dX3_add_52 : decode cX3_add 52 = .ok (.goto 4, 3) := by decide +kernel
theorem dX3_add_55 : decode cX3_add 55 = .ok (.iload_n 2, 1) := by decide +kernel
theorem dX3_add_56 : decode cX3_add 56 = .ok (.iastore, 1) := by decide +kernel
theorem dX3_add_57 : decode cX3_add 57 = .ok (.aload_n 0, 1) := by decide +kernel
theorem dX3_add_58 : decode cX3_add 58 = .ok (.aload_n 0, 1) := by decide +kernel
theorem dX3_add_59 : decode cX3_add 59 = .ok (.getfield 31, 3) := by decide +kernel
theorem dX3_add_62 : decode cX3_add 62 = .ok (.invokevirtual 45, 3) := by decide +kernel
theorem dX3_add_65 : decode cX3_add 65 = .ok (.aload_n 0, 1) := by decide +kernel
theorem dX3_add_66 : decode cX3_add 66 = .ok (.dup, 1) := by decide +kernel
theorem dX3_add_67 : decode cX3_add 67 = .ok (.getfield 31, 3) := by decide +kernel
theorem dX3_add_70 : decode cX3_add 70 = .ok (.iconst 1, 1) := by decide +kernel
theorem dX3_add_71 : decode cX3_add 71 = .ok (.iadd, 1) := by decide +kernel
theorem dX3_add_72 : decode cX3_add 72 = .ok (.putfield 31, 3) := by decide +kernel
theorem dX3_add_75 : decode cX3_add 75 = .ok (.aload_n 0, 1) := by decide +kernel
theorem dX3_add_76 : decode cX3_add 76 = .ok (.getfield 31, 3) := by decide +kernel
theorem dX3_add_79 : decode cX3_add 79 = .ok (.iconst 1, 1) := by decide +kernel
theorem dX3_add_80 : decode cX3_add 80 = .ok (.isub, 1) := by decide +kernel
theorem dX3_add_81 : decode cX3_add 81 = .ok (.ireturn, 1) := by decide +kernel
theorem dX3_link_0 : decode cX3_link 0 = .ok (.lconst 1, 1) := by decide +kernel
theorem dX3_link_1 : decode cX3_link 1 = .ok (.iload_n 1, 1) := by decide +kernel
theorem dX3_link_2 : decode cX3_link 2 = .ok (.lshl, 1) := by decide +kernel
theorem dX3_link_3 : decode cX3_link 3 = .ok (.lstore_n 2, 1) := by decide +kernel
theorem dX3_link_4 : decode cX3_link 4 = .ok (.aload_n 0, 1) := by decide +kernel
theorem dX3_link_5 : decode cX3_link 5 = .ok (.getfield 24, 3) := by decide +kernel
theorem dX3_link_8 : decode cX3_link 8 = .ok (.iload_n 1, 1) := by decide +kernel
theorem dX3_link_9 : decode cX3_link 9 = .ok (.aload_n 0, 1) := by decide +kernel
theorem dX3_link_10 : decode cX3_link 10 = .ok (.getfield 9, 3) := by decide +kernel
theorem dX3_link_13 : decode cX3_link 13 = .ok (.iload_n 1, 1) := by decide +kernel
theorem dX3_link_14 : decode cX3_link 14 = .ok (.iaload, 1) := by decide +kernel
theorem dX3_link_15 : decode cX3_link 15 = .ok (.invokestatic 49, 3) := by decide +kernel
theorem dX3_link_18 : decode cX3_link 18 = .ok (.ifCond .eq 31, 3) := by decide +kernel
theorem dX3_link_21 : decode cX3_link 21 = .ok (.lload_n 2, 1) := by decide +kernel
theorem dX3_link_22 : decode cX3_link 22 = .ok (.aload_n 0, 1) := by decide +kernel
theorem dX3_link_23 : decode cX3_link 23 = .ok (.getfield 24, 3) := by decide +kernel
theorem dX3_link_26 : decode cX3_link 26 = .ok (.aload_n 0, 1) := by decide +kernel
theorem dX3_link_27 : decode cX3_link 27 = .ok (.getfield 15, 3) := by decide +kernel
theorem dX3_link_30 : decode cX3_link 30 = .ok (.iload_n 1, 1) := by decide +kernel
theorem dX3_link_31 : decode cX3_link 31 = .ok (.iaload, 1) := by decide +kernel
theorem dX3_link_32 : decode cX3_link 32 = .ok (.laload, 1) := by decide +kernel
theorem dX3_link_33 : decode cX3_link 33 = .ok (.lor, 1) := by decide +kernel
theorem dX3_link_34 : decode cX3_link 34 = .ok (.aload_n 0, 1) := by decide +kernel
theorem dX3_link_35 : decode cX3_link 35 = .ok (.getfield 24, 3) := by decide +kernel
theorem dX3_link_38 : decode cX3_link 38 = .ok (.aload_n 0, 1) := by decide +kernel
theorem dX3_link_39 : decode cX3_link 39 = .ok (.getfield 18, 3) := by decide +kernel
theorem dX3_link_42 : decode cX3_link 42 = .ok (.iload_n 1, 1) := by decide +kernel
theorem dX3_link_43 : decode cX3_link 43 = .ok (.iaload, 1) := by decide +kernel
theorem dX3_link_44 : decode cX3_link 44 = .ok (.laload, 1) := by decide +kernel
theorem dX3_link_45 : decode cX3_link 45 = .ok (.lor, 1) := by decide +kernel
theorem dX3_link_46 : decode cX3_link 46 = .ok (.goto 4, 3) := by decide +kernel
theorem dX3_link_49 : decode cX3_link 49 = .ok (.lload_n 2, 1) := by decide +kernel
theorem dX3_link_50 : decode cX3_link 50 = .ok (.lastore, 1) := by decide +kernel
theorem dX3_link_51 : decode cX3_link 51 = .ok (.aload_n 0, 1) := by decide +kernel
theorem dX3_link_52 : decode cX3_link 52 = .ok (.getfield 9, 3) := by decide +kernel
theorem dX3_link_55 : decode cX3_link 55 = .ok (.iload_n 1, 1) := by decide +kernel
theorem dX3_link_56 : decode cX3_link 56 = .ok (.iaload, 1) := by decide +kernel
theorem dX3_link_57 : decode cX3_link 57 = .ok (.iconst 1, 1) := by decide +kernel
theorem dX3_link_58 : decode cX3_link 58 = .ok (.if_icmp .ne 18, 3) := by decide +kernel
theorem dX3_link_61 : decode cX3_link 61 = .ok (.aload_n 0, 1) := by decide +kernel
theorem dX3_link_62 : decode cX3_link 62 = .ok (.getfield 28, 3) := by decide +kernel
theorem dX3_link_65 : decode cX3_link 65 = .ok (.aload_n 0, 1) := by decide +kernel
theorem dX3_link_66 : decode cX3_link 66 = .ok (.getfield 15, 3) := by decide +kernel
theorem dX3_link_69 : decode cX3_link 69 = .ok (.iload_n 1, 1) := by decide +kernel
theorem dX3_link_70 : decode cX3_link 70 = .ok (.iaload, 1) := by decide +kernel
theorem dX3_link_71 : decode cX3_link 71 = .ok (.dup2, 1) := by decide +kernel
theorem dX3_link_72 : decode cX3_link 72 = .ok (.laload, 1) := by decide +kernel
theorem dX3_link_73 : decode cX3_link 73 = .ok (.lload_n 2, 1) := by decide +kernel
theorem dX3_link_74 : decode cX3_link 74 = .ok (.lor, 1) := by decide +kernel
theorem dX3_link_75 : decode cX3_link 75 = .ok (.lastore, 1) := by decide +kernel
theorem dX3_link_76 : decode cX3_link 76 = .ok (.iconst 0, 1) := by decide +kernel
theorem dX3_link_77 : decode cX3_link 77 = .ok (.istore 4, 2) := by decide +kernel
theorem dX3_link_79 : decode cX3_link 79 = .ok (.iload 4, 2) := by decide +kernel
theorem dX3_link_81 : decode cX3_link 81 = .ok (.iconst 4, 1) := by decide +kernel
theorem dX3_link_82 : decode cX3_link 82 = .ok (.if_icmp .ge 39, 3) := by decide +kernel
theorem dX3_link_85 : decode cX3_link 85 = .ok (.aload_n 0, 1) := by decide +kernel
theorem dX3_link_86 : decode cX3_link 86 = .ok (.getfield 28, 3) := by decide +kernel
theorem dX3_link_89 : decode cX3_link 89 = .ok (.iload 4, 2) := by decide +kernel
theorem dX3_link_91 : decode cX3_link 91 = .ok (.laload, 1) := by decide +kernel
theorem dX3_link_92 : decode cX3_link 92 = .ok (.aload_n 0, 1) := by decide +kernel
theorem dX3_link_93 : decode cX3_link 93 = .ok (.getfield 24, 3) := by decide +kernel
theorem dX3_link_96 : decode cX3_link 96 = .ok (.iload_n 1, 1) := by decide +kernel
theorem dX3_link_97 : decode cX3_link 97 = .ok (.laload, 1) := by decide +kernel
theorem dX3_link_98 : decode cX3_link 98 = .ok (.land, 1) := by decide +kernel
theorem dX3_link_99 : decode cX3_link 99 = .ok (.lconst 0, 1) := by decide +kernel
theorem dX3_link_100 : decode cX3_link 100 = .ok (.lcmp, 1) := by decide +kernel
theorem dX3_link_101 : decode cX3_link 101 = .ok (.ifCond .eq 14, 3) := by decide +kernel
theorem dX3_link_104 : decode cX3_link 104 = .ok (.aload_n 0, 1) := by decide +kernel
theorem dX3_link_105 : decode cX3_link 105 = .ok (.getfield 28, 3) := by decide +kernel
theorem dX3_link_108 : decode cX3_link 108 = .ok (.iload 4, 2) := by decide +kernel
theorem dX3_link_110 : decode cX3_link 110 = .ok (.dup2, 1) := by decide +kernel
theorem dX3_link_111 : decode cX3_link 111 = .ok (.laload, 1) := by decide +kernel
theorem dX3_link_112 : decode cX3_link 112 = .ok (.lload_n 2, 1) := by decide +kernel
theorem dX3_link_113 : decode cX3_link 113 = .ok (.lor, 1) := by decide +kernel
theorem dX3_link_114 : decode cX3_link 114 = .ok (.lastore, 1) := by decide +kernel
theorem dX3_link_115 : decode cX3_link 115 = .ok (.iinc 4 1, 3) := by decide +kernel
theorem dX3_link_118 : decode cX3_link 118 = .ok (.goto (-39), 3) := by decide +kernel
theorem dX3_link_121 : decode cX3_link 121 = .ok (.return_, 1) := by decide +kernel
theorem dX4_init_0 : decode cX4_init 0 = .ok (.aload_n 0, 1) := by decide +kernel
theorem dX4_init_1 : decode cX4_init 1 = .ok (.invokespecial 3, 3) := by decide +kernel
theorem dX4_init_4 : decode cX4_init 4 = .ok (.aload_n 0, 1) := by decide +kernel
theorem dX4_init_5 : decode cX4_init 5 = .ok (.bipush 12, 2) := by decide +kernel
theorem dX4_init_7 : decode cX4_init 7 = .ok (.newarray .int, 2) := by decide +kernel
theorem dX4_init_9 : decode cX4_init 9 = .ok (.putfield 9, 3) := by decide +kernel
theorem dX4_init_12 : decode cX4_init 12 = .ok (.aload_n 0, 1) := by decide +kernel
theorem dX4_init_13 : decode cX4_init 13 = .ok (.bipush 12, 2) := by decide +kernel
theorem dX4_init_15 : decode cX4_init 15 = .ok (.newarray .int, 2) := by decide +kernel
theorem dX4_init_17 : decode cX4_init 17 = .ok (.putfield 15, 3) := by decide +kernel
theorem dX4_init_20 : decode cX4_init 20 = .ok (.aload_n 0, 1) := by decide +kernel
theorem dX4_init_21 : decode cX4_init 21 = .ok (.bipush 12, 2) := by decide +kernel
theorem dX4_init_23 : decode cX4_init 23 = .ok (.newarray .int, 2) := by decide +kernel
theorem dX4_init_25 : decode cX4_init 25 = .ok (.putfield 18, 3) := by decide +kernel
theorem dX4_init_28 : decode cX4_init 28 = .ok (.aload_n 0, 1) := by decide +kernel
theorem dX4_init_29 : decode cX4_init 29 = .ok (.iconst 0, 1) := by decide +kernel
theorem dX4_init_30 : decode cX4_init 30 = .ok (.putfield 21, 3) := by decide +kernel
theorem dX4_init_33 : decode cX4_init 33 = .ok (.return_, 1) := by decide +kernel
theorem dX4_has_0 : decode cX4_has 0 = .ok (.iload_n 1, 1) := by decide +kernel
theorem dX4_has_1 : decode cX4_has 1 = .ok (.ifCond .lt 15, 3) := by decide +kernel
theorem dX4_has_4 : decode cX4_has 4 = .ok (.iload_n 1, 1) := by decide +kernel
theorem dX4_has_5 : decode cX4_has 5 = .ok (.aload_n 0, 1) := by decide +kernel
theorem dX4_has_6 : decode cX4_has 6 = .ok (.getfield 21, 3) := by decide +kernel
theorem dX4_has_9 : decode cX4_has 9 = .ok (.if_icmp .ge 7, 3) := by decide +kernel
theorem dX4_has_12 : decode cX4_has 12 = .ok (.iconst 1, 1) := by decide +kernel
theorem dX4_has_13 : decode cX4_has 13 = .ok (.goto 4, 3) := by decide +kernel
theorem dX4_has_16 : decode cX4_has 16 = .ok (.iconst 0, 1) := by decide +kernel
theorem dX4_has_17 : decode cX4_has 17 = .ok (.ireturn, 1) := by decide +kernel
theorem dX4_clear_0 : decode cX4_clear 0 = .ok (.aload_n 0, 1) := by decide +kernel
theorem dX4_clear_1 : decode cX4_clear 1 = .ok (.getfield 21, 3) := by decide +kernel
theorem dX4_clear_4 : decode cX4_clear 4 = .ok (.istore_n 1, 1) := by decide +kernel
theorem dX4_clear_5 : decode cX4_clear 5 = .ok (.aload_n 0, 1) := by decide +kernel
theorem dX4_clear_6 : decode cX4_clear 6 = .ok (.iconst 0, 1) := by decide +kernel
theorem dX4_clear_7 : decode cX4_clear 7 = .ok (.putfield 21, 3) := by decide +kernel
theorem dX4_clear_10 : decode cX4_clear 10 = .ok (.iload_n 1, 1) := by decide +kernel
theorem dX4_clear_11 : decode cX4_clear 11 = .ok (.ireturn, 1) := by decide +kernel
theorem dX4_allRestOn_0 : decode cX4_allRestOn 0 = .ok (.lconst 0, 1) := by decide +kernel
theorem dX4_allRestOn_1 : decode cX4_allRestOn 1 = .ok (.lstore_n 2, 1) := by decide +kernel
theorem dX4_allRestOn_2 : decode cX4_allRestOn 2 = .ok (.iconst 0, 1) := by decide +kernel
theorem dX4_allRestOn_3 : decode cX4_allRestOn 3 = .ok (.istore 4, 2) := by decide +kernel
theorem dX4_allRestOn_5 : decode cX4_allRestOn 5 = .ok (.iload 4, 2) := by decide +kernel
theorem dX4_allRestOn_7 : decode cX4_allRestOn 7 = .ok (.aload_n 0, 1) := by decide +kernel
theorem dX4_allRestOn_8 : decode cX4_allRestOn 8 = .ok (.getfield 21, 3) := by decide +kernel
theorem dX4_allRestOn_11 : decode cX4_allRestOn 11 = .ok (.if_icmp .ge 19, 3) := by decide +kernel
theorem dX4_allRestOn_14 : decode cX4_allRestOn 14 = .ok (.lload_n 2, 1) := by decide +kernel
theorem dX4_allRestOn_15 : decode cX4_allRestOn 15 = .ok (.aload_n 0, 1) := by decide +kernel
theorem dX4_allRestOn_16 : decode cX4_allRestOn 16 = .ok (.iload 4, 2) := by decide +kernel
theorem dX4_allRestOn_18 : decode cX4_allRestOn 18 = .ok (.aload_n 1, 1) := by decide +kernel
theorem dX4_allRestOn_19 : decode cX4_allRestOn 19 = .ok (.invokevirtual 31, 3) := by decide +kernel
theorem dX4_allRestOn_22 : decode cX4_allRestOn 22 = .ok (.lor, 1) := by decide +kernel
theorem dX4_allRestOn_23 : decode cX4_allRestOn 23 = .ok (.lstore_n 2, 1) := by decide +kernel
theorem dX4_allRestOn_24 : decode cX4_allRestOn 24 = .ok (.iinc 4 1, 3) := by decide +kernel
theorem dX4_allRestOn_27 : decode cX4_allRestOn 27 = .ok (.goto (-22), 3) := by decide +kernel
theorem dX4_allRestOn_30 : decode cX4_allRestOn 30 = .ok (.lload_n 2, 1) := by decide +kernel
theorem dX4_allRestOn_31 : decode cX4_allRestOn 31 = .ok (.lreturn, 1) := by decide +kernel
theorem dX4_verdictOfAll_0 : decode cX4_verdictOfAll 0 = .ok (.iconst 1, 1) := by decide +kernel
theorem dX4_verdictOfAll_1 : decode cX4_verdictOfAll 1 = .ok (.istore_n 2, 1) := by decide +kernel
theorem dX4_verdictOfAll_2 : decode cX4_verdictOfAll 2 = .ok (.iconst 0, 1) := by decide +kernel
theorem dX4_verdictOfAll_3 : decode cX4_verdictOfAll 3 = .ok (.istore_n 3, 1) := by decide +kernel
theorem dX4_verdictOfAll_4 : decode cX4_verdictOfAll 4 = .ok (.iload_n 3, 1) := by decide +kernel
theorem dX4_verdictOfAll_5 : decode cX4_verdictOfAll 5 = .ok (.aload_n 0, 1) := by decide +kernel
theorem dX4_verdictOfAll_6 : decode cX4_verdictOfAll 6 = .ok (.getfield 21, 3) := by decide +kernel
theorem dX4_verdictOfAll_9 : decode cX4_verdictOfAll 9 = .ok (.if_icmp .ge 32, 3) := by decide +kernel
theorem dX4_verdictOfAll_12 : decode cX4_verdictOfAll 12 = .ok (.aload_n 0, 1) := by decide +kernel
theorem dX4_verdictOfAll_13 : decode cX4_verdictOfAll 13 = .ok (.iload_n 3, 1) := by decide +kernel
theorem dX4_verdictOfAll_14 : decode cX4_verdictOfAll 14 = .ok (.aload_n 1, 1) := by decide +kernel
theorem dX4_verdictOfAll_15 : decode cX4_verdictOfAll 15 = .ok (.invokevirtual 73, 3) := by decide +kernel
theorem dX4_verdictOfAll_18 : decode cX4_verdictOfAll 18 = .ok (.istore 4, 2) := by decide +kernel
theorem dX4_verdictOfAll_20 : decode cX4_verdictOfAll 20 = .ok (.iload 4, 2) := by decide +kernel
theorem dX4_verdictOfAll_22 : decode cX4_verdictOfAll 22 = .ok (.ifCond .ne 5, 3) := by decide +kernel
theorem dX4_verdictOfAll_25 : decode cX4_verdictOfAll 25 = .ok (.iconst 0, 1) := by decide +kernel
theorem dX4_verdictOfAll_26 : decode cX4_verdictOfAll 26 = .ok (.ireturn, 1) := by decide +kernel
theorem dX4_verdictOfAll_27 : decode cX4_verdictOfAll 27 = .ok (.iload 4, 2) := by decide +kernel
theorem dX4_verdictOfAll_29 : decode cX4_verdictOfAll 29 = .ok (.iconst 2, 1) := by decide +kernel
theorem dX4_verdictOfAll_30 : decode cX4_verdictOfAll 30 = .ok (.if_icmp .ne 5, 3) := by decide +kernel
theorem dX4_verdictOfAll_33 : decode cX4_verdictOfAll 33 = .ok (.iconst 2, 1) := by decide +kernel
theorem dX4_verdictOfAll_34 : decode cX4_verdictOfAll 34 = .ok (.istore_n 2, 1) := by decide +kernel
theorem dX4_verdictOfAll_35 : decode cX4_verdictOfAll 35 = .ok (.iinc 3 1, 3) := by decide +kernel
theorem dX4_verdictOfAll_38 : decode cX4_verdictOfAll 38 = .ok (.goto (-34), 3) := by decide +kernel
theorem dX4_verdictOfAll_41 : decode cX4_verdictOfAll 41 = .ok (.iload_n 2, 1) := by decide +kernel
theorem dX4_verdictOfAll_42 : decode cX4_verdictOfAll 42 = .ok (.ireturn, 1) := by decide +kernel
theorem dX5_init_0 : decode cX5_init 0 = .ok (.aload_n 0, 1) := by decide +kernel
theorem dX5_init_1 : decode cX5_init 1 = .ok (.invokespecial 3, 3) := by decide +kernel
theorem dX5_init_4 : decode cX5_init 4 = .ok (.aload_n 0, 1) := by decide +kernel
theorem dX5_init_5 : decode cX5_init 5 = .ok (.sipush 128, 3) := by decide +kernel
theorem dX5_init_8 : decode cX5_init 8 = .ok (.newarray .int, 2) := by decide +kernel
theorem dX5_init_10 : decode cX5_init 10 = .ok (.putfield 11, 3) := by decide +kernel
theorem dX5_init_13 : decode cX5_init 13 = .ok (.aload_n 0, 1) := by decide +kernel
theorem dX5_init_14 : decode cX5_init 14 = .ok (.sipush 128, 3) := by decide +kernel
theorem dX5_init_17 : decode cX5_init 17 = .ok (.newarray .int, 2) := by decide +kernel
theorem dX5_init_19 : decode cX5_init 19 = .ok (.putfield 15, 3) := by decide +kernel
theorem dX5_init_22 : decode cX5_init 22 = .ok (.aload_n 0, 1) := by decide +kernel
theorem dX5_init_23 : decode cX5_init 23 = .ok (.sipush 128, 3) := by decide +kernel
theorem dX5_init_26 : decode cX5_init 26 = .ok (.newarray .int, 2) := by decide +kernel
theorem dX5_init_28 : decode cX5_init 28 = .ok (.putfield 18, 3) := by decide +kernel
theorem dX5_init_31 : decode cX5_init 31 = .ok (.aload_n 0, 1) := by decide +kernel
theorem dX5_init_32 : decode cX5_init 32 = .ok (.iconst 0, 1) := by decide +kernel
theorem dX5_init_33 : decode cX5_init 33 = .ok (.putfield 21, 3) := by decide +kernel
theorem dX5_init_36 : decode cX5_init 36 = .ok (.aload_n 0, 1) := by decide +kernel
theorem dX5_init_37 : decode cX5_init 37 = .ok (.new 25, 3) := by decide +kernel
theorem dX5_init_40 : decode cX5_init 40 = .ok (.dup, 1) := by decide +kernel
theorem dX5_init_41 : decode cX5_init 41 = .ok (.invokespecial 27, 3) := by decide +kernel
theorem dX5_init_44 : decode cX5_init 44 = .ok (.putfield 28, 3) := by decide +kernel
theorem dX5_init_47 : decode cX5_init 47 = .ok (.aload_n 0, 1) := by decide +kernel
theorem dX5_init_48 : decode cX5_init 48 = .ok (.iconst 0, 1) := by decide +kernel
theorem dX5_init_49 : decode cX5_init 49 = .ok (.putfield 32, 3) := by decide +kernel
theorem dX5_init_52 : decode cX5_init 52 = .ok (.aload_n 0, 1) := by decide +kernel
theorem dX5_init_53 : decode cX5_init 53 = .ok (.iconst 0, 1) := by decide +kernel
theorem dX5_init_54 : decode cX5_init 54 = .ok (.putfield 36, 3) := by decide +kernel
theorem dX5_init_57 : decode cX5_init 57 = .ok (.aload_n 0, 1) := by decide +kernel
theorem dX5_init_58 : decode cX5_init 58 = .ok (.iconst 0, 1) := by decide +kernel
theorem dX5_init_59 : decode cX5_init 59 = .ok (.putfield 39, 3) := by decide +kernel
theorem dX5_init_62 : decode cX5_init 62 = .ok (.aload_n 0, 1) := by decide +kernel
theorem dX5_init_63 : decode cX5_init 63 = .ok (.iconst 0, 1) := by decide +kernel
theorem dX5_init_64 : decode cX5_init 64 = .ok (.putfield 42, 3) := by decide +kernel
theorem dX5_init_67 : decode cX5_init 67 = .ok (.aload_n 0, 1) := by decide +kernel
theorem dX5_init_68 : decode cX5_init 68 = .ok (.aload_n 1, 1) := by decide +kernel
theorem dX5_init_69 : decode cX5_init 69 = .ok (.putfield 45, 3) := by decide +kernel
theorem dX5_init_72 : decode cX5_init 72 = .ok (.aload_n 0, 1) := by decide +kernel
theorem dX5_init_73 : decode cX5_init 73 = .ok (.aload_n 2, 1) := by decide +kernel
theorem dX5_init_74 : decode cX5_init 74 = .ok (.putfield 49, 3) := by decide +kernel
theorem dX5_init_77 : decode cX5_init 77 = .ok (.aload_n 0, 1) := by decide +kernel
theorem dX5_init_78 : decode cX5_init 78 = .ok (.aload_n 3, 1) := by decide +kernel
theorem dX5_init_79 : decode cX5_init 79 = .ok (.putfield 53, 3) := by decide +kernel
theorem dX5_init_82 : decode cX5_init 82 = .ok (.aload_n 0, 1) := by decide +kernel
theorem dX5_init_83 : decode cX5_init 83 = .ok (.aload 4, 2) := by decide +kernel
theorem dX5_init_85 : decode cX5_init 85 = .ok (.putfield 57, 3) := by decide +kernel
theorem dX5_init_88 : decode cX5_init 88 = .ok (.return_, 1) := by decide +kernel
theorem dX5_run_0 : decode cX5_run 0 = .ok (.aload_n 0, 1) := by decide +kernel
theorem dX5_run_1 : decode cX5_run 1 = .ok (.invokevirtual 60, 3) := by decide +kernel
theorem dX5_run_4 : decode cX5_run 4 = .ok (.aload_n 0, 1) := by decide +kernel
theorem dX5_run_5 : decode cX5_run 5 = .ok (.getfield 49, 3) := by decide +kernel
theorem dX5_run_8 : decode cX5_run 8 = .ok (.aload_n 0, 1) := by decide +kernel
theorem dX5_run_9 : decode cX5_run 9 = .ok (.getfield 45, 3) := by decide +kernel
theorem dX5_run_12 : decode cX5_run 12 = .ok (.invokevirtual 63, 3) := by decide +kernel
theorem dX5_run_15 : decode cX5_run 15 = .ok (.lstore_n 2, 1) := by decide +kernel
theorem dX5_run_16 : decode cX5_run 16 = .ok (.iconst 0, 1) := by decide +kernel
theorem dX5_run_17 : decode cX5_run 17 = .ok (.istore 4, 2) := by decide +kernel
theorem dX5_run_19 : decode cX5_run 19 = .ok (.iload 4, 2) := by decide +kernel
theorem dX5_run_21 : decode cX5_run 21 = .ok (.iload_n 1, 1) := by decide +kernel
theorem dX5_run_22 : decode cX5_run 22 = .ok (.if_icmp .ge 123, 3) := by decide +kernel
theorem dX5_run_25 : decode cX5_run 25 = .ok (.aload_n 0, 1) := by decide +kernel
theorem dX5_run_26 : decode cX5_run 26 = .ok (.dup, 1) := by decide +kernel
theorem dX5_run_27 : decode cX5_run 27 = .ok (.getfield 39, 3) := by decide +kernel
theorem dX5_run_30 : decode cX5_run 30 = .ok (.iconst 1, 1) := by decide +kernel
theorem dX5_run_31 : decode cX5_run 31 = .ok (.iadd, 1) := by decide +kernel
theorem dX5_run_32 : decode cX5_run 32 = .ok (.putfield 39, 3) := by decide +kernel
theorem dX5_run_35 : decode cX5_run 35 = .ok (.aload_n 0, 1) := by decide +kernel
theorem dX5_run_36 : decode cX5_run 36 = .ok (.getfield 53, 3) := by decide +kernel
theorem dX5_run_39 : decode cX5_run 39 = .ok (.aload_n 0, 1) := by decide +kernel
theorem dX5_run_40 : decode cX5_run 40 = .ok (.getfield 28, 3) := by decide +kernel
theorem dX5_run_43 : decode cX5_run 43 = .ok (.lload_n 2, 1) := by decide +kernel
theorem dX5_run_44 : decode cX5_run 44 = .ok (.invokevirtual 69, 3) := by decide +kernel
theorem dX5_run_47 : decode cX5_run 47 = .ok (.aload_n 0, 1) := by decide +kernel
theorem dX5_run_48 : decode cX5_run 48 = .ok (.getfield 49, 3) := by decide +kernel
theorem dX5_run_51 : decode cX5_run 51 = .ok (.aload_n 0, 1) := by decide +kernel
theorem dX5_run_52 : decode cX5_run 52 = .ok (.getfield 53, 3) := by decide +kernel
theorem dX5_run_55 : decode cX5_run 55 = .ok (.invokevirtual 75, 3) := by decide +kernel
theorem dX5_run_58 : decode cX5_run 58 = .ok (.istore 5, 2) := by decide +kernel
theorem dX5_run_60 : decode cX5_run 60 = .ok (.aload_n 0, 1) := by decide +kernel
theorem dX5_run_61 : decode cX5_run 61 = .ok (.getfield 28, 3) := by decide +kernel
theorem dX5_run_64 : decode cX5_run 64 = .ok (.invokevirtual 79, 3) := by decide +kernel
theorem dX5_run_67 : decode cX5_run 67 = .ok (.istore 6, 2) := by decide +kernel
theorem dX5_run_69 : decode cX5_run 69 = .ok (.iload 5, 2) := by decide +kernel
theorem dX5_run_71 : decode cX5_run 71 = .ok (.iconst 2, 1) := by decide +kernel
theorem dX5_run_72 : decode cX5_run 72 = .ok (.if_icmp .ne 23, 3) := by decide +kernel
theorem dX5_run_75 : decode cX5_run 75 = .ok (.iload 6, 2) := by decide +kernel
theorem dX5_run_77 : decode cX5_run 77 = .ok (.iconst 4, 1) := by decide +kernel
theorem dX5_run_78 : decode cX5_run 78 = .ok (.if_icmp .ne 17, 3) := by decide +kernel
theorem dX5_run_81 : decode cX5_run 81 = .ok (.aload_n 0, 1) := by decide +kernel
theorem dX5_run_82 : decode cX5_run 82 = .ok (.invokevirtual 83, 3) := by decide +kernel
theorem dX5_run_85 : decode cX5_run 85 = .ok (.ifCond .eq 7, 3) := by decide +kernel
theorem dX5_run_88 : decode cX5_run 88 = .ok (.iconst 1, 1) := by decide +kernel
theorem dX5_run_89 : decode cX5_run 89 = .ok (.goto 4, 3) := by decide +kernel
theorem dX5_run_92 : decode cX5_run 92 = .ok (.iconst 0, 1) := by decide +kernel
theorem dX5_run_93 : decode cX5_run 93 = .ok (.istore 5, 2) := by decide +kernel
theorem dX5_run_95 : decode cX5_run 95 = .ok (.iload 5, 2) := by decide +kernel
theorem dX5_run_97 : decode cX5_run 97 = .ok (.iconst 1, 1) := by decide +kernel
theorem dX5_run_98 : decode cX5_run 98 = .ok (.if_icmp .ne 9, 3) := by decide +kernel
theorem dX5_run_101 : decode cX5_run 101 = .ok (.aload_n 0, 1) := by decide +kernel
theorem dX5_run_102 : decode cX5_run 102 = .ok (.iconst 1, 1) := by decide +kernel
theorem dX5_run_103 : decode cX5_run 103 = .ok (.invokevirtual 87, 3) := by decide +kernel
theorem dX5_run_106 : decode cX5_run 106 = .ok (.ireturn, 1) := by decide +kernel
theorem dX5_run_107 : decode cX5_run 107 = .ok (.iload 5, 2) := by decide +kernel
theorem dX5_run_109 : decode cX5_run 109 = .ok (.iconst 2, 1) := by decide +kernel
theorem dX5_run_110 : decode cX5_run 110 = .ok (.if_icmp .ne 12, 3) := by decide +kernel
theorem dX5_run_113 : decode cX5_run 113 = .ok (.aload_n 0, 1) := by decide +kernel
theorem dX5_run_114 : decode cX5_run 114 = .ok (.iload 6, 2) := by decide +kernel
theorem dX5_run_116 : decode cX5_run 116 = .ok (.invokevirtual 91, 3) := by decide +kernel
theorem dX5_run_119 : decode cX5_run 119 = .ok (.goto 20, 3) := by decide +kernel
theorem dX5_run_122 : decode cX5_run 122 = .ok (.aload_n 0, 1) := by decide +kernel
theorem dX5_run_123 : decode cX5_run 123 = .ok (.getfield 21, 3) := by decide +kernel
theorem dX5_run_126 : decode cX5_run 126 = .ok (.ifCond .ne 9, 3) := by decide +kernel
theorem dX5_run_129 : decode cX5_run 129 = .ok (.aload_n 0, 1) := by decide +kernel
theorem dX5_run_130 : decode cX5_run 130 = .ok (.iconst 0, 1) := by decide +kernel
theorem dX5_run_131 : decode cX5_run 131 = .ok (.invokevirtual 87, 3) := by decide +kernel
theorem dX5_run_134 : decode cX5_run 134 = .ok (.ireturn, 1) := by decide +kernel
theorem dX5_run_135 : decode cX5_run 135 = .ok (.aload_n 0, 1) := by decide +kernel
theorem dX5_run_136 : decode cX5_run 136 = .ok (.invokevirtual 95, 3) := by decide +kernel
theorem dX5_run_139 : decode cX5_run 139 = .ok (.iinc 4 1, 3) := by decide +kernel
theorem dX5_run_142 : decode cX5_run 142 = .ok (.goto (-123), 3) := by decide +kernel
theorem dX5_run_145 : decode cX5_run 145 = .ok (.aload_n 0, 1) := by decide +kernel
theorem dX5_run_146 : decode cX5_run 146 = .ok (.iconst 2, 1) := by decide +kernel
theorem dX5_run_147 : decode cX5_run 147 = .ok (.invokevirtual 87, 3) := by decide +kernel
theorem dX5_run_150 : decode cX5_run 150 = .ok (.ireturn, 1) := by decide +kernel
