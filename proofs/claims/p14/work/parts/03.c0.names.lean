def RX0 : String := "FloatSolver$Arithmetic"
def TX0 : u_T := fun k => match k with
  | _ => ("", "", "", false)
def tyX0 : Nat → FieldType := fun k => match k with
  | _ => .int
abbrev wsX00 : List Cond := u_ws RX0 TX0 0
theorem nmX0 : ∀ a, a < 0 → ∀ b, b < 0 → a ≠ b → (TX0 a).2.1 ≠ (TX0 b).2.1 := by decide +kernel
theorem tyX0_ok : ∀ k, k < 0 → parseFieldDescriptor (TX0 k).2.2.1 = some (tyX0 k) := by decide +kernel
abbrev cX0_ofOne : ByteArray := prog_2_method_2_code
def yX0_ofOne : MethodName := ⟨RX0, "ofOne", "(II)I"⟩
abbrev cX0_ofTwo : ByteArray := prog_2_method_3_code
def yX0_ofTwo : MethodName := ⟨RX0, "ofTwo", "(III)I"⟩
abbrev cX0_sum : ByteArray := prog_2_method_4_code
def yX0_sum : MethodName := ⟨RX0, "sum", "(II)I"⟩
abbrev cX0_product : ByteArray := prog_2_method_5_code
def yX0_product : MethodName := ⟨RX0, "product", "(II)I"⟩
abbrev cX0_quotient : ByteArray := prog_2_method_6_code
def yX0_quotient : MethodName := ⟨RX0, "quotient", "(II)I"⟩
abbrev cX0_remainder : ByteArray := prog_2_method_7_code
def yX0_remainder : MethodName := ⟨RX0, "remainder", "(II)I"⟩
abbrev cX0_root : ByteArray := prog_2_method_8_code
def yX0_root : MethodName := ⟨RX0, "root", "(I)I"⟩
abbrev cX0_rootDown : ByteArray := prog_2_method_9_code
def yX0_rootDown : MethodName := ⟨RX0, "rootDown", "(J)J"⟩
abbrev cX0_cut : ByteArray := prog_2_method_10_code
def yX0_cut : MethodName := ⟨RX0, "cut", "(I)I"⟩
abbrev cX0_grown : ByteArray := prog_2_method_11_code
def yX0_grown : MethodName := ⟨RX0, "grown", "(I)I"⟩
abbrev cX0_nearestWhole : ByteArray := prog_2_method_12_code
def yX0_nearestWhole : MethodName := ⟨RX0, "nearestWhole", "(I)I"⟩
abbrev cX0_unitOf : ByteArray := prog_2_method_13_code
def yX0_unitOf : MethodName := ⟨RX0, "unitOf", "(I)I"⟩
abbrev cX0_asInt : ByteArray := prog_2_method_14_code
def yX0_asInt : MethodName := ⟨RX0, "asInt", "(II)I"⟩
def RX1 : String := "FloatSolver$Box"
def TX1 : u_T := fun k => match k with
  | 0 => ("FloatSolver$Box", "low", "[I", true)
  | _ => ("FloatSolver$Box", "high", "[I", true)
def tyX1 : Nat → FieldType := fun k => match k with
  | 0 => .array .int
  | _ => .array .int
abbrev wsX10 : List Cond := u_ws RX1 TX1 2
theorem nmX1 : ∀ a, a < 2 → ∀ b, b < 2 → a ≠ b → (TX1 a).2.1 ≠ (TX1 b).2.1 := by decide +kernel
theorem tyX1_ok : ∀ k, k < 2 → parseFieldDescriptor (TX1 k).2.2.1 = some (tyX1 k) := by decide +kernel
abbrev cX1_init : ByteArray := prog_3_method_1_code
def yX1_init : MethodName := ⟨RX1, "<init>", "()V"⟩
abbrev cX1_put : ByteArray := prog_3_method_2_code
def yX1_put : MethodName := ⟨RX1, "put", "(III)V"⟩
abbrev cX1_follow : ByteArray := prog_3_method_3_code
def yX1_follow : MethodName := ⟨RX1, "follow", "(LFloatSolver$Box;)I"⟩
abbrev cX1_firstWide : ByteArray := prog_3_method_4_code
def yX1_firstWide : MethodName := ⟨RX1, "firstWide", "()I"⟩
def RX2 : String := "FloatSolver$Floats"
def TX2 : u_T := fun k => match k with
  | _ => ("", "", "", false)
def tyX2 : Nat → FieldType := fun k => match k with
  | _ => .int
abbrev wsX20 : List Cond := u_ws RX2 TX2 0
theorem nmX2 : ∀ a, a < 0 → ∀ b, b < 0 → a ≠ b → (TX2 a).2.1 ≠ (TX2 b).2.1 := by decide +kernel
theorem tyX2_ok : ∀ k, k < 0 → parseFieldDescriptor (TX2 k).2.2.1 = some (tyX2 k) := by decide +kernel
abbrev cX2_isNone : ByteArray := prog_4_method_2_code
def yX2_isNone : MethodName := ⟨RX2, "isNone", "(I)Z"⟩
abbrev cX2_placeOf : ByteArray := prog_4_method_3_code
def yX2_placeOf : MethodName := ⟨RX2, "placeOf", "(I)I"⟩
abbrev cX2_bitsAt : ByteArray := prog_4_method_4_code
def yX2_bitsAt : MethodName := ⟨RX2, "bitsAt", "(I)I"⟩
abbrev cX2_rank : ByteArray := prog_4_method_5_code
def yX2_rank : MethodName := ⟨RX2, "rank", "(I)I"⟩
abbrev cX2_significand : ByteArray := prog_4_method_6_code
def yX2_significand : MethodName := ⟨RX2, "significand", "(I)J"⟩
abbrev cX2_exponent : ByteArray := prog_4_method_7_code
def yX2_exponent : MethodName := ⟨RX2, "exponent", "(I)I"⟩
abbrev cX2_nearest : ByteArray := prog_4_method_8_code
def yX2_nearest : MethodName := ⟨RX2, "nearest", "(IJI)I"⟩
def RX3 : String := "FloatSolver$Nodes"
def TX3 : u_T := fun k => match k with
  | 0 => ("FloatSolver$Nodes", "kind", "[I", true)
  | 1 => ("FloatSolver$Nodes", "x", "[I", true)
  | 2 => ("FloatSolver$Nodes", "y", "[I", true)
  | 3 => ("FloatSolver$Nodes", "values", "[I", true)
  | 4 => ("FloatSolver$Nodes", "rests", "[J", true)
  | 5 => ("FloatSolver$Nodes", "users", "[J", true)
  | _ => ("FloatSolver$Nodes", "count", "I", false)
def tyX3 : Nat → FieldType := fun k => match k with
  | 0 => .array .int
  | 1 => .array .int
  | 2 => .array .int
  | 3 => .array .int
  | 4 => .array .long
  | 5 => .array .long
  | _ => .int
abbrev wsX30 : List Cond := u_ws RX3 TX3 7
theorem nmX3 : ∀ a, a < 7 → ∀ b, b < 7 → a ≠ b → (TX3 a).2.1 ≠ (TX3 b).2.1 := by decide +kernel
theorem tyX3_ok : ∀ k, k < 7 → parseFieldDescriptor (TX3 k).2.2.1 = some (tyX3 k) := by decide +kernel
abbrev cX3_init : ByteArray := prog_5_method_1_code
def yX3_init : MethodName := ⟨RX3, "<init>", "()V"⟩
abbrev cX3_looksAtX : ByteArray := prog_5_method_2_code
def yX3_looksAtX : MethodName := ⟨RX3, "looksAtX", "(I)Z"⟩
abbrev cX3_looksAtY : ByteArray := prog_5_method_3_code
def yX3_looksAtY : MethodName := ⟨RX3, "looksAtY", "(I)Z"⟩
abbrev cX3_has : ByteArray := prog_5_method_4_code
def yX3_has : MethodName := ⟨RX3, "has", "(I)Z"⟩
abbrev cX3_add : ByteArray := prog_5_method_5_code
def yX3_add : MethodName := ⟨RX3, "add", "(III)I"⟩
abbrev cX3_link : ByteArray := prog_5_method_6_code
def yX3_link : MethodName := ⟨RX3, "link", "(I)V"⟩
abbrev cX3_evaluate : ByteArray := prog_5_method_7_code
def yX3_evaluate : MethodName := ⟨RX3, "evaluate", "([I)V"⟩
def RX4 : String := "FloatSolver$Rules"
def TX4 : u_T := fun k => match k with
  | 0 => ("FloatSolver$Rules", "kind", "[I", true)
  | 1 => ("FloatSolver$Rules", "a", "[I", true)
  | 2 => ("FloatSolver$Rules", "b", "[I", true)
  | _ => ("FloatSolver$Rules", "count", "I", false)
def tyX4 : Nat → FieldType := fun k => match k with
  | 0 => .array .int
  | 1 => .array .int
  | 2 => .array .int
  | _ => .int
abbrev wsX40 : List Cond := u_ws RX4 TX4 4
theorem nmX4 : ∀ a, a < 4 → ∀ b, b < 4 → a ≠ b → (TX4 a).2.1 ≠ (TX4 b).2.1 := by decide +kernel
theorem tyX4_ok : ∀ k, k < 4 → parseFieldDescriptor (TX4 k).2.2.1 = some (tyX4 k) := by decide +kernel
abbrev cX4_init : ByteArray := prog_6_method_1_code
def yX4_init : MethodName := ⟨RX4, "<init>", "()V"⟩
abbrev cX4_has : ByteArray := prog_6_method_2_code
def yX4_has : MethodName := ⟨RX4, "has", "(I)Z"⟩
abbrev cX4_add : ByteArray := prog_6_method_3_code
def yX4_add : MethodName := ⟨RX4, "add", "(III)I"⟩
abbrev cX4_clear : ByteArray := prog_6_method_4_code
def yX4_clear : MethodName := ⟨RX4, "clear", "()I"⟩
abbrev cX4_restOn : ByteArray := prog_6_method_5_code
def yX4_restOn : MethodName := ⟨RX4, "restOn", "(ILFloatSolver$Nodes;)J"⟩
abbrev cX4_allRestOn : ByteArray := prog_6_method_6_code
def yX4_allRestOn : MethodName := ⟨RX4, "allRestOn", "(LFloatSolver$Nodes;)J"⟩
abbrev cX4_isTrue : ByteArray := prog_6_method_7_code
def yX4_isTrue : MethodName := ⟨RX4, "isTrue", "(I[I)Z"⟩
abbrev cX4_areTrue : ByteArray := prog_6_method_8_code
def yX4_areTrue : MethodName := ⟨RX4, "areTrue", "([I)Z"⟩
abbrev cX4_verdict : ByteArray := prog_6_method_9_code
def yX4_verdict : MethodName := ⟨RX4, "verdict", "(ILFloatSolver$Spans;)I"⟩
abbrev cX4_verdictOfAll : ByteArray := prog_6_method_10_code
def yX4_verdictOfAll : MethodName := ⟨RX4, "verdictOfAll", "(LFloatSolver$Spans;)I"⟩
abbrev cX4_turned : ByteArray := prog_6_method_11_code
def yX4_turned : MethodName := ⟨RX4, "turned", "(I)I"⟩
abbrev cX4_verdictOfOrder : ByteArray := prog_6_method_12_code
def yX4_verdictOfOrder : MethodName := ⟨RX4, "verdictOfOrder", "(ZIILFloatSolver$Spans;)I"⟩
abbrev cX4_verdictOfSame : ByteArray := prog_6_method_13_code
def yX4_verdictOfSame : MethodName := ⟨RX4, "verdictOfSame", "(IILFloatSolver$Spans;)I"⟩
abbrev cX4_verdictOfNone : ByteArray := prog_6_method_14_code
def yX4_verdictOfNone : MethodName := ⟨RX4, "verdictOfNone", "(ILFloatSolver$Spans;)I"⟩
def RX5 : String := "FloatSolver$Search"
def TX5 : u_T := fun k => match k with
  | 0 => ("FloatSolver$Search", "nodes", "LFloatSolver$Nodes;", true)
  | 1 => ("FloatSolver$Search", "rules", "LFloatSolver$Rules;", true)
  | 2 => ("FloatSolver$Search", "spans", "LFloatSolver$Spans;", true)
  | 3 => ("FloatSolver$Search", "ranges", "LFloatSolver$Box;", true)
  | 4 => ("FloatSolver$Search", "asideVariable", "[I", true)
  | 5 => ("FloatSolver$Search", "asideLow", "[I", true)
  | 6 => ("FloatSolver$Search", "asideHigh", "[I", true)
  | 7 => ("FloatSolver$Search", "aside", "I", false)
  | 8 => ("FloatSolver$Search", "box", "LFloatSolver$Box;", true)
  | 9 => ("FloatSolver$Search", "hasRun", "Z", false)
  | 10 => ("FloatSolver$Search", "answer", "I", false)
  | 11 => ("FloatSolver$Search", "looked", "I", false)
  | _ => ("FloatSolver$Search", "halved", "I", false)
def tyX5 : Nat → FieldType := fun k => match k with
  | 0 => .object "FloatSolver$Nodes"
  | 1 => .object "FloatSolver$Rules"
  | 2 => .object "FloatSolver$Spans"
  | 3 => .object "FloatSolver$Box"
  | 4 => .array .int
  | 5 => .array .int
  | 6 => .array .int
  | 7 => .int
  | 8 => .object "FloatSolver$Box"
  | 9 => .boolean
  | 10 => .int
  | 11 => .int
  | _ => .int
abbrev wsX50 : List Cond := u_ws RX5 TX5 13
theorem nmX5 : ∀ a, a < 13 → ∀ b, b < 13 → a ≠ b → (TX5 a).2.1 ≠ (TX5 b).2.1 := by decide +kernel
theorem tyX5_ok : ∀ k, k < 13 → parseFieldDescriptor (TX5 k).2.2.1 = some (tyX5 k) := by decide +kernel
abbrev cX5_init : ByteArray := prog_7_method_1_code
def yX5_init : MethodName := ⟨RX5, "<init>", "(LFloatSolver$Nodes;LFloatSolver$Rules;LFloatSolver$Spans;LFloatSolver$Box;)V"⟩
abbrev cX5_run : ByteArray := prog_7_method_2_code
def yX5_run : MethodName := ⟨RX5, "run", "(I)I"⟩
abbrev cX5_start : ByteArray := prog_7_method_3_code
def yX5_start : MethodName := ⟨RX5, "start", "()V"⟩
abbrev cX5_end : ByteArray := prog_7_method_4_code
def yX5_end : MethodName := ⟨RX5, "end", "(I)I"⟩
abbrev cX5_isTrueHere : ByteArray := prog_7_method_5_code
def yX5_isTrueHere : MethodName := ⟨RX5, "isTrueHere", "()Z"⟩
abbrev cX5_halve : ByteArray := prog_7_method_6_code
def yX5_halve : MethodName := ⟨RX5, "halve", "(I)V"⟩
abbrev cX5_takeUp : ByteArray := prog_7_method_7_code
def yX5_takeUp : MethodName := ⟨RX5, "takeUp", "()V"⟩
def RX6 : String := "FloatSolver$Spans"
def TX6 : u_T := fun k => match k with
  | 0 => ("FloatSolver$Spans", "some", "[Z", true)
  | 1 => ("FloatSolver$Spans", "none", "[Z", true)
  | 2 => ("FloatSolver$Spans", "low", "[I", true)
  | 3 => ("FloatSolver$Spans", "high", "[I", true)
  | 4 => ("FloatSolver$Spans", "nodes", "LFloatSolver$Nodes;", true)
  | 5 => ("FloatSolver$Spans", "box", "LFloatSolver$Box;", true)
  | _ => ("FloatSolver$Spans", "standing", "J", false)
def tyX6 : Nat → FieldType := fun k => match k with
  | 0 => .array .boolean
  | 1 => .array .boolean
  | 2 => .array .int
  | 3 => .array .int
  | 4 => .object "FloatSolver$Nodes"
  | 5 => .object "FloatSolver$Box"
  | _ => .long
abbrev wsX60 : List Cond := u_ws RX6 TX6 7
theorem nmX6 : ∀ a, a < 7 → ∀ b, b < 7 → a ≠ b → (TX6 a).2.1 ≠ (TX6 b).2.1 := by decide +kernel
theorem tyX6_ok : ∀ k, k < 7 → parseFieldDescriptor (TX6 k).2.2.1 = some (tyX6 k) := by decide +kernel
abbrev cX6_init : ByteArray := prog_8_method_1_code
def yX6_init : MethodName := ⟨RX6, "<init>", "(LFloatSolver$Nodes;)V"⟩
abbrev cX6_fill : ByteArray := prog_8_method_2_code
def yX6_fill : MethodName := ⟨RX6, "fill", "(LFloatSolver$Box;J)V"⟩
abbrev cX6_forget : ByteArray := prog_8_method_3_code
def yX6_forget : MethodName := ⟨RX6, "forget", "(I)V"⟩
abbrev cX6_put : ByteArray := prog_8_method_4_code
def yX6_put : MethodName := ⟨RX6, "put", "(IIIZ)V"⟩
abbrev cX6_putAll : ByteArray := prog_8_method_5_code
def yX6_putAll : MethodName := ⟨RX6, "putAll", "(I)V"⟩
abbrev cX6_putValue : ByteArray := prog_8_method_6_code
def yX6_putValue : MethodName := ⟨RX6, "putValue", "(II)V"⟩
abbrev cX6_fillFromEnds : ByteArray := prog_8_method_7_code
def yX6_fillFromEnds : MethodName := ⟨RX6, "fillFromEnds", "(III)V"⟩
abbrev cX6_fillFromPairs : ByteArray := prog_8_method_8_code
def yX6_fillFromPairs : MethodName := ⟨RX6, "fillFromPairs", "(IZII)V"⟩
abbrev cX6_fillFromCorners : ByteArray := prog_8_method_9_code
def yX6_fillFromCorners : MethodName := ⟨RX6, "fillFromCorners", "(IIII)V"⟩
abbrev cX6_cornersTellTooLittle : ByteArray := prog_8_method_10_code
def yX6_cornersTellTooLittle : MethodName := ⟨RX6, "cornersTellTooLittle", "(III)Z"⟩
abbrev cX6_fillRemainder : ByteArray := prog_8_method_11_code
def yX6_fillRemainder : MethodName := ⟨RX6, "fillRemainder", "(III)V"⟩
abbrev cX6_isPoint : ByteArray := prog_8_method_12_code
def yX6_isPoint : MethodName := ⟨RX6, "isPoint", "(I)Z"⟩
abbrev cX6_hasZero : ByteArray := prog_8_method_13_code
def yX6_hasZero : MethodName := ⟨RX6, "hasZero", "(I)Z"⟩
abbrev cX6_endsInfinite : ByteArray := prog_8_method_14_code
def yX6_endsInfinite : MethodName := ⟨RX6, "endsInfinite", "(I)Z"⟩
def RX7 : String := "FloatSolver"
def TX7 : u_T := fun k => match k with
  | 0 => ("FloatSolver", "nodes", "LFloatSolver$Nodes;", true)
  | 1 => ("FloatSolver", "rules", "LFloatSolver$Rules;", true)
  | 2 => ("FloatSolver", "ranges", "LFloatSolver$Box;", true)
  | 3 => ("FloatSolver", "settings", "[I", true)
  | 4 => ("FloatSolver", "spans", "LFloatSolver$Spans;", true)
  | _ => ("FloatSolver", "search", "LFloatSolver$Search;", true)
def tyX7 : Nat → FieldType := fun k => match k with
  | 0 => .object "FloatSolver$Nodes"
  | 1 => .object "FloatSolver$Rules"
  | 2 => .object "FloatSolver$Box"
  | 3 => .array .int
  | 4 => .object "FloatSolver$Spans"
  | _ => .object "FloatSolver$Search"
abbrev wsX70 : List Cond := u_ws RX7 TX7 6
theorem nmX7 : ∀ a, a < 6 → ∀ b, b < 6 → a ≠ b → (TX7 a).2.1 ≠ (TX7 b).2.1 := by decide +kernel
theorem tyX7_ok : ∀ k, k < 6 → parseFieldDescriptor (TX7 k).2.2.1 = some (tyX7 k) := by decide +kernel
abbrev cX7_init : ByteArray := prog_1_method_1_code
def yX7_init : MethodName := ⟨RX7, "<init>", "()V"⟩
abbrev cX7_node : ByteArray := prog_1_method_2_code
def yX7_node : MethodName := ⟨RX7, "node", "(III)I"⟩
abbrev cX7_rule : ByteArray := prog_1_method_3_code
def yX7_rule : MethodName := ⟨RX7, "rule", "(III)I"⟩
abbrev cX7_noRules : ByteArray := prog_1_method_4_code
def yX7_noRules : MethodName := ⟨RX7, "noRules", "()I"⟩
abbrev cX7_range : ByteArray := prog_1_method_5_code
def yX7_range : MethodName := ⟨RX7, "range", "(III)I"⟩
abbrev cX7_set : ByteArray := prog_1_method_6_code
def yX7_set : MethodName := ⟨RX7, "set", "(II)I"⟩
abbrev cX7_place : ByteArray := prog_1_method_7_code
def yX7_place : MethodName := ⟨RX7, "place", "(I)J"⟩
abbrev cX7_bits : ByteArray := prog_1_method_8_code
def yX7_bits : MethodName := ⟨RX7, "bits", "(I)J"⟩
abbrev cX7_value : ByteArray := prog_1_method_9_code
def yX7_value : MethodName := ⟨RX7, "value", "(I)J"⟩
abbrev cX7_holds : ByteArray := prog_1_method_10_code
def yX7_holds : MethodName := ⟨RX7, "holds", "(I)I"⟩
abbrev cX7_span : ByteArray := prog_1_method_11_code
def yX7_span : MethodName := ⟨RX7, "span", "(II)J"⟩
abbrev cX7_judge : ByteArray := prog_1_method_12_code
def yX7_judge : MethodName := ⟨RX7, "judge", "(I)I"⟩
abbrev cX7_solve : ByteArray := prog_1_method_13_code
def yX7_solve : MethodName := ⟨RX7, "solve", "(I)I"⟩
abbrev cX7_solved : ByteArray := prog_1_method_14_code
def yX7_solved : MethodName := ⟨RX7, "solved", "(I)J"⟩
abbrev cX7_width : ByteArray := prog_1_method_15_code
def yX7_width : MethodName := ⟨RX7, "width", "(II)J"⟩
abbrev cX7_isVariable : ByteArray := prog_1_method_16_code
def yX7_isVariable : MethodName := ⟨RX7, "isVariable", "(I)Z"⟩
abbrev cX7_isPlace : ByteArray := prog_1_method_17_code
def yX7_isPlace : MethodName := ⟨RX7, "isPlace", "(I)Z"⟩
def RX8 : String := "FloatSolverModel"
def TX8 : u_T := fun k => match k with
  | 0 => ("FloatSolverModel", "thrown", "I", false)
  | 1 => ("FloatSolverModel", "nodes", "I", false)
  | 2 => ("FloatSolverModel", "kind", "[I", true)
  | 3 => ("FloatSolverModel", "opX", "[I", true)
  | 4 => ("FloatSolverModel", "opY", "[I", true)
  | 5 => ("FloatSolverModel", "rules", "I", false)
  | 6 => ("FloatSolverModel", "ruleKind", "[I", true)
  | 7 => ("FloatSolverModel", "ruleA", "[I", true)
  | 8 => ("FloatSolverModel", "ruleB", "[I", true)
  | 9 => ("FloatSolverModel", "low", "[J", true)
  | 10 => ("FloatSolverModel", "high", "[J", true)
  | 11 => ("FloatSolverModel", "var", "[J", true)
  | 12 => ("FloatSolverModel", "isSolved", "Z", false)
  | 13 => ("FloatSolverModel", "answer", "I", false)
  | 14 => ("FloatSolverModel", "looked", "I", false)
  | 15 => ("FloatSolverModel", "halved", "I", false)
  | 16 => ("FloatSolverModel", "found", "[J", true)
  | 17 => ("FloatSolverModel", "worth", "[J", true)
  | 18 => ("FloatSolverModel", "boxLow", "[J", true)
  | 19 => ("FloatSolverModel", "boxHigh", "[J", true)
  | 20 => ("FloatSolverModel", "has", "[Z", true)
  | 21 => ("FloatSolverModel", "least", "[J", true)
  | 22 => ("FloatSolverModel", "most", "[J", true)
  | 23 => ("FloatSolverModel", "mayNone", "[Z", true)
  | 24 => ("FloatSolverModel", "stack", "[J", true)
  | _ => ("FloatSolverModel", "stacked", "I", false)
def tyX8 : Nat → FieldType := fun k => match k with
  | 0 => .int
  | 1 => .int
  | 2 => .array .int
  | 3 => .array .int
  | 4 => .array .int
  | 5 => .int
  | 6 => .array .int
  | 7 => .array .int
  | 8 => .array .int
  | 9 => .array .long
  | 10 => .array .long
  | 11 => .array .long
  | 12 => .boolean
  | 13 => .int
  | 14 => .int
  | 15 => .int
  | 16 => .array .long
  | 17 => .array .long
  | 18 => .array .long
  | 19 => .array .long
  | 20 => .array .boolean
  | 21 => .array .long
  | 22 => .array .long
  | 23 => .array .boolean
  | 24 => .array .long
  | _ => .int
abbrev wsX80 : List Cond := u_ws RX8 TX8 26
theorem nmX8 : ∀ a, a < 26 → ∀ b, b < 26 → a ≠ b → (TX8 a).2.1 ≠ (TX8 b).2.1 := by decide +kernel
theorem tyX8_ok : ∀ k, k < 26 → parseFieldDescriptor (TX8 k).2.2.1 = some (tyX8 k) := by decide +kernel
abbrev cX8_init : ByteArray := prog_10_method_1_code
def yX8_init : MethodName := ⟨RX8, "<init>", "()V"⟩
abbrev cX8_in : ByteArray := prog_10_method_3_code
def yX8_in : MethodName := ⟨RX8, "in", "(JJJ)Z"⟩
abbrev cX8_magOf : ByteArray := prog_10_method_4_code
def yX8_magOf : MethodName := ⟨RX8, "magOf", "(J)J"⟩
abbrev cX8_placeOf : ByteArray := prog_10_method_5_code
def yX8_placeOf : MethodName := ⟨RX8, "placeOf", "(ZJ)J"⟩
abbrev cX8_digits : ByteArray := prog_10_method_6_code
def yX8_digits : MethodName := ⟨RX8, "digits", "(J)J"⟩
abbrev cX8_power : ByteArray := prog_10_method_7_code
def yX8_power : MethodName := ⟨RX8, "power", "(J)I"⟩
abbrev cX8_isInfinite : ByteArray := prog_10_method_8_code
def yX8_isInfinite : MethodName := ⟨RX8, "isInfinite", "(J)Z"⟩
abbrev cX8_isZero : ByteArray := prog_10_method_9_code
def yX8_isZero : MethodName := ⟨RX8, "isZero", "(J)Z"⟩
abbrev cX8_pack : ByteArray := prog_10_method_10_code
def yX8_pack : MethodName := ⟨RX8, "pack", "(ZJIZ)J"⟩
abbrev cX8_turned : ByteArray := prog_10_method_11_code
def yX8_turned : MethodName := ⟨RX8, "turned", "(J)J"⟩
abbrev cX8_plus : ByteArray := prog_10_method_12_code
def yX8_plus : MethodName := ⟨RX8, "plus", "(JJ)J"⟩
abbrev cX8_timesOf : ByteArray := prog_10_method_13_code
def yX8_timesOf : MethodName := ⟨RX8, "timesOf", "(JJ)J"⟩
abbrev cX8_byOf : ByteArray := prog_10_method_14_code
def yX8_byOf : MethodName := ⟨RX8, "byOf", "(JJ)J"⟩
abbrev cX8_restOf : ByteArray := prog_10_method_15_code
def yX8_restOf : MethodName := ⟨RX8, "restOf", "(JJ)J"⟩
abbrev cX8_rootOf : ByteArray := prog_10_method_16_code
def yX8_rootOf : MethodName := ⟨RX8, "rootOf", "(J)J"⟩
abbrev cX8_wholeOf : ByteArray := prog_10_method_17_code
def yX8_wholeOf : MethodName := ⟨RX8, "wholeOf", "(JI)J"⟩
abbrev cX8_intOf : ByteArray := prog_10_method_18_code
def yX8_intOf : MethodName := ⟨RX8, "intOf", "(J)J"⟩
abbrev cX8_valueOf : ByteArray := prog_10_method_19_code
def yX8_valueOf : MethodName := ⟨RX8, "valueOf", "(IJJ)J"⟩
abbrev cX8_number : ByteArray := prog_10_method_20_code
def yX8_number : MethodName := ⟨RX8, "number", "(J)J"⟩
abbrev cX8_fromBits : ByteArray := prog_10_method_21_code
def yX8_fromBits : MethodName := ⟨RX8, "fromBits", "(I)J"⟩
abbrev cX8_toBits : ByteArray := prog_10_method_22_code
def yX8_toBits : MethodName := ⟨RX8, "toBits", "(J)J"⟩
abbrev cX8_isNode : ByteArray := prog_10_method_23_code
def yX8_isNode : MethodName := ⟨RX8, "isNode", "(I)Z"⟩
abbrev cX8_hasTwo : ByteArray := prog_10_method_24_code
def yX8_hasTwo : MethodName := ⟨RX8, "hasTwo", "(I)Z"⟩
abbrev cX8_node : ByteArray := prog_10_method_25_code
def yX8_node : MethodName := ⟨RX8, "node", "(III)I"⟩
abbrev cX8_rule : ByteArray := prog_10_method_26_code
def yX8_rule : MethodName := ⟨RX8, "rule", "(III)I"⟩
abbrev cX8_noRules : ByteArray := prog_10_method_27_code
def yX8_noRules : MethodName := ⟨RX8, "noRules", "()I"⟩
abbrev cX8_range : ByteArray := prog_10_method_28_code
def yX8_range : MethodName := ⟨RX8, "range", "(III)I"⟩
abbrev cX8_set : ByteArray := prog_10_method_29_code
def yX8_set : MethodName := ⟨RX8, "set", "(II)I"⟩
abbrev cX8_place : ByteArray := prog_10_method_30_code
def yX8_place : MethodName := ⟨RX8, "place", "(I)J"⟩
abbrev cX8_bits : ByteArray := prog_10_method_31_code
def yX8_bits : MethodName := ⟨RX8, "bits", "(I)J"⟩
abbrev cX8_work : ByteArray := prog_10_method_32_code
def yX8_work : MethodName := ⟨RX8, "work", "(I[J)V"⟩
abbrev cX8_value : ByteArray := prog_10_method_33_code
def yX8_value : MethodName := ⟨RX8, "value", "(I)J"⟩
abbrev cX8_isTrue : ByteArray := prog_10_method_34_code
def yX8_isTrue : MethodName := ⟨RX8, "isTrue", "(I)Z"⟩
abbrev cX8_holds : ByteArray := prog_10_method_35_code
def yX8_holds : MethodName := ⟨RX8, "holds", "(I)I"⟩
abbrev cX8_tell : ByteArray := prog_10_method_36_code
def yX8_tell : MethodName := ⟨RX8, "tell", "(IZJJZ)V"⟩
abbrev cX8_all : ByteArray := prog_10_method_37_code
def yX8_all : MethodName := ⟨RX8, "all", "(I)V"⟩
abbrev cX8_hasZero : ByteArray := prog_10_method_38_code
def yX8_hasZero : MethodName := ⟨RX8, "hasZero", "(I)Z"⟩
abbrev cX8_hasInfinity : ByteArray := prog_10_method_39_code
def yX8_hasInfinity : MethodName := ⟨RX8, "hasInfinity", "(I)Z"⟩
abbrev cX8_spanOf : ByteArray := prog_10_method_40_code
def yX8_spanOf : MethodName := ⟨RX8, "spanOf", "(I)V"⟩
abbrev cX8_spanOfTwo : ByteArray := prog_10_method_41_code
def yX8_spanOfTwo : MethodName := ⟨RX8, "spanOfTwo", "(IIIIZ)V"⟩
abbrev cX8_spans : ByteArray := prog_10_method_42_code
def yX8_spans : MethodName := ⟨RX8, "spans", "()V"⟩
abbrev cX8_wholeBox : ByteArray := prog_10_method_43_code
def yX8_wholeBox : MethodName := ⟨RX8, "wholeBox", "()V"⟩
abbrev cX8_span : ByteArray := prog_10_method_44_code
def yX8_span : MethodName := ⟨RX8, "span", "(II)J"⟩
abbrev cX8_judgeOf : ByteArray := prog_10_method_45_code
def yX8_judgeOf : MethodName := ⟨RX8, "judgeOf", "(I)I"⟩
abbrev cX8_equal : ByteArray := prog_10_method_46_code
def yX8_equal : MethodName := ⟨RX8, "equal", "(II)I"⟩
abbrev cX8_judge : ByteArray := prog_10_method_47_code
def yX8_judge : MethodName := ⟨RX8, "judge", "(I)I"⟩
abbrev cX8_lay : ByteArray := prog_10_method_48_code
def yX8_lay : MethodName := ⟨RX8, "lay", "()V"⟩
abbrev cX8_lift : ByteArray := prog_10_method_49_code
def yX8_lift : MethodName := ⟨RX8, "lift", "()V"⟩
abbrev cX8_solves : ByteArray := prog_10_method_50_code
def yX8_solves : MethodName := ⟨RX8, "solves", "()V"⟩
abbrev cX8_solve : ByteArray := prog_10_method_51_code
def yX8_solve : MethodName := ⟨RX8, "solve", "(I)I"⟩
abbrev cX8_look : ByteArray := prog_10_method_52_code
def yX8_look : MethodName := ⟨RX8, "look", "()V"⟩
abbrev cX8_solved : ByteArray := prog_10_method_53_code
def yX8_solved : MethodName := ⟨RX8, "solved", "(I)J"⟩
abbrev cX8_width : ByteArray := prog_10_method_54_code
def yX8_width : MethodName := ⟨RX8, "width", "(II)J"⟩
def RJ6 : String := "java/lang/Integer"
def TJ6 : u_T := fun k => match k with
  | _ => ("", "", "", false)
def tyJ6 : Nat → FieldType := fun k => match k with
  | _ => .int
abbrev wsJ60 : List Cond := u_ws RJ6 TJ6 0
theorem nmJ6 : ∀ a, a < 0 → ∀ b, b < 0 → a ≠ b → (TJ6 a).2.1 ≠ (TJ6 b).2.1 := by decide +kernel
theorem tyJ6_ok : ∀ k, k < 0 → parseFieldDescriptor (TJ6 k).2.2.1 = some (tyJ6 k) := by decide +kernel
abbrev cJ6_compare_7cf53 : ByteArray := prog_13_method_40_code
def yJ6_compare_7cf53 : MethodName := ⟨RJ6, "compare", "(II)I"⟩
abbrev cJ6_numberOfLeadingZeros_0f7a4 : ByteArray := prog_13_method_47_code
def yJ6_numberOfLeadingZeros_0f7a4 : MethodName := ⟨RJ6, "numberOfLeadingZeros", "(I)I"⟩
def RJ13 : String := "java/lang/Long"
def TJ13 : u_T := fun k => match k with
  | _ => ("", "", "", false)
def tyJ13 : Nat → FieldType := fun k => match k with
  | _ => .int
abbrev wsJ130 : List Cond := u_ws RJ13 TJ13 0
theorem nmJ13 : ∀ a, a < 0 → ∀ b, b < 0 → a ≠ b → (TJ13 a).2.1 ≠ (TJ13 b).2.1 := by decide +kernel
theorem tyJ13_ok : ∀ k, k < 0 → parseFieldDescriptor (TJ13 k).2.2.1 = some (tyJ13 k) := by decide +kernel
abbrev cJ13_numberOfLeadingZeros_95d88 : ByteArray := prog_14_method_48_code
def yJ13_numberOfLeadingZeros_95d88 : MethodName := ⟨RJ13, "numberOfLeadingZeros", "(J)I"⟩
def RJ9 : String := "java/lang/Math"
def TJ9 : u_T := fun k => match k with
  | _ => ("", "", "", false)
def tyJ9 : Nat → FieldType := fun k => match k with
  | _ => .int
abbrev wsJ90 : List Cond := u_ws RJ9 TJ9 0
theorem nmJ9 : ∀ a, a < 0 → ∀ b, b < 0 → a ≠ b → (TJ9 a).2.1 ≠ (TJ9 b).2.1 := by decide +kernel
theorem tyJ9_ok : ∀ k, k < 0 → parseFieldDescriptor (TJ9 k).2.2.1 = some (tyJ9 k) := by decide +kernel
abbrev cJ9_abs_0f7a4 : ByteArray := prog_15_method_59_code
def yJ9_abs_0f7a4 : MethodName := ⟨RJ9, "abs", "(I)I"⟩
abbrev cJ9_abs_067f4 : ByteArray := prog_15_method_61_code
def yJ9_abs_067f4 : MethodName := ⟨RJ9, "abs", "(J)J"⟩
abbrev cJ9_max_7cf53 : ByteArray := prog_15_method_65_code
def yJ9_max_7cf53 : MethodName := ⟨RJ9, "max", "(II)I"⟩
abbrev cJ9_min_7cf53 : ByteArray := prog_15_method_69_code
def yJ9_min_7cf53 : MethodName := ⟨RJ9, "min", "(II)I"⟩
def RJ0 : String := "java/lang/String"
def TJ0 : u_T := fun k => match k with
  | _ => ("", "", "", false)
def tyJ0 : Nat → FieldType := fun k => match k with
  | _ => .int
abbrev wsJ00 : List Cond := u_ws RJ0 TJ0 0
theorem nmJ0 : ∀ a, a < 0 → ∀ b, b < 0 → a ≠ b → (TJ0 a).2.1 ≠ (TJ0 b).2.1 := by decide +kernel
theorem tyJ0_ok : ∀ k, k < 0 → parseFieldDescriptor (TJ0 k).2.2.1 = some (tyJ0 k) := by decide +kernel
def RJ7 : String := "java/util/Arrays"
def TJ7 : u_T := fun k => match k with
  | _ => ("", "", "", false)
def tyJ7 : Nat → FieldType := fun k => match k with
  | _ => .int
abbrev wsJ70 : List Cond := u_ws RJ7 TJ7 0
theorem nmJ7 : ∀ a, a < 0 → ∀ b, b < 0 → a ≠ b → (TJ7 a).2.1 ≠ (TJ7 b).2.1 := by decide +kernel
theorem tyJ7_ok : ∀ k, k < 0 → parseFieldDescriptor (TJ7 k).2.2.1 = some (tyJ7 k) := by decide +kernel
abbrev cJ7_fill_53178 : ByteArray := prog_19_method_103_code
def yJ7_fill_53178 : MethodName := ⟨RJ7, "fill", "([II)V"⟩
def RL : String := "FloatSolverLaw"
abbrev cL_width : ByteArray := method_3_code
def yL_width : MethodName := ⟨RL, "width", "(LFloatSolver;II[J)I"⟩
abbrev cL_law : ByteArray := code
def yL_law : MethodName := ⟨RL, "law", "([I)Z"⟩
theorem dX0_ofOne_0 : decode cX0_ofOne 0 = .ok (.iload_n 1, 1) := by decide +kernel
theorem dX0_ofOne_1 : decode cX0_ofOne 1 = .ok (.invokestatic 9, 3) := by decide +kernel
theorem dX0_ofOne_4 : decode cX0_ofOne 4 = .ok (.ifCond .eq 16, 3) := by decide +kernel
theorem dX0_ofOne_7 : decode cX0_ofOne 7 = .ok (.iload_n 0, 1) := by decide +kernel
theorem dX0_ofOne_8 : decode cX0_ofOne 8 = .ok (.bipush 13, 2) := by decide +kernel
theorem dX0_ofOne_10 : decode cX0_ofOne 10 = .ok (.if_icmp .ne 7, 3) := by decide +kernel
theorem dX0_ofOne_13 : decode cX0_ofOne 13 = .ok (.iconst 0, 1) := by decide +kernel
theorem dX0_ofOne_14 : decode cX0_ofOne 14 = .ok (.goto 5, 3) := by decide +kernel
theorem dX0_ofOne_17 : decode cX0_ofOne 17 = .ok (.ldc 15, 2) := by decide +kernel
theorem dX0_ofOne_19 : decode cX0_ofOne 19 = .ok (.ireturn, 1) := by decide +kernel
theorem dX0_ofOne_20 : decode cX0_ofOne 20 = .ok (.iload_n 1, 1) := by decide +kernel
theorem dX0_ofOne_21 : decode cX0_ofOne 21 = .ok (.ldc 16, 2) := by decide +kernel
theorem dX0_ofOne_23 : decode cX0_ofOne 23 = .ok (.iand, 1) := by decide +kernel
theorem dX0_ofOne_24 : decode cX0_ofOne 24 = .ok (.istore_n 2, 1) := by decide +kernel
theorem dX0_ofOne_25 : decode cX0_ofOne 25 = .ok (.iload_n 1, 1) := by decide +kernel
theorem dX0_ofOne_26 : decode cX0_ofOne 26 = .ok (.ldc 17, 2) := by decide +kernel
theorem dX0_ofOne_28 : decode cX0_ofOne 28 = .ok (.iand, 1) := by decide +kernel
theorem dX0_ofOne_29 : decode cX0_ofOne 29 = .ok (.istore_n 3, 1) := by decide +kernel
theorem dX0_ofOne_30 : decode cX0_ofOne 30 = .ok (.iload_n 0, 1) := by decide +kernel
theorem dX0_ofOne_31 : decode cX0_ofOne 31 = .ok (.tableswitch 101 6 13 #[45, 50, 101, 101, 52, 70, 88, 95], 45) := by decide +kernel
theorem dX0_ofOne_76 : decode cX0_ofOne 76 = .ok (.iload_n 1, 1) := by decide +kernel
theorem dX0_ofOne_77 : decode cX0_ofOne 77 = .ok (.ldc 16, 2) := by decide +kernel
theorem dX0_ofOne_79 : decode cX0_ofOne 79 = .ok (.ixor, 1) := by decide +kernel
theorem dX0_ofOne_80 : decode cX0_ofOne 80 = .ok (.ireturn, 1) := by decide +kernel
theorem dX0_ofOne_81 : decode cX0_ofOne 81 = .ok (.iload_n 3, 1) := by decide +kernel
theorem dX0_ofOne_82 : decode cX0_ofOne 82 = .ok (.ireturn, 1) := by decide +kernel
theorem dX0_ofOne_83 : decode cX0_ofOne 83 = .ok (.iload_n 2, 1) := by decide +kernel
theorem dX0_ofOne_84 : decode cX0_ofOne 84 = .ok (.iload_n 2, 1) := by decide +kernel
theorem dX0_ofOne_85 : decode cX0_ofOne 85 = .ok (.ifCond .ne 10, 3) := by decide +kernel
theorem dX0_ofOne_88 : decode cX0_ofOne 88 = .ok (.iload_n 3, 1) := by decide +kernel
theorem dX0_ofOne_89 : decode cX0_ofOne 89 = .ok (.invokestatic 18, 3) := by decide +kernel
theorem dX0_ofOne_92 : decode cX0_ofOne 92 = .ok (.goto 7, 3) := by decide +kernel
theorem dX0_ofOne_95 : decode cX0_ofOne 95 = .ok (.iload_n 3, 1) := by decide +kernel
theorem dX0_ofOne_96 : decode cX0_ofOne 96 = .ok (.invokestatic 24, 3) := by decide +kernel
theorem dX0_ofOne_99 : decode cX0_ofOne 99 = .ok (.ior, 1) := by decide +kernel
theorem dX0_ofOne_100 : decode cX0_ofOne 100 = .ok (.ireturn, 1) := by decide +kernel
theorem dX0_ofOne_101 : decode cX0_ofOne 101 = .ok (.iload_n 2, 1) := by decide +kernel
theorem dX0_ofOne_102 : decode cX0_ofOne 102 = .ok (.iload_n 2, 1) := by decide +kernel
theorem dX0_ofOne_103 : decode cX0_ofOne 103 = .ok (.ifCond .ne 10, 3) := by decide +kernel
theorem dX0_ofOne_106 : decode cX0_ofOne 106 = .ok (.iload_n 3, 1) := by decide +kernel
theorem dX0_ofOne_107 : decode cX0_ofOne 107 = .ok (.invokestatic 24, 3) := by decide +kernel
theorem dX0_ofOne_110 : decode cX0_ofOne 110 = .ok (.goto 7, 3) := by decide +kernel
theorem dX0_ofOne_113 : decode cX0_ofOne 113 = .ok (.iload_n 3, 1) := by decide +kernel
theorem dX0_ofOne_114 : decode cX0_ofOne 114 = .ok (.invokestatic 18, 3) := by decide +kernel
theorem dX0_ofOne_117 : decode cX0_ofOne 117 = .ok (.ior, 1) := by decide +kernel
theorem dX0_ofOne_118 : decode cX0_ofOne 118 = .ok (.ireturn, 1) := by decide +kernel
theorem dX0_ofOne_119 : decode cX0_ofOne 119 = .ok (.iload_n 2, 1) := by decide +kernel
theorem dX0_ofOne_120 : decode cX0_ofOne 120 = .ok (.iload_n 3, 1) := by decide +kernel
theorem dX0_ofOne_121 : decode cX0_ofOne 121 = .ok (.invokestatic 27, 3) := by decide +kernel
theorem dX0_ofOne_124 : decode cX0_ofOne 124 = .ok (.ior, 1) := by decide +kernel
theorem dX0_ofOne_125 : decode cX0_ofOne 125 = .ok (.ireturn, 1) := by decide +kernel
theorem dX0_ofOne_126 : decode cX0_ofOne 126 = .ok (.iload_n 2, 1) := by decide +kernel
theorem dX0_ofOne_127 : decode cX0_ofOne 127 = .ok (.iload_n 3, 1) := by decide +kernel
theorem dX0_ofOne_128 : decode cX0_ofOne 128 = .ok (.invokestatic 30, 3) := by decide +kernel
theorem dX0_ofOne_131 : decode cX0_ofOne 131 = .ok (.ireturn, 1) := by decide +kernel
theorem dX0_ofOne_132 : decode cX0_ofOne 132 = .ok (.iload_n 1, 1) := by decide +kernel
theorem dX0_ofOne_133 : decode cX0_ofOne 133 = .ok (.invokestatic 34, 3) := by decide +kernel
theorem dX0_ofOne_136 : decode cX0_ofOne 136 = .ok (.ireturn, 1) := by decide +kernel
theorem dX0_ofTwo_0 : decode cX0_ofTwo 0 = .ok (.iload_n 1, 1) := by decide +kernel
theorem dX0_ofTwo_1 : decode cX0_ofTwo 1 = .ok (.invokestatic 9, 3) := by decide +kernel
theorem dX0_ofTwo_4 : decode cX0_ofTwo 4 = .ok (.ifCond .ne 10, 3) := by decide +kernel
theorem dX0_ofTwo_7 : decode cX0_ofTwo 7 = .ok (.iload_n 2, 1) := by decide +kernel
theorem dX0_ofTwo_8 : decode cX0_ofTwo 8 = .ok (.invokestatic 9, 3) := by decide +kernel
theorem dX0_ofTwo_11 : decode cX0_ofTwo 11 = .ok (.ifCond .eq 6, 3) := by decide +kernel
theorem dX0_ofTwo_14 : decode cX0_ofTwo 14 = .ok (.ldc 15, 2) := by decide +kernel
theorem dX0_ofTwo_16 : decode cX0_ofTwo 16 = .ok (.ireturn, 1) := by decide +kernel
theorem dX0_ofTwo_17 : decode cX0_ofTwo 17 = .ok (.iload_n 0, 1) := by decide +kernel
theorem dX0_ofTwo_18 : decode cX0_ofTwo 18 = .ok (.tableswitch 107 2 9 #[46, 52, 61, 67, 107, 107, 73, 90], 46) := by decide +kernel
theorem dX0_ofTwo_64 : decode cX0_ofTwo 64 = .ok (.iload_n 1, 1) := by decide +kernel
theorem dX0_ofTwo_65 : decode cX0_ofTwo 65 = .ok (.iload_n 2, 1) := by decide +kernel
theorem dX0_ofTwo_66 : decode cX0_ofTwo 66 = .ok (.invokestatic 37, 3) := by decide +kernel
theorem dX0_ofTwo_69 : decode cX0_ofTwo 69 = .ok (.ireturn, 1) := by decide +kernel
theorem dX0_ofTwo_70 : decode cX0_ofTwo 70 = .ok (.iload_n 1, 1) := by decide +kernel
theorem dX0_ofTwo_71 : decode cX0_ofTwo 71 = .ok (.iload_n 2, 1) := by decide +kernel
theorem dX0_ofTwo_72 : decode cX0_ofTwo 72 = .ok (.ldc 16, 2) := by decide +kernel
theorem dX0_ofTwo_74 : decode cX0_ofTwo 74 = .ok (.ixor, 1) := by decide +kernel
theorem dX0_ofTwo_75 : decode cX0_ofTwo 75 = .ok (.invokestatic 37, 3) := by decide +kernel
theorem dX0_ofTwo_78 : decode cX0_ofTwo 78 = .ok (.ireturn, 1) := by decide +kernel
theorem dX0_ofTwo_79 : decode cX0_ofTwo 79 = .ok (.iload_n 1, 1) := by decide +kernel
theorem dX0_ofTwo_80 : decode cX0_ofTwo 80 = .ok (.iload_n 2, 1) := by decide +kernel
theorem dX0_ofTwo_81 : decode cX0_ofTwo 81 = .ok (.invokestatic 40, 3) := by decide +kernel
theorem dX0_ofTwo_84 : decode cX0_ofTwo 84 = .ok (.ireturn, 1) := by decide +kernel
theorem dX0_ofTwo_85 : decode cX0_ofTwo 85 = .ok (.iload_n 1, 1) := by decide +kernel
theorem dX0_ofTwo_86 : decode cX0_ofTwo 86 = .ok (.iload_n 2, 1) := by decide +kernel
theorem dX0_ofTwo_87 : decode cX0_ofTwo 87 = .ok (.invokestatic 43, 3) := by decide +kernel
theorem dX0_ofTwo_90 : decode cX0_ofTwo 90 = .ok (.ireturn, 1) := by decide +kernel
theorem dX0_ofTwo_91 : decode cX0_ofTwo 91 = .ok (.iload_n 1, 1) := by decide +kernel
theorem dX0_ofTwo_92 : decode cX0_ofTwo 92 = .ok (.invokestatic 46, 3) := by decide +kernel
theorem dX0_ofTwo_95 : decode cX0_ofTwo 95 = .ok (.iload_n 2, 1) := by decide +kernel
theorem dX0_ofTwo_96 : decode cX0_ofTwo 96 = .ok (.invokestatic 46, 3) := by decide +kernel
theorem dX0_ofTwo_99 : decode cX0_ofTwo 99 = .ok (.if_icmp .gt 7, 3) := by decide +kernel
theorem dX0_ofTwo_102 : decode cX0_ofTwo 102 = .ok (.iload_n 1, 1) := by decide +kernel
theorem dX0_ofTwo_103 : decode cX0_ofTwo 103 = .ok (.goto 4, 3) := by decide +kernel
theorem dX0_ofTwo_106 : decode cX0_ofTwo 106 = .ok (.iload_n 2, 1) := by decide +kernel
theorem dX0_ofTwo_107 : decode cX0_ofTwo 107 = .ok (.ireturn, 1) := by decide +kernel
theorem dX0_ofTwo_108 : decode cX0_ofTwo 108 = .ok (.iload_n 1, 1) := by decide +kernel
theorem dX0_ofTwo_109 : decode cX0_ofTwo 109 = .ok (.invokestatic 46, 3) := by decide +kernel
theorem dX0_ofTwo_112 : decode cX0_ofTwo 112 = .ok (.iload_n 2, 1) := by decide +kernel
theorem dX0_ofTwo_113 : decode cX0_ofTwo 113 = .ok (.invokestatic 46, 3) := by decide +kernel
theorem dX0_ofTwo_116 : decode cX0_ofTwo 116 = .ok (.if_icmp .lt 7, 3) := by decide +kernel
theorem dX0_ofTwo_119 : decode cX0_ofTwo 119 = .ok (.iload_n 1, 1) := by decide +kernel
theorem dX0_ofTwo_120 : decode cX0_ofTwo 120 = .ok (.goto 4, 3) := by decide +kernel
theorem dX0_ofTwo_123 : decode cX0_ofTwo 123 = .ok (.iload_n 2, 1) := by decide +kernel
theorem dX0_ofTwo_124 : decode cX0_ofTwo 124 = .ok (.ireturn, 1) := by decide +kernel
theorem dX0_ofTwo_125 : decode cX0_ofTwo 125 = .ok (.iload_n 1, 1) := by decide +kernel
theorem dX0_ofTwo_126 : decode cX0_ofTwo 126 = .ok (.iload_n 2, 1) := by decide +kernel
theorem dX0_ofTwo_127 : decode cX0_ofTwo 127 = .ok (.invokestatic 49, 3) := by decide +kernel
theorem dX0_ofTwo_130 : decode cX0_ofTwo 130 = .ok (.ireturn, 1) := by decide +kernel
theorem dX0_sum_0 : decode cX0_sum 0 = .ok (.iload_n 0, 1) := by decide +kernel
theorem dX0_sum_1 : decode cX0_sum 1 = .ok (.ldc 17, 2) := by decide +kernel
theorem dX0_sum_3 : decode cX0_sum 3 = .ok (.iand, 1) := by decide +kernel
theorem dX0_sum_4 : decode cX0_sum 4 = .ok (.ldc 52, 2) := by decide +kernel
theorem dX0_sum_6 : decode cX0_sum 6 = .ok (.if_icmp .ne 24, 3) := by decide +kernel
theorem dX0_sum_9 : decode cX0_sum 9 = .ok (.iload_n 1, 1) := by decide +kernel
theorem dX0_sum_10 : decode cX0_sum 10 = .ok (.ldc 17, 2) := by decide +kernel
theorem dX0_sum_12 : decode cX0_sum 12 = .ok (.iand, 1) := by decide +kernel
theorem dX0_sum_13 : decode cX0_sum 13 = .ok (.ldc 52, 2) := by decide +kernel
theorem dX0_sum_15 : decode cX0_sum 15 = .ok (.if_icmp .ne 13, 3) := by decide +kernel
theorem dX0_sum_18 : decode cX0_sum 18 = .ok (.iload_n 0, 1) := by decide +kernel
theorem dX0_sum_19 : decode cX0_sum 19 = .ok (.iload_n 1, 1) := by decide +kernel
theorem dX0_sum_20 : decode cX0_sum 20 = .ok (.if_icmp .eq 8, 3) := by decide +kernel
theorem dX0_sum_23 : decode cX0_sum 23 = .ok (.ldc 15, 2) := by decide +kernel
theorem dX0_sum_25 : decode cX0_sum 25 = .ok (.goto 4, 3) := by decide +kernel
theorem dX0_sum_28 : decode cX0_sum 28 = .ok (.iload_n 0, 1) := by decide +kernel
theorem dX0_sum_29 : decode cX0_sum 29 = .ok (.ireturn, 1) := by decide +kernel
theorem dX0_sum_30 : decode cX0_sum 30 = .ok (.iload_n 1, 1) := by decide +kernel
theorem dX0_sum_31 : decode cX0_sum 31 = .ok (.ldc 17, 2) := by decide +kernel
theorem dX0_sum_33 : decode cX0_sum 33 = .ok (.iand, 1) := by decide +kernel
theorem dX0_sum_34 : decode cX0_sum 34 = .ok (.ldc 52, 2) := by decide +kernel
theorem dX0_sum_36 : decode cX0_sum 36 = .ok (.if_icmp .ne 5, 3) := by decide +kernel
theorem dX0_sum_39 : decode cX0_sum 39 = .ok (.iload_n 1, 1) := by decide +kernel
theorem dX0_sum_40 : decode cX0_sum 40 = .ok (.ireturn, 1) := by decide +kernel
theorem dX0_sum_41 : decode cX0_sum 41 = .ok (.iload_n 0, 1) := by decide +kernel
theorem dX0_sum_42 : decode cX0_sum 42 = .ok (.invokestatic 53, 3) := by decide +kernel
theorem dX0_sum_45 : decode cX0_sum 45 = .ok (.iload_n 1, 1) := by decide +kernel
theorem dX0_sum_46 : decode cX0_sum 46 = .ok (.invokestatic 53, 3) := by decide +kernel
theorem dX0_sum_49 : decode cX0_sum 49 = .ok (.isub, 1) := by decide +kernel
theorem dX0_sum_50 : decode cX0_sum 50 = .ok (.istore_n 2, 1) := by decide +kernel
theorem dX0_sum_51 : decode cX0_sum 51 = .ok (.iload_n 2, 1) := by decide +kernel
theorem dX0_sum_52 : decode cX0_sum 52 = .ok (.ifCond .lt 7, 3) := by decide +kernel
theorem dX0_sum_55 : decode cX0_sum 55 = .ok (.iload_n 0, 1) := by decide +kernel
theorem dX0_sum_56 : decode cX0_sum 56 = .ok (.goto 4, 3) := by decide +kernel
theorem dX0_sum_59 : decode cX0_sum 59 = .ok (.iload_n 1, 1) := by decide +kernel
theorem dX0_sum_60 : decode cX0_sum 60 = .ok (.istore_n 3, 1) := by decide +kernel
theorem dX0_sum_61 : decode cX0_sum 61 = .ok (.iload_n 2, 1) := by decide +kernel
theorem dX0_sum_62 : decode cX0_sum 62 = .ok (.ifCond .lt 7, 3) := by decide +kernel
theorem dX0_sum_65 : decode cX0_sum 65 = .ok (.iload_n 1, 1) := by decide +kernel
theorem dX0_sum_66 : decode cX0_sum 66 = .ok (.goto 4, 3) := by decide +kernel
theorem dX0_sum_69 : decode cX0_sum 69 = .ok (.iload_n 0, 1) := by decide +kernel
theorem dX0_sum_70 : decode cX0_sum 70 = .ok (.istore 4, 2) := by decide +kernel
theorem dX0_sum_72 : decode cX0_sum 72 = .ok (.iload_n 2, 1) := by decide +kernel
theorem dX0_sum_73 : decode cX0_sum 73 = .ok (.invokestatic 56, 3) := by decide +kernel
theorem dX0_sum_76 : decode cX0_sum 76 = .ok (.istore 5, 2) := by decide +kernel
theorem dX0_sum_78 : decode cX0_sum 78 = .ok (.iload 5, 2) := by decide +kernel
theorem dX0_sum_80 : decode cX0_sum 80 = .ok (.bipush 30, 2) := by decide +kernel
theorem dX0_sum_82 : decode cX0_sum 82 = .ok (.if_icmp .le 5, 3) := by decide +kernel
theorem dX0_sum_85 : decode cX0_sum 85 = .ok (.iload_n 3, 1) := by decide +kernel
theorem dX0_sum_86 : decode cX0_sum 86 = .ok (.ireturn, 1) := by decide +kernel
theorem dX0_sum_87 : decode cX0_sum 87 = .ok (.iload_n 3, 1) := by decide +kernel
theorem dX0_sum_88 : decode cX0_sum 88 = .ok (.invokestatic 61, 3) := by decide +kernel
theorem dX0_sum_91 : decode cX0_sum 91 = .ok (.iload 5, 2) := by decide +kernel
theorem dX0_sum_93 : decode cX0_sum 93 = .ok (.lshl, 1) := by decide +kernel
theorem dX0_sum_94 : decode cX0_sum 94 = .ok (.lstore 6, 2) := by decide +kernel
theorem dX0_sum_96 : decode cX0_sum 96 = .ok (.iload 4, 2) := by decide +kernel
theorem dX0_sum_98 : decode cX0_sum 98 = .ok (.invokestatic 61, 3) := by decide +kernel
theorem dX0_sum_101 : decode cX0_sum 101 = .ok (.lstore 8, 2) := by decide +kernel
theorem dX0_sum_103 : decode cX0_sum 103 = .ok (.iload_n 3, 1) := by decide +kernel
theorem dX0_sum_104 : decode cX0_sum 104 = .ok (.ifCond .ge 9, 3) := by decide +kernel
theorem dX0_sum_107 : decode cX0_sum 107 = .ok (.lload 6, 2) := by decide +kernel
theorem dX0_sum_109 : decode cX0_sum 109 = .ok (.lneg, 1) := by decide +kernel
theorem dX0_sum_110 : decode cX0_sum 110 = .ok (.goto 5, 3) := by decide +kernel
theorem dX0_sum_113 : decode cX0_sum 113 = .ok (.lload 6, 2) := by decide +kernel
theorem dX0_sum_115 : decode cX0_sum 115 = .ok (.iload 4, 2) := by decide +kernel
theorem dX0_sum_117 : decode cX0_sum 117 = .ok (.ifCond .ge 9, 3) := by decide +kernel
theorem dX0_sum_120 : decode cX0_sum 120 = .ok (.lload 8, 2) := by decide +kernel
theorem dX0_sum_122 : decode cX0_sum 122 = .ok (.lneg, 1) := by decide +kernel
theorem dX0_sum_123 : decode cX0_sum 123 = .ok (.goto 5, 3) := by decide +kernel
theorem dX0_sum_126 : decode cX0_sum 126 = .ok (.lload 8, 2) := by decide +kernel
theorem dX0_sum_128 : decode cX0_sum 128 = .ok (.ladd, 1) := by decide +kernel
theorem dX0_sum_129 : decode cX0_sum 129 = .ok (.lstore 10, 2) := by decide +kernel
theorem dX0_sum_131 : decode cX0_sum 131 = .ok (.lload 10, 2) := by decide +kernel
theorem dX0_sum_133 : decode cX0_sum 133 = .ok (.lconst 0, 1) := by decide +kernel
theorem dX0_sum_134 : decode cX0_sum 134 = .ok (.lcmp, 1) := by decide +kernel
theorem dX0_sum_135 : decode cX0_sum 135 = .ok (.ifCond .ne 10, 3) := by decide +kernel
theorem dX0_sum_138 : decode cX0_sum 138 = .ok (.iload_n 0, 1) := by decide +kernel
theorem dX0_sum_139 : decode cX0_sum 139 = .ok (.iload_n 1, 1) := by decide +kernel
theorem dX0_sum_140 : decode cX0_sum 140 = .ok (.iand, 1) := by decide +kernel
theorem dX0_sum_141 : decode cX0_sum 141 = .ok (.ldc 16, 2) := by decide +kernel
theorem dX0_sum_143 : decode cX0_sum 143 = .ok (.iand, 1) := by decide +kernel
theorem dX0_sum_144 : decode cX0_sum 144 = .ok (.ireturn, 1) := by decide +kernel
theorem dX0_sum_145 : decode cX0_sum 145 = .ok (.lload 10, 2) := by decide +kernel
theorem dX0_sum_147 : decode cX0_sum 147 = .ok (.lconst 0, 1) := by decide +kernel
theorem dX0_sum_148 : decode cX0_sum 148 = .ok (.lcmp, 1) := by decide +kernel
theorem dX0_sum_149 : decode cX0_sum 149 = .ok (.ifCond .ge 8, 3) := by decide +kernel
theorem dX0_sum_152 : decode cX0_sum 152 = .ok (.ldc 16, 2) := by decide +kernel
theorem dX0_sum_154 : decode cX0_sum 154 = .ok (.goto 4, 3) := by decide +kernel
theorem dX0_sum_157 : decode cX0_sum 157 = .ok (.iconst 0, 1) := by decide +kernel
theorem dX0_sum_158 : decode cX0_sum 158 = .ok (.lload 10, 2) := by decide +kernel
theorem dX0_sum_160 : decode cX0_sum 160 = .ok (.invokestatic 65, 3) := by decide +kernel
theorem dX0_sum_163 : decode cX0_sum 163 = .ok (.iload 4, 2) := by decide +kernel
theorem dX0_sum_165 : decode cX0_sum 165 = .ok (.invokestatic 53, 3) := by decide +kernel
theorem dX0_sum_168 : decode cX0_sum 168 = .ok (.invokestatic 68, 3) := by decide +kernel
theorem dX0_sum_171 : decode cX0_sum 171 = .ok (.ireturn, 1) := by decide +kernel
theorem dX0_product_0 : decode cX0_product 0 = .ok (.iload_n 0, 1) := by decide +kernel
theorem dX0_product_1 : decode cX0_product 1 = .ok (.iload_n 1, 1) := by decide +kernel
theorem dX0_product_2 : decode cX0_product 2 = .ok (.ixor, 1) := by decide +kernel
theorem dX0_product_3 : decode cX0_product 3 = .ok (.ldc 16, 2) := by decide +kernel
theorem dX0_product_5 : decode cX0_product 5 = .ok (.iand, 1) := by decide +kernel
theorem dX0_product_6 : decode cX0_product 6 = .ok (.istore_n 2, 1) := by decide +kernel
theorem dX0_product_7 : decode cX0_product 7 = .ok (.iload_n 0, 1) := by decide +kernel
theorem dX0_product_8 : decode cX0_product 8 = .ok (.ldc 17, 2) := by decide +kernel
theorem dX0_product_10 : decode cX0_product 10 = .ok (.iand, 1) := by decide +kernel
theorem dX0_product_11 : decode cX0_product 11 = .ok (.istore_n 3, 1) := by decide +kernel
theorem dX0_product_12 : decode cX0_product 12 = .ok (.iload_n 1, 1) := by decide +kernel
theorem dX0_product_13 : decode cX0_product 13 = .ok (.ldc 17, 2) := by decide +kernel
theorem dX0_product_15 : decode cX0_product 15 = .ok (.iand, 1) := by decide +kernel
theorem dX0_product_16 : decode cX0_product 16 = .ok (.istore 4, 2) := by decide +kernel
theorem dX0_product_18 : decode cX0_product 18 = .ok (.iload_n 3, 1) := by decide +kernel
theorem dX0_product_19 : decode cX0_product 19 = .ok (.ldc 52, 2) := by decide +kernel
theorem dX0_product_21 : decode cX0_product 21 = .ok (.if_icmp .eq 10, 3) := by decide +kernel
theorem dX0_product_24 : decode cX0_product 24 = .ok (.iload 4, 2) := by decide +kernel
theorem dX0_product_26 : decode cX0_product 26 = .ok (.ldc 52, 2) := by decide +kernel
theorem dX0_product_28 : decode cX0_product 28 = .ok (.if_icmp .ne 22, 3) := by decide +kernel
theorem dX0_product_31 : decode cX0_product 31 = .ok (.iload_n 3, 1) := by decide +kernel
theorem dX0_product_32 : decode cX0_product 32 = .ok (.ifCond .eq 8, 3) := by decide +kernel
theorem dX0_product_35 : decode cX0_product 35 = .ok (.iload 4, 2) := by decide +kernel
theorem dX0_product_37 : decode cX0_product 37 = .ok (.ifCond .ne 8, 3) := by decide +kernel
theorem dX0_product_40 : decode cX0_product 40 = .ok (.ldc 15, 2) := by decide +kernel
theorem dX0_product_42 : decode cX0_product 42 = .ok (.goto 7, 3) := by decide +kernel
theorem dX0_product_45 : decode cX0_product 45 = .ok (.iload_n 2, 1) := by decide +kernel
theorem dX0_product_46 : decode cX0_product 46 = .ok (.ldc 52, 2) := by decide +kernel
theorem dX0_product_48 : decode cX0_product 48 = .ok (.ior, 1) := by decide +kernel
theorem dX0_product_49 : decode cX0_product 49 = .ok (.ireturn, 1) := by decide +kernel
theorem dX0_product_50 : decode cX0_product 50 = .ok (.iload_n 0, 1) := by decide +kernel
theorem dX0_product_51 : decode cX0_product 51 = .ok (.invokestatic 61, 3) := by decide +kernel
theorem dX0_product_54 : decode cX0_product 54 = .ok (.iload_n 1, 1) := by decide +kernel
theorem dX0_product_55 : decode cX0_product 55 = .ok (.invokestatic 61, 3) := by decide +kernel
theorem dX0_product_58 : decode cX0_product 58 = .ok (.lmul, 1) := by decide +kernel
theorem dX0_product_59 : decode cX0_product 59 = .ok (.lstore 5, 2) := by decide +kernel
theorem dX0_product_61 : decode cX0_product 61 = .ok (.iload_n 2, 1) := by decide +kernel
theorem dX0_product_62 : decode cX0_product 62 = .ok (.lload 5, 2) := by decide +kernel
theorem dX0_product_64 : decode cX0_product 64 = .ok (.iload_n 0, 1) := by decide +kernel
theorem dX0_product_65 : decode cX0_product 65 = .ok (.invokestatic 53, 3) := by decide +kernel
theorem dX0_product_68 : decode cX0_product 68 = .ok (.iload_n 1, 1) := by decide +kernel
theorem dX0_product_69 : decode cX0_product 69 = .ok (.invokestatic 53, 3) := by decide +kernel
theorem dX0_product_72 : decode cX0_product 72 = .ok (.iadd, 1) := by decide +kernel
theorem dX0_product_73 : decode cX0_product 73 = .ok (.invokestatic 68, 3) := by decide +kernel
theorem dX0_product_76 : decode cX0_product 76 = .ok (.ireturn, 1) := by decide +kernel
theorem dX0_quotient_0 : decode cX0_quotient 0 = .ok (.iload_n 0, 1) := by decide +kernel
theorem dX0_quotient_1 : decode cX0_quotient 1 = .ok (.iload_n 1, 1) := by decide +kernel
theorem dX0_quotient_2 : decode cX0_quotient 2 = .ok (.ixor, 1) := by decide +kernel
theorem dX0_quotient_3 : decode cX0_quotient 3 = .ok (.ldc 16, 2) := by decide +kernel
theorem dX0_quotient_5 : decode cX0_quotient 5 = .ok (.iand, 1) := by decide +kernel
theorem dX0_quotient_6 : decode cX0_quotient 6 = .ok (.istore_n 2, 1) := by decide +kernel
theorem dX0_quotient_7 : decode cX0_quotient 7 = .ok (.iload_n 0, 1) := by decide +kernel
theorem dX0_quotient_8 : decode cX0_quotient 8 = .ok (.ldc 17, 2) := by decide +kernel
theorem dX0_quotient_10 : decode cX0_quotient 10 = .ok (.iand, 1) := by decide +kernel
theorem dX0_quotient_11 : decode cX0_quotient 11 = .ok (.istore_n 3, 1) := by decide +kernel
theorem dX0_quotient_12 : decode cX0_quotient 12 = .ok (.iload_n 1, 1) := by decide +kernel
theorem dX0_quotient_13 : decode cX0_quotient 13 = .ok (.ldc 17, 2) := by decide +kernel
theorem dX0_quotient_15 : decode cX0_quotient 15 = .ok (.iand, 1) := by decide +kernel
theorem dX0_quotient_16 : decode cX0_quotient 16 = .ok (.istore 4, 2) := by decide +kernel
theorem dX0_quotient_18 : decode cX0_quotient 18 = .ok (.iload_n 3, 1) := by decide +kernel
theorem dX0_quotient_19 : decode cX0_quotient 19 = .ok (.iload 4, 2) := by decide +kernel
theorem dX0_quotient_21 : decode cX0_quotient 21 = .ok (.if_icmp .ne 16, 3) := by decide +kernel
theorem dX0_quotient_24 : decode cX0_quotient 24 = .ok (.iload_n 3, 1) := by decide +kernel
theorem dX0_quotient_25 : decode cX0_quotient 25 = .ok (.ifCond .eq 9, 3) := by decide +kernel
theorem dX0_quotient_28 : decode cX0_quotient 28 = .ok (.iload_n 3, 1) := by decide +kernel
theorem dX0_quotient_29 : decode cX0_quotient 29 = .ok (.ldc 52, 2) := by decide +kernel
theorem dX0_quotient_31 : decode cX0_quotient 31 = .ok (.if_icmp .ne 6, 3) := by decide +kernel
theorem dX0_quotient_34 : decode cX0_quotient 34 = .ok (.ldc 15, 2) := by decide +kernel
theorem dX0_quotient_36 : decode cX0_quotient 36 = .ok (.ireturn, 1) := by decide +kernel
theorem dX0_quotient_37 : decode cX0_quotient 37 = .ok (.iload_n 1, 1) := by decide +kernel
theorem dX0_quotient_38 : decode cX0_quotient 38 = .ok (.invokestatic 61, 3) := by decide +kernel
theorem dX0_quotient_41 : decode cX0_quotient 41 = .ok (.lstore 5, 2) := by decide +kernel
theorem dX0_quotient_43 : decode cX0_quotient 43 = .ok (.iload_n 3, 1) := by decide +kernel
theorem dX0_quotient_44 : decode cX0_quotient 44 = .ok (.ldc 52, 2) := by decide +kernel
theorem dX0_quotient_46 : decode cX0_quotient 46 = .ok (.if_icmp .eq 10, 3) := by decide +kernel
theorem dX0_quotient_49 : decode cX0_quotient 49 = .ok (.lload 5, 2) := by decide +kernel
theorem dX0_quotient_51 : decode cX0_quotient 51 = .ok (.lconst 0, 1) := by decide +kernel
theorem dX0_quotient_52 : decode cX0_quotient 52 = .ok (.lcmp, 1) := by decide +kernel
theorem dX0_quotient_53 : decode cX0_quotient 53 = .ok (.ifCond .ne 8, 3) := by decide +kernel
theorem dX0_quotient_56 : decode cX0_quotient 56 = .ok (.iload_n 2, 1) := by decide +kernel
theorem dX0_quotient_57 : decode cX0_quotient 57 = .ok (.ldc 52, 2) := by decide +kernel
theorem dX0_quotient_59 : decode cX0_quotient 59 = .ok (.ior, 1) := by decide +kernel
theorem dX0_quotient_60 : decode cX0_quotient 60 = .ok (.ireturn, 1) := by decide +kernel
theorem dX0_quotient_61 : decode cX0_quotient 61 = .ok (.iload_n 3, 1) := by decide +kernel
theorem dX0_quotient_62 : decode cX0_quotient 62 = .ok (.ifCond .eq 10, 3) := by decide +kernel
theorem dX0_quotient_65 : decode cX0_quotient 65 = .ok (.iload 4, 2) := by decide +kernel
theorem dX0_quotient_67 : decode cX0_quotient 67 = .ok (.ldc 52, 2) := by decide +kernel
theorem dX0_quotient_69 : decode cX0_quotient 69 = .ok (.if_icmp .ne 5, 3) := by decide +kernel
theorem dX0_quotient_72 : decode cX0_quotient 72 = .ok (.iload_n 2, 1) := by decide +kernel
theorem dX0_quotient_73 : decode cX0_quotient 73 = .ok (.ireturn, 1) := by decide +kernel
theorem dX0_quotient_74 : decode cX0_quotient 74 = .ok (.iload_n 0, 1) := by decide +kernel
theorem dX0_quotient_75 : decode cX0_quotient 75 = .ok (.invokestatic 61, 3) := by decide +kernel
theorem dX0_quotient_78 : decode cX0_quotient 78 = .ok (.lstore 7, 2) := by decide +kernel
theorem dX0_quotient_80 : decode cX0_quotient 80 = .ok (.lload 7, 2) := by decide +kernel
theorem dX0_quotient_82 : decode cX0_quotient 82 = .ok (.invokestatic 72, 3) := by decide +kernel
theorem dX0_quotient_85 : decode cX0_quotient 85 = .ok (.iconst 2, 1) := by decide +kernel
theorem dX0_quotient_86 : decode cX0_quotient 86 = .ok (.isub, 1) := by decide +kernel
theorem dX0_quotient_87 : decode cX0_quotient 87 = .ok (.istore 9, 2) := by decide +kernel
theorem dX0_quotient_89 : decode cX0_quotient 89 = .ok (.lload 7, 2) := by decide +kernel
theorem dX0_quotient_91 : decode cX0_quotient 91 = .ok (.iload 9, 2) := by decide +kernel
theorem dX0_quotient_93 : decode cX0_quotient 93 = .ok (.lshl, 1) := by decide +kernel
theorem dX0_quotient_94 : decode cX0_quotient 94 = .ok (.lstore 10, 2) := by decide +kernel
theorem dX0_quotient_96 : decode cX0_quotient 96 = .ok (.lload 10, 2) := by decide +kernel
theorem dX0_quotient_98 : decode cX0_quotient 98 = .ok (.lload 5, 2) := by decide +kernel
theorem dX0_quotient_100 : decode cX0_quotient 100 = .ok (.ldiv, 1) := by decide +kernel
theorem dX0_quotient_101 : decode cX0_quotient 101 = .ok (.lstore 12, 2) := by decide +kernel
theorem dX0_quotient_103 : decode cX0_quotient 103 = .ok (.lload 12, 2) := by decide +kernel
theorem dX0_quotient_105 : decode cX0_quotient 105 = .ok (.lload 5, 2) := by decide +kernel
theorem dX0_quotient_107 : decode cX0_quotient 107 = .ok (.lmul, 1) := by decide +kernel
theorem dX0_quotient_108 : decode cX0_quotient 108 = .ok (.lload 10, 2) := by decide +kernel
theorem dX0_quotient_110 : decode cX0_quotient 110 = .ok (.lcmp, 1) := by decide +kernel
theorem dX0_quotient_111 : decode cX0_quotient 111 = .ok (.ifCond .ne 8, 3) := by decide +kernel
theorem dX0_quotient_114 : decode cX0_quotient 114 = .ok (.lload 12, 2) := by decide +kernel
theorem dX0_quotient_116 : decode cX0_quotient 116 = .ok (.goto 7, 3) := by decide +kernel
theorem dX0_quotient_119 : decode cX0_quotient 119 = .ok (.lload 12, 2) := by decide +kernel
theorem dX0_quotient_121 : decode cX0_quotient 121 = .ok (.lconst 1, 1) := by decide +kernel
theorem dX0_quotient_122 : decode cX0_quotient 122 = .ok (.lor, 1) := by decide +kernel
theorem dX0_quotient_123 : decode cX0_quotient 123 = .ok (.lstore 14, 2) := by decide +kernel
theorem dX0_quotient_125 : decode cX0_quotient 125 = .ok (.iload_n 2, 1) := by decide +kernel
theorem dX0_quotient_126 : decode cX0_quotient 126 = .ok (.lload 14, 2) := by decide +kernel
theorem dX0_quotient_128 : decode cX0_quotient 128 = .ok (.iload_n 0, 1) := by decide +kernel
theorem dX0_quotient_129 : decode cX0_quotient 129 = .ok (.invokestatic 53, 3) := by decide +kernel
theorem dX0_quotient_132 : decode cX0_quotient 132 = .ok (.iload 9, 2) := by decide +kernel
theorem dX0_quotient_134 : decode cX0_quotient 134 = .ok (.isub, 1) := by decide +kernel
theorem dX0_quotient_135 : decode cX0_quotient 135 = .ok (.iload_n 1, 1) := by decide +kernel
theorem dX0_quotient_136 : decode cX0_quotient 136 = .ok (.invokestatic 53, 3) := by decide +kernel
theorem dX0_quotient_139 : decode cX0_quotient 139 = .ok (.isub, 1) := by decide +kernel
theorem dX0_quotient_140 : decode cX0_quotient 140 = .ok (.invokestatic 68, 3) := by decide +kernel
theorem dX0_quotient_143 : decode cX0_quotient 143 = .ok (.ireturn, 1) := by decide +kernel
theorem dX0_remainder_0 : decode cX0_remainder 0 = .ok (.iload_n 1, 1) := by decide +kernel
theorem dX0_remainder_1 : decode cX0_remainder 1 = .ok (.invokestatic 61, 3) := by decide +kernel
theorem dX0_remainder_4 : decode cX0_remainder 4 = .ok (.lstore_n 2, 1) := by decide +kernel
theorem dX0_remainder_5 : decode cX0_remainder 5 = .ok (.iload_n 0, 1) := by decide +kernel
theorem dX0_remainder_6 : decode cX0_remainder 6 = .ok (.ldc 17, 2) := by decide +kernel
theorem dX0_remainder_8 : decode cX0_remainder 8 = .ok (.iand, 1) := by decide +kernel
theorem dX0_remainder_9 : decode cX0_remainder 9 = .ok (.ldc 52, 2) := by decide +kernel
theorem dX0_remainder_11 : decode cX0_remainder 11 = .ok (.if_icmp .eq 9, 3) := by decide +kernel
theorem dX0_remainder_14 : decode cX0_remainder 14 = .ok (.lload_n 2, 1) := by decide +kernel
theorem dX0_remainder_15 : decode cX0_remainder 15 = .ok (.lconst 0, 1) := by decide +kernel
theorem dX0_remainder_16 : decode cX0_remainder 16 = .ok (.lcmp, 1) := by decide +kernel
theorem dX0_remainder_17 : decode cX0_remainder 17 = .ok (.ifCond .ne 6, 3) := by decide +kernel
theorem dX0_remainder_20 : decode cX0_remainder 20 = .ok (.ldc 15, 2) := by decide +kernel
theorem dX0_remainder_22 : decode cX0_remainder 22 = .ok (.ireturn, 1) := by decide +kernel
theorem dX0_remainder_23 : decode cX0_remainder 23 = .ok (.iload_n 0, 1) := by decide +kernel
theorem dX0_remainder_24 : decode cX0_remainder 24 = .ok (.ldc 17, 2) := by decide +kernel
theorem dX0_remainder_26 : decode cX0_remainder 26 = .ok (.iand, 1) := by decide +kernel
theorem dX0_remainder_27 : decode cX0_remainder 27 = .ok (.iload_n 1, 1) := by decide +kernel
theorem dX0_remainder_28 : decode cX0_remainder 28 = .ok (.ldc 17, 2) := by decide +kernel
theorem dX0_remainder_30 : decode cX0_remainder 30 = .ok (.iand, 1) := by decide +kernel
theorem dX0_remainder_31 : decode cX0_remainder 31 = .ok (.if_icmp .ge 5, 3) := by decide +kernel
theorem dX0_remainder_34 : decode cX0_remainder 34 = .ok (.iload_n 0, 1) := by decide +kernel
theorem dX0_remainder_35 : decode cX0_remainder 35 = .ok (.ireturn, 1) := by decide +kernel
theorem dX0_remainder_36 : decode cX0_remainder 36 = .ok (.iload_n 1, 1) := by decide +kernel
theorem dX0_remainder_37 : decode cX0_remainder 37 = .ok (.invokestatic 53, 3) := by decide +kernel
theorem dX0_remainder_40 : decode cX0_remainder 40 = .ok (.istore 4, 2) := by decide +kernel
theorem dX0_remainder_42 : decode cX0_remainder 42 = .ok (.iload_n 0, 1) := by decide +kernel
theorem dX0_remainder_43 : decode cX0_remainder 43 = .ok (.invokestatic 61, 3) := by decide +kernel
theorem dX0_remainder_46 : decode cX0_remainder 46 = .ok (.lload_n 2, 1) := by decide +kernel
theorem dX0_remainder_47 : decode cX0_remainder 47 = .ok (.lrem, 1) := by decide +kernel
theorem dX0_remainder_48 : decode cX0_remainder 48 = .ok (.lstore 5, 2) := by decide +kernel
theorem dX0_remainder_50 : decode cX0_remainder 50 = .ok (.iload_n 0, 1) := by decide +kernel
theorem dX0_remainder_51 : decode cX0_remainder 51 = .ok (.invokestatic 53, 3) := by decide +kernel
theorem dX0_remainder_54 : decode cX0_remainder 54 = .ok (.iload 4, 2) := by decide +kernel
theorem dX0_remainder_56 : decode cX0_remainder 56 = .ok (.isub, 1) := by decide +kernel
theorem dX0_remainder_57 : decode cX0_remainder 57 = .ok (.istore 7, 2) := by decide +kernel
theorem dX0_remainder_59 : decode cX0_remainder 59 = .ok (.iload 7, 2) := by decide +kernel
theorem dX0_remainder_61 : decode cX0_remainder 61 = .ok (.ifCond .le 23, 3) := by decide +kernel
theorem dX0_remainder_64 : decode cX0_remainder 64 = .ok (.lload 5, 2) := by decide +kernel
theorem dX0_remainder_66 : decode cX0_remainder 66 = .ok (.iload 7, 2) := by decide +kernel
theorem dX0_remainder_68 : decode cX0_remainder 68 = .ok (.bipush 38, 2) := by decide +kernel
theorem dX0_remainder_70 : decode cX0_remainder 70 = .ok (.invokestatic 78, 3) := by decide +kernel
theorem dX0_remainder_73 : decode cX0_remainder 73 = .ok (.lshl, 1) := by decide +kernel
theorem dX0_remainder_74 : decode cX0_remainder 74 = .ok (.lload_n 2, 1) := by decide +kernel
theorem dX0_remainder_75 : decode cX0_remainder 75 = .ok (.lrem, 1) := by decide +kernel
theorem dX0_remainder_76 : decode cX0_remainder 76 = .ok (.lstore 5, 2) := by decide +kernel
theorem dX0_remainder_78 : decode cX0_remainder 78 = .ok (.iinc 7 (-38), 3) := by decide +kernel
theorem dX0_remainder_81 : decode cX0_remainder 81 = .ok (.goto (-22), 3) := by decide +kernel
theorem dX0_remainder_84 : decode cX0_remainder 84 = .ok (.iload_n 0, 1) := by decide +kernel
theorem dX0_remainder_85 : decode cX0_remainder 85 = .ok (.ldc 16, 2) := by decide +kernel
theorem dX0_remainder_87 : decode cX0_remainder 87 = .ok (.iand, 1) := by decide +kernel
theorem dX0_remainder_88 : decode cX0_remainder 88 = .ok (.lload 5, 2) := by decide +kernel
theorem dX0_remainder_90 : decode cX0_remainder 90 = .ok (.iload 4, 2) := by decide +kernel
theorem dX0_remainder_92 : decode cX0_remainder 92 = .ok (.invokestatic 68, 3) := by decide +kernel
theorem dX0_remainder_95 : decode cX0_remainder 95 = .ok (.ireturn, 1) := by decide +kernel
theorem dX0_root_0 : decode cX0_root 0 = .ok (.iload_n 0, 1) := by decide +kernel
theorem dX0_root_1 : decode cX0_root 1 = .ok (.ldc 17, 2) := by decide +kernel
theorem dX0_root_3 : decode cX0_root 3 = .ok (.iand, 1) := by decide +kernel
theorem dX0_root_4 : decode cX0_root 4 = .ok (.ifCond .eq 9, 3) := by decide +kernel
theorem dX0_root_7 : decode cX0_root 7 = .ok (.iload_n 0, 1) := by decide +kernel
theorem dX0_root_8 : decode cX0_root 8 = .ok (.ldc 52, 2) := by decide +kernel
theorem dX0_root_10 : decode cX0_root 10 = .ok (.if_icmp .ne 5, 3) := by decide +kernel
theorem dX0_root_13 : decode cX0_root 13 = .ok (.iload_n 0, 1) := by decide +kernel
theorem dX0_root_14 : decode cX0_root 14 = .ok (.ireturn, 1) := by decide +kernel
theorem dX0_root_15 : decode cX0_root 15 = .ok (.iload_n 0, 1) := by decide +kernel
theorem dX0_root_16 : decode cX0_root 16 = .ok (.ifCond .ge 6, 3) := by decide +kernel
theorem dX0_root_19 : decode cX0_root 19 = .ok (.ldc 15, 2) := by decide +kernel
theorem dX0_root_21 : decode cX0_root 21 = .ok (.ireturn, 1) := by decide +kernel
theorem dX0_root_22 : decode cX0_root 22 = .ok (.iload_n 0, 1) := by decide +kernel
theorem dX0_root_23 : decode cX0_root 23 = .ok (.invokestatic 61, 3) := by decide +kernel
theorem dX0_root_26 : decode cX0_root 26 = .ok (.lstore_n 1, 1) := by decide +kernel
theorem dX0_root_27 : decode cX0_root 27 = .ok (.lload_n 1, 1) := by decide +kernel
theorem dX0_root_28 : decode cX0_root 28 = .ok (.invokestatic 72, 3) := by decide +kernel
theorem dX0_root_31 : decode cX0_root 31 = .ok (.iconst 2, 1) := by decide +kernel
theorem dX0_root_32 : decode cX0_root 32 = .ok (.isub, 1) := by decide +kernel
theorem dX0_root_33 : decode cX0_root 33 = .ok (.istore_n 3, 1) := by decide +kernel
theorem dX0_root_34 : decode cX0_root 34 = .ok (.iload_n 0, 1) := by decide +kernel
theorem dX0_root_35 : decode cX0_root 35 = .ok (.invokestatic 53, 3) := by decide +kernel
theorem dX0_root_38 : decode cX0_root 38 = .ok (.iload_n 3, 1) := by decide +kernel
theorem dX0_root_39 : decode cX0_root 39 = .ok (.isub, 1) := by decide +kernel
theorem dX0_root_40 : decode cX0_root 40 = .ok (.iconst 1, 1) := by decide +kernel
theorem dX0_root_41 : decode cX0_root 41 = .ok (.iand, 1) := by decide +kernel
theorem dX0_root_42 : decode cX0_root 42 = .ok (.iconst 1, 1) := by decide +kernel
theorem dX0_root_43 : decode cX0_root 43 = .ok (.if_icmp .ne 6, 3) := by decide +kernel
theorem dX0_root_46 : decode cX0_root 46 = .ok (.iinc 3 (-1), 3) := by decide +kernel
theorem dX0_root_49 : decode cX0_root 49 = .ok (.lload_n 1, 1) := by decide +kernel
theorem dX0_root_50 : decode cX0_root 50 = .ok (.iload_n 3, 1) := by decide +kernel
theorem dX0_root_51 : decode cX0_root 51 = .ok (.lshl, 1) := by decide +kernel
theorem dX0_root_52 : decode cX0_root 52 = .ok (.lstore 4, 2) := by decide +kernel
theorem dX0_root_54 : decode cX0_root 54 = .ok (.lload 4, 2) := by decide +kernel
theorem dX0_root_56 : decode cX0_root 56 = .ok (.invokestatic 81, 3) := by decide +kernel
theorem dX0_root_59 : decode cX0_root 59 = .ok (.lstore 6, 2) := by decide +kernel
theorem dX0_root_61 : decode cX0_root 61 = .ok (.lload 6, 2) := by decide +kernel
theorem dX0_root_63 : decode cX0_root 63 = .ok (.lload 6, 2) := by decide +kernel
theorem dX0_root_65 : decode cX0_root 65 = .ok (.lmul, 1) := by decide +kernel
theorem dX0_root_66 : decode cX0_root 66 = .ok (.lload 4, 2) := by decide +kernel
theorem dX0_root_68 : decode cX0_root 68 = .ok (.lcmp, 1) := by decide +kernel
theorem dX0_root_69 : decode cX0_root 69 = .ok (.ifCond .ne 8, 3) := by decide +kernel
theorem dX0_root_72 : decode cX0_root 72 = .ok (.lload 6, 2) := by decide +kernel
theorem dX0_root_74 : decode cX0_root 74 = .ok (.goto 7, 3) := by decide +kernel
theorem dX0_root_77 : decode cX0_root 77 = .ok (.lload 6, 2) := by decide +kernel
theorem dX0_root_79 : decode cX0_root 79 = .ok (.lconst 1, 1) := by decide +kernel
theorem dX0_root_80 : decode cX0_root 80 = .ok (.lor, 1) := by decide +kernel
theorem dX0_root_81 : decode cX0_root 81 = .ok (.lstore 8, 2) := by decide +kernel
theorem dX0_root_83 : decode cX0_root 83 = .ok (.iconst 0, 1) := by decide +kernel
theorem dX0_root_84 : decode cX0_root 84 = .ok (.lload 8, 2) := by decide +kernel
theorem dX0_root_86 : decode cX0_root 86 = .ok (.iload_n 0, 1) := by decide +kernel
theorem dX0_root_87 : decode cX0_root 87 = .ok (.invokestatic 53, 3) := by decide +kernel
theorem dX0_root_90 : decode cX0_root 90 = .ok (.iload_n 3, 1) := by decide +kernel
theorem dX0_root_91 : decode cX0_root 91 = .ok (.isub, 1) := by decide +kernel
theorem dX0_root_92 : decode cX0_root 92 = .ok (.iconst 1, 1) := by decide +kernel
theorem dX0_root_93 : decode cX0_root 93 = .ok (.ishr, 1) := by decide +kernel
theorem dX0_root_94 : decode cX0_root 94 = .ok (.invokestatic 68, 3) := by decide +kernel
theorem dX0_root_97 : decode cX0_root 97 = .ok (.ireturn, 1) := by decide +kernel
theorem dX0_rootDown_0 : decode cX0_rootDown 0 = .ok (.lconst 0, 1) := by decide +kernel
theorem dX0_rootDown_1 : decode cX0_rootDown 1 = .ok (.lstore_n 2, 1) := by decide +kernel
theorem dX0_rootDown_2 : decode cX0_rootDown 2 = .ok (.ldc2_w 84, 3) := by decide +kernel
theorem dX0_rootDown_5 : decode cX0_rootDown 5 = .ok (.lstore 4, 2) := by decide +kernel
theorem dX0_rootDown_7 : decode cX0_rootDown 7 = .ok (.lload 4, 2) := by decide +kernel
theorem dX0_rootDown_9 : decode cX0_rootDown 9 = .ok (.lconst 0, 1) := by decide +kernel
theorem dX0_rootDown_10 : decode cX0_rootDown 10 = .ok (.lcmp, 1) := by decide +kernel
theorem dX0_rootDown_11 : decode cX0_rootDown 11 = .ok (.ifCond .le 31, 3) := by decide +kernel
theorem dX0_rootDown_14 : decode cX0_rootDown 14 = .ok (.lload_n 2, 1) := by decide +kernel
theorem dX0_rootDown_15 : decode cX0_rootDown 15 = .ok (.lload 4, 2) := by decide +kernel
theorem dX0_rootDown_17 : decode cX0_rootDown 17 = .ok (.ladd, 1) := by decide +kernel
theorem dX0_rootDown_18 : decode cX0_rootDown 18 = .ok (.lstore 6, 2) := by decide +kernel
theorem dX0_rootDown_20 : decode cX0_rootDown 20 = .ok (.lload 6, 2) := by decide +kernel
theorem dX0_rootDown_22 : decode cX0_rootDown 22 = .ok (.lload 6, 2) := by decide +kernel
theorem dX0_rootDown_24 : decode cX0_rootDown 24 = .ok (.lmul, 1) := by decide +kernel
theorem dX0_rootDown_25 : decode cX0_rootDown 25 = .ok (.lload_n 0, 1) := by decide +kernel
theorem dX0_rootDown_26 : decode cX0_rootDown 26 = .ok (.lcmp, 1) := by decide +kernel
theorem dX0_rootDown_27 : decode cX0_rootDown 27 = .ok (.ifCond .gt 6, 3) := by decide +kernel
theorem dX0_rootDown_30 : decode cX0_rootDown 30 = .ok (.lload 6, 2) := by decide +kernel
theorem dX0_rootDown_32 : decode cX0_rootDown 32 = .ok (.lstore_n 2, 1) := by decide +kernel
theorem dX0_rootDown_33 : decode cX0_rootDown 33 = .ok (.lload 4, 2) := by decide +kernel
theorem dX0_rootDown_35 : decode cX0_rootDown 35 = .ok (.iconst 1, 1) := by decide +kernel
theorem dX0_rootDown_36 : decode cX0_rootDown 36 = .ok (.lshr, 1) := by decide +kernel
theorem dX0_rootDown_37 : decode cX0_rootDown 37 = .ok (.lstore 4, 2) := by decide +kernel
theorem dX0_rootDown_39 : decode cX0_rootDown 39 = .ok (.goto (-32), 3) := by decide +kernel
theorem dX0_rootDown_42 : decode cX0_rootDown 42 = .ok (.lload_n 2, 1) := by decide +kernel
theorem dX0_rootDown_43 : decode cX0_rootDown 43 = .ok (.lreturn, 1) := by decide +kernel
theorem dX0_cut_0 : decode cX0_cut 0 = .ok (.iload_n 0, 1) := by decide +kernel
theorem dX0_cut_1 : decode cX0_cut 1 = .ok (.ldc 86, 2) := by decide +kernel
theorem dX0_cut_3 : decode cX0_cut 3 = .ok (.if_icmp .ge 5, 3) := by decide +kernel
theorem dX0_cut_6 : decode cX0_cut 6 = .ok (.iconst 0, 1) := by decide +kernel
theorem dX0_cut_7 : decode cX0_cut 7 = .ok (.ireturn, 1) := by decide +kernel
theorem dX0_cut_8 : decode cX0_cut 8 = .ok (.iload_n 0, 1) := by decide +kernel
theorem dX0_cut_9 : decode cX0_cut 9 = .ok (.ldc 87, 2) := by decide +kernel
theorem dX0_cut_11 : decode cX0_cut 11 = .ok (.if_icmp .lt 7, 3) := by decide +kernel
theorem dX0_cut_14 : decode cX0_cut 14 = .ok (.iload_n 0, 1) := by decide +kernel
theorem dX0_cut_15 : decode cX0_cut 15 = .ok (.goto 10, 3) := by decide +kernel
theorem dX0_cut_18 : decode cX0_cut 18 = .ok (.iload_n 0, 1) := by decide +kernel
theorem dX0_cut_19 : decode cX0_cut 19 = .ok (.iload_n 0, 1) := by decide +kernel
theorem dX0_cut_20 : decode cX0_cut 20 = .ok (.invokestatic 88, 3) := by decide +kernel
theorem dX0_cut_23 : decode cX0_cut 23 = .ok (.ineg, 1) := by decide +kernel
theorem dX0_cut_24 : decode cX0_cut 24 = .ok (.iand, 1) := by decide +kernel
theorem dX0_cut_25 : decode cX0_cut 25 = .ok (.ireturn, 1) := by decide +kernel
theorem dX0_grown_0 : decode cX0_grown 0 = .ok (.iload_n 0, 1) := by decide +kernel
theorem dX0_grown_1 : decode cX0_grown 1 = .ok (.ifCond .eq 9, 3) := by decide +kernel
theorem dX0_grown_4 : decode cX0_grown 4 = .ok (.iload_n 0, 1) := by decide +kernel
theorem dX0_grown_5 : decode cX0_grown 5 = .ok (.ldc 87, 2) := by decide +kernel
theorem dX0_grown_7 : decode cX0_grown 7 = .ok (.if_icmp .lt 5, 3) := by decide +kernel
theorem dX0_grown_10 : decode cX0_grown 10 = .ok (.iload_n 0, 1) := by decide +kernel
theorem dX0_grown_11 : decode cX0_grown 11 = .ok (.ireturn, 1) := by decide +kernel
theorem dX0_grown_12 : decode cX0_grown 12 = .ok (.iload_n 0, 1) := by decide +kernel
theorem dX0_grown_13 : decode cX0_grown 13 = .ok (.ldc 86, 2) := by decide +kernel
theorem dX0_grown_15 : decode cX0_grown 15 = .ok (.if_icmp .ge 6, 3) := by decide +kernel
theorem dX0_grown_18 : decode cX0_grown 18 = .ok (.ldc 86, 2) := by decide +kernel
theorem dX0_grown_20 : decode cX0_grown 20 = .ok (.ireturn, 1) := by decide +kernel
theorem dX0_grown_21 : decode cX0_grown 21 = .ok (.iload_n 0, 1) := by decide +kernel
theorem dX0_grown_22 : decode cX0_grown 22 = .ok (.invokestatic 88, 3) := by decide +kernel
theorem dX0_grown_25 : decode cX0_grown 25 = .ok (.istore_n 1, 1) := by decide +kernel
theorem dX0_grown_26 : decode cX0_grown 26 = .ok (.iload_n 0, 1) := by decide +kernel
theorem dX0_grown_27 : decode cX0_grown 27 = .ok (.iload_n 1, 1) := by decide +kernel
theorem dX0_grown_28 : decode cX0_grown 28 = .ok (.iadd, 1) := by decide +kernel
theorem dX0_grown_29 : decode cX0_grown 29 = .ok (.iconst 1, 1) := by decide +kernel
theorem dX0_grown_30 : decode cX0_grown 30 = .ok (.isub, 1) := by decide +kernel
theorem dX0_grown_31 : decode cX0_grown 31 = .ok (.iload_n 1, 1) := by decide +kernel
theorem dX0_grown_32 : decode cX0_grown 32 = .ok (.ineg, 1) := by decide +kernel
theorem dX0_grown_33 : decode cX0_grown 33 = .ok (.iand, 1) := by decide +kernel
theorem dX0_grown_34 : decode cX0_grown 34 = .ok (.ireturn, 1) := by decide +kernel
theorem dX0_nearestWhole_0 : decode cX0_nearestWhole 0 = .ok (.iload_n 0, 1) := by decide +kernel
theorem dX0_nearestWhole_1 : decode cX0_nearestWhole 1 = .ok (.ldc 87, 2) := by decide +kernel
theorem dX0_nearestWhole_3 : decode cX0_nearestWhole 3 = .ok (.if_icmp .lt 5, 3) := by decide +kernel
theorem dX0_nearestWhole_6 : decode cX0_nearestWhole 6 = .ok (.iload_n 0, 1) := by decide +kernel
theorem dX0_nearestWhole_7 : decode cX0_nearestWhole 7 = .ok (.ireturn, 1) := by decide +kernel
theorem dX0_nearestWhole_8 : decode cX0_nearestWhole 8 = .ok (.iload_n 0, 1) := by decide +kernel
theorem dX0_nearestWhole_9 : decode cX0_nearestWhole 9 = .ok (.ldc 86, 2) := by decide +kernel
theorem dX0_nearestWhole_11 : decode cX0_nearestWhole 11 = .ok (.if_icmp .ge 16, 3) := by decide +kernel
theorem dX0_nearestWhole_14 : decode cX0_nearestWhole 14 = .ok (.iload_n 0, 1) := by decide +kernel
theorem dX0_nearestWhole_15 : decode cX0_nearestWhole 15 = .ok (.ldc 91, 2) := by decide +kernel
theorem dX0_nearestWhole_17 : decode cX0_nearestWhole 17 = .ok (.if_icmp .gt 7, 3) := by decide +kernel
theorem dX0_nearestWhole_20 : decode cX0_nearestWhole 20 = .ok (.iconst 0, 1) := by decide +kernel
theorem dX0_nearestWhole_21 : decode cX0_nearestWhole 21 = .ok (.goto 5, 3) := by decide +kernel
theorem dX0_nearestWhole_24 : decode cX0_nearestWhole 24 = .ok (.ldc 86, 2) := by decide +kernel
theorem dX0_nearestWhole_26 : decode cX0_nearestWhole 26 = .ok (.ireturn, 1) := by decide +kernel
theorem dX0_nearestWhole_27 : decode cX0_nearestWhole 27 = .ok (.iload_n 0, 1) := by decide +kernel
theorem dX0_nearestWhole_28 : decode cX0_nearestWhole 28 = .ok (.invokestatic 88, 3) := by decide +kernel
theorem dX0_nearestWhole_31 : decode cX0_nearestWhole 31 = .ok (.istore_n 1, 1) := by decide +kernel
theorem dX0_nearestWhole_32 : decode cX0_nearestWhole 32 = .ok (.iload_n 0, 1) := by decide +kernel
theorem dX0_nearestWhole_33 : decode cX0_nearestWhole 33 = .ok (.iload_n 1, 1) := by decide +kernel
theorem dX0_nearestWhole_34 : decode cX0_nearestWhole 34 = .ok (.ineg, 1) := by decide +kernel
theorem dX0_nearestWhole_35 : decode cX0_nearestWhole 35 = .ok (.iand, 1) := by decide +kernel
theorem dX0_nearestWhole_36 : decode cX0_nearestWhole 36 = .ok (.istore_n 2, 1) := by decide +kernel
theorem dX0_nearestWhole_37 : decode cX0_nearestWhole 37 = .ok (.iload_n 0, 1) := by decide +kernel
theorem dX0_nearestWhole_38 : decode cX0_nearestWhole 38 = .ok (.iload_n 2, 1) := by decide +kernel
theorem dX0_nearestWhole_39 : decode cX0_nearestWhole 39 = .ok (.isub, 1) := by decide +kernel
theorem dX0_nearestWhole_40 : decode cX0_nearestWhole 40 = .ok (.istore_n 3, 1) := by decide +kernel
theorem dX0_nearestWhole_41 : decode cX0_nearestWhole 41 = .ok (.iload_n 1, 1) := by decide +kernel
theorem dX0_nearestWhole_42 : decode cX0_nearestWhole 42 = .ok (.iconst 1, 1) := by decide +kernel
theorem dX0_nearestWhole_43 : decode cX0_nearestWhole 43 = .ok (.ishr, 1) := by decide +kernel
theorem dX0_nearestWhole_44 : decode cX0_nearestWhole 44 = .ok (.istore 4, 2) := by decide +kernel
theorem dX0_nearestWhole_46 : decode cX0_nearestWhole 46 = .ok (.iload_n 3, 1) := by decide +kernel
theorem dX0_nearestWhole_47 : decode cX0_nearestWhole 47 = .ok (.iload 4, 2) := by decide +kernel
theorem dX0_nearestWhole_49 : decode cX0_nearestWhole 49 = .ok (.if_icmp .gt 15, 3) := by decide +kernel
theorem dX0_nearestWhole_52 : decode cX0_nearestWhole 52 = .ok (.iload_n 3, 1) := by decide +kernel
theorem dX0_nearestWhole_53 : decode cX0_nearestWhole 53 = .ok (.iload 4, 2) := by decide +kernel
theorem dX0_nearestWhole_55 : decode cX0_nearestWhole 55 = .ok (.if_icmp .ne 13, 3) := by decide +kernel
theorem dX0_nearestWhole_58 : decode cX0_nearestWhole 58 = .ok (.iload_n 2, 1) := by decide +kernel
theorem dX0_nearestWhole_59 : decode cX0_nearestWhole 59 = .ok (.iload_n 1, 1) := by decide +kernel
theorem dX0_nearestWhole_60 : decode cX0_nearestWhole 60 = .ok (.iand, 1) := by decide +kernel
theorem dX0_nearestWhole_61 : decode cX0_nearestWhole 61 = .ok (.ifCond .eq 7, 3) := by decide +kernel
theorem dX0_nearestWhole_64 : decode cX0_nearestWhole 64 = .ok (.iconst 1, 1) := by decide +kernel
theorem dX0_nearestWhole_65 : decode cX0_nearestWhole 65 = .ok (.goto 4, 3) := by decide +kernel
theorem dX0_nearestWhole_68 : decode cX0_nearestWhole 68 = .ok (.iconst 0, 1) := by decide +kernel
theorem dX0_nearestWhole_69 : decode cX0_nearestWhole 69 = .ok (.istore 5, 2) := by decide +kernel
theorem dX0_nearestWhole_71 : decode cX0_nearestWhole 71 = .ok (.iload 5, 2) := by decide +kernel
theorem dX0_nearestWhole_73 : decode cX0_nearestWhole 73 = .ok (.ifCond .eq 9, 3) := by decide +kernel
theorem dX0_nearestWhole_76 : decode cX0_nearestWhole 76 = .ok (.iload_n 2, 1) := by decide +kernel
theorem dX0_nearestWhole_77 : decode cX0_nearestWhole 77 = .ok (.iload_n 1, 1) := by decide +kernel
theorem dX0_nearestWhole_78 : decode cX0_nearestWhole 78 = .ok (.iadd, 1) := by decide +kernel
theorem dX0_nearestWhole_79 : decode cX0_nearestWhole 79 = .ok (.goto 4, 3) := by decide +kernel
theorem dX0_nearestWhole_82 : decode cX0_nearestWhole 82 = .ok (.iload_n 2, 1) := by decide +kernel
theorem dX0_nearestWhole_83 : decode cX0_nearestWhole 83 = .ok (.ireturn, 1) := by decide +kernel
theorem dX0_unitOf_0 : decode cX0_unitOf 0 = .ok (.iconst 1, 1) := by decide +kernel
theorem dX0_unitOf_1 : decode cX0_unitOf 1 = .ok (.sipush 150, 3) := by decide +kernel
theorem dX0_unitOf_4 : decode cX0_unitOf 4 = .ok (.iload_n 0, 1) := by decide +kernel
theorem dX0_unitOf_5 : decode cX0_unitOf 5 = .ok (.bipush 23, 2) := by decide +kernel
theorem dX0_unitOf_7 : decode cX0_unitOf 7 = .ok (.iushr, 1) := by decide +kernel
theorem dX0_unitOf_8 : decode cX0_unitOf 8 = .ok (.isub, 1) := by decide +kernel
theorem dX0_unitOf_9 : decode cX0_unitOf 9 = .ok (.ishl, 1) := by decide +kernel
theorem dX0_unitOf_10 : decode cX0_unitOf 10 = .ok (.ireturn, 1) := by decide +kernel
theorem dX0_asInt_0 : decode cX0_asInt 0 = .ok (.iload_n 1, 1) := by decide +kernel
theorem dX0_asInt_1 : decode cX0_asInt 1 = .ok (.ldc 86, 2) := by decide +kernel
theorem dX0_asInt_3 : decode cX0_asInt 3 = .ok (.if_icmp .ge 5, 3) := by decide +kernel
theorem dX0_asInt_6 : decode cX0_asInt 6 = .ok (.iconst 0, 1) := by decide +kernel
theorem dX0_asInt_7 : decode cX0_asInt 7 = .ok (.ireturn, 1) := by decide +kernel
theorem dX0_asInt_8 : decode cX0_asInt 8 = .ok (.iload_n 0, 1) := by decide +kernel
theorem dX0_asInt_9 : decode cX0_asInt 9 = .ok (.iload_n 1, 1) := by decide +kernel
theorem dX0_asInt_10 : decode cX0_asInt 10 = .ok (.ldc 92, 2) := by decide +kernel
theorem dX0_asInt_12 : decode cX0_asInt 12 = .ok (.if_icmp .lt 8, 3) := by decide +kernel
theorem dX0_asInt_15 : decode cX0_asInt 15 = .ok (.ldc 92, 2) := by decide +kernel
theorem dX0_asInt_17 : decode cX0_asInt 17 = .ok (.goto 7, 3) := by decide +kernel
theorem dX0_asInt_20 : decode cX0_asInt 20 = .ok (.iload_n 1, 1) := by decide +kernel
theorem dX0_asInt_21 : decode cX0_asInt 21 = .ok (.invokestatic 18, 3) := by decide +kernel
theorem dX0_asInt_24 : decode cX0_asInt 24 = .ok (.ior, 1) := by decide +kernel
theorem dX0_asInt_25 : decode cX0_asInt 25 = .ok (.ireturn, 1) := by decide +kernel
theorem dX1_init_0 : decode cX1_init 0 = .ok (.aload_n 0, 1) := by decide +kernel
theorem dX1_init_1 : decode cX1_init 1 = .ok (.invokespecial 3, 3) := by decide +kernel
theorem dX1_init_4 : decode cX1_init 4 = .ok (.aload_n 0, 1) := by decide +kernel
theorem dX1_init_5 : decode cX1_init 5 = .ok (.iconst 4, 1) := by decide +kernel
theorem dX1_init_6 : decode cX1_init 6 = .ok (.newarray .int, 2) := by decide +kernel
theorem dX1_init_8 : decode cX1_init 8 = .ok (.putfield 9, 3) := by decide +kernel
theorem dX1_init_11 : decode cX1_init 11 = .ok (.aload_n 0, 1) := by decide +kernel
theorem dX1_init_12 : decode cX1_init 12 = .ok (.iconst 4, 1) := by decide +kernel
theorem dX1_init_13 : decode cX1_init 13 = .ok (.newarray .int, 2) := by decide +kernel
theorem dX1_init_15 : decode cX1_init 15 = .ok (.putfield 15, 3) := by decide +kernel
theorem dX1_init_18 : decode cX1_init 18 = .ok (.aload_n 0, 1) := by decide +kernel
theorem dX1_init_19 : decode cX1_init 19 = .ok (.getfield 9, 3) := by decide +kernel
theorem dX1_init_22 : decode cX1_init 22 = .ok (.ldc 18, 2) := by decide +kernel
theorem dX1_init_24 : decode cX1_init 24 = .ok (.invokestatic 19, 3) := by decide +kernel
theorem dX1_init_27 : decode cX1_init 27 = .ok (.aload_n 0, 1) := by decide +kernel
theorem dX1_init_28 : decode cX1_init 28 = .ok (.getfield 15, 3) := by decide +kernel
theorem dX1_init_31 : decode cX1_init 31 = .ok (.ldc 25, 2) := by decide +kernel
theorem dX1_init_33 : decode cX1_init 33 = .ok (.invokestatic 19, 3) := by decide +kernel
theorem dX1_init_36 : decode cX1_init 36 = .ok (.return_, 1) := by decide +kernel
theorem dX1_put_0 : decode cX1_put 0 = .ok (.aload_n 0, 1) := by decide +kernel
theorem dX1_put_1 : decode cX1_put 1 = .ok (.getfield 9, 3) := by decide +kernel
theorem dX1_put_4 : decode cX1_put 4 = .ok (.iload_n 1, 1) := by decide +kernel
theorem dX1_put_5 : decode cX1_put 5 = .ok (.iload_n 2, 1) := by decide +kernel
theorem dX1_put_6 : decode cX1_put 6 = .ok (.iastore, 1) := by decide +kernel
theorem dX1_put_7 : decode cX1_put 7 = .ok (.aload_n 0, 1) := by decide +kernel
theorem dX1_put_8 : decode cX1_put 8 = .ok (.getfield 15, 3) := by decide +kernel
theorem dX1_put_11 : decode cX1_put 11 = .ok (.iload_n 1, 1) := by decide +kernel
theorem dX1_put_12 : decode cX1_put 12 = .ok (.iload_n 3, 1) := by decide +kernel
theorem dX1_put_13 : decode cX1_put 13 = .ok (.iastore, 1) := by decide +kernel
theorem dX1_put_14 : decode cX1_put 14 = .ok (.return_, 1) := by decide +kernel
theorem dX1_follow_0 : decode cX1_follow 0 = .ok (.iconst 0, 1) := by decide +kernel
theorem dX1_follow_1 : decode cX1_follow 1 = .ok (.istore_n 2, 1) := by decide +kernel
theorem dX1_follow_2 : decode cX1_follow 2 = .ok (.iconst 0, 1) := by decide +kernel
theorem dX1_follow_3 : decode cX1_follow 3 = .ok (.istore_n 3, 1) := by decide +kernel
theorem dX1_follow_4 : decode cX1_follow 4 = .ok (.iload_n 3, 1) := by decide +kernel
theorem dX1_follow_5 : decode cX1_follow 5 = .ok (.iconst 4, 1) := by decide +kernel
theorem dX1_follow_6 : decode cX1_follow 6 = .ok (.if_icmp .ge 62, 3) := by decide +kernel
theorem dX1_follow_9 : decode cX1_follow 9 = .ok (.aload_n 0, 1) := by decide +kernel
theorem dX1_follow_10 : decode cX1_follow 10 = .ok (.getfield 9, 3) := by decide +kernel
theorem dX1_follow_13 : decode cX1_follow 13 = .ok (.iload_n 3, 1) := by decide +kernel
theorem dX1_follow_14 : decode cX1_follow 14 = .ok (.iaload, 1) := by decide +kernel
theorem dX1_follow_15 : decode cX1_follow 15 = .ok (.aload_n 1, 1) := by decide +kernel
theorem dX1_follow_16 : decode cX1_follow 16 = .ok (.getfield 9, 3) := by decide +kernel
theorem dX1_follow_19 : decode cX1_follow 19 = .ok (.iload_n 3, 1) := by decide +kernel
theorem dX1_follow_20 : decode cX1_follow 20 = .ok (.iaload, 1) := by decide +kernel
theorem dX1_follow_21 : decode cX1_follow 21 = .ok (.if_icmp .ne 18, 3) := by decide +kernel
theorem dX1_follow_24 : decode cX1_follow 24 = .ok (.aload_n 0, 1) := by decide +kernel
theorem dX1_follow_25 : decode cX1_follow 25 = .ok (.getfield 15, 3) := by decide +kernel
theorem dX1_follow_28 : decode cX1_follow 28 = .ok (.iload_n 3, 1) := by decide +kernel
theorem dX1_follow_29 : decode cX1_follow 29 = .ok (.iaload, 1) := by decide +kernel
theorem dX1_follow_30 : decode cX1_follow 30 = .ok (.aload_n 1, 1) := by decide +kernel
theorem dX1_follow_31 : decode cX1_follow 31 = .ok (.getfield 15, 3) := by decide +kernel
theorem dX1_follow_34 : decode cX1_follow 34 = .ok (.iload_n 3, 1) := by decide +kernel
theorem dX1_follow_35 : decode cX1_follow 35 = .ok (.iaload, 1) := by decide +kernel
theorem dX1_follow_36 : decode cX1_follow 36 = .ok (.if_icmp .eq 26, 3) := by decide +kernel
theorem dX1_follow_39 : decode cX1_follow 39 = .ok (.iload_n 2, 1) := by decide +kernel
theorem dX1_follow_40 : decode cX1_follow 40 = .ok (.iconst 1, 1) := by decide +kernel
theorem dX1_follow_41 : decode cX1_follow 41 = .ok (.iload_n 3, 1) := by decide +kernel
theorem dX1_follow_42 : decode cX1_follow 42 = .ok (.ishl, 1) := by decide +kernel
theorem dX1_follow_43 : decode cX1_follow 43 = .ok (.ior, 1) := by decide +kernel
theorem dX1_follow_44 : decode cX1_follow 44 = .ok (.istore_n 2, 1) := by decide +kernel
theorem dX1_follow_45 : decode cX1_follow 45 = .ok (.aload_n 0, 1) := by decide +kernel
theorem dX1_follow_46 : decode cX1_follow 46 = .ok (.iload_n 3, 1) := by decide +kernel
theorem dX1_follow_47 : decode cX1_follow 47 = .ok (.aload_n 1, 1) := by decide +kernel
theorem dX1_follow_48 : decode cX1_follow 48 = .ok (.getfield 9, 3) := by decide +kernel
theorem dX1_follow_51 : decode cX1_follow 51 = .ok (.iload_n 3, 1) := by decide +kernel
theorem dX1_follow_52 : decode cX1_follow 52 = .ok (.iaload, 1) := by decide +kernel
theorem dX1_follow_53 : decode cX1_follow 53 = .ok (.aload_n 1, 1) := by decide +kernel
theorem dX1_follow_54 : decode cX1_follow 54 = .ok (.getfield 15, 3) := by decide +kernel
theorem dX1_follow_57 : decode cX1_follow 57 = .ok (.iload_n 3, 1) := by decide +kernel
theorem dX1_follow_58 : decode cX1_follow 58 = .ok (.iaload, 1) := by decide +kernel
theorem dX1_follow_59 : decode cX1_follow 59 = .ok (.invokevirtual 26, 3) := by decide +kernel
theorem dX1_follow_62 : decode cX1_follow 62 = .ok (.iinc 3 1, 3) := by decide +kernel
theorem dX1_follow_65 : decode cX1_follow 65 = .ok (.goto (-61), 3) := by decide +kernel
theorem dX1_follow_68 : decode cX1_follow 68 = .ok (.iload_n 2, 1) := by decide +kernel
theorem dX1_follow_69 : decode cX1_follow 69 = .ok (.ireturn, 1) := by decide +kernel
theorem dX1_firstWide_0 : decode cX1_firstWide 0 = .ok (.iconst 0, 1) := by decide +kernel
theorem dX1_firstWide_1 : decode cX1_firstWide 1 = .ok (.istore_n 1, 1) := by decide +kernel
theorem dX1_firstWide_2 : decode cX1_firstWide 2 = .ok (.iload_n 1, 1) := by decide +kernel
theorem dX1_firstWide_3 : decode cX1_firstWide 3 = .ok (.iconst 4, 1) := by decide +kernel
theorem dX1_firstWide_4 : decode cX1_firstWide 4 = .ok (.if_icmp .ge 24, 3) := by decide +kernel
theorem dX1_firstWide_7 : decode cX1_firstWide 7 = .ok (.aload_n 0, 1) := by decide +kernel
theorem dX1_firstWide_8 : decode cX1_firstWide 8 = .ok (.getfield 9, 3) := by decide +kernel
theorem dX1_firstWide_11 : decode cX1_firstWide 11 = .ok (.iload_n 1, 1) := by decide +kernel
theorem dX1_firstWide_12 : decode cX1_firstWide 12 = .ok (.iaload, 1) := by decide +kernel
theorem dX1_firstWide_13 : decode cX1_firstWide 13 = .ok (.aload_n 0, 1) := by decide +kernel
theorem dX1_firstWide_14 : decode cX1_firstWide 14 = .ok (.getfield 15, 3) := by decide +kernel
theorem dX1_firstWide_17 : decode cX1_firstWide 17 = .ok (.iload_n 1, 1) := by decide +kernel
theorem dX1_firstWide_18 : decode cX1_firstWide 18 = .ok (.iaload, 1) := by decide +kernel
theorem dX1_firstWide_19 : decode cX1_firstWide 19 = .ok (.if_icmp .ne 9, 3) := by decide +kernel
theorem dX1_firstWide_22 : decode cX1_firstWide 22 = .ok (.iinc 1 1, 3) := by decide +kernel
theorem dX1_firstWide_25 : decode cX1_firstWide 25 = .ok (.goto (-23), 3) := by decide +kernel
theorem dX1_firstWide_28 : decode cX1_firstWide 28 = .ok (.iload_n 1, 1) := by decide +kernel
theorem dX1_firstWide_29 : decode cX1_firstWide 29 = .ok (.ireturn, 1) := by decide +kernel
theorem dX2_isNone_0 : decode cX2_isNone 0 = .ok (.iload_n 0, 1) := by decide +kernel
theorem dX2_isNone_1 : decode cX2_isNone 1 = .ok (.ldc 9, 2) := by decide +kernel
theorem dX2_isNone_3 : decode cX2_isNone 3 = .ok (.iand, 1) := by decide +kernel
theorem dX2_isNone_4 : decode cX2_isNone 4 = .ok (.ldc 10, 2) := by decide +kernel
theorem dX2_isNone_6 : decode cX2_isNone 6 = .ok (.if_icmp .le 7, 3) := by decide +kernel
theorem dX2_isNone_9 : decode cX2_isNone 9 = .ok (.iconst 1, 1) := by decide +kernel
theorem dX2_isNone_10 : decode cX2_isNone 10 = .ok (.goto 4, 3) := by decide +kernel
theorem dX2_isNone_13 : decode cX2_isNone 13 = .ok (.iconst 0, 1) := by decide +kernel
theorem dX2_isNone_14 : decode cX2_isNone 14 = .ok (.ireturn, 1) := by decide +kernel
theorem dX2_placeOf_0 : decode cX2_placeOf 0 = .ok (.iload_n 0, 1) := by decide +kernel
theorem dX2_placeOf_1 : decode cX2_placeOf 1 = .ok (.ifCond .ge 10, 3) := by decide +kernel
theorem dX2_placeOf_4 : decode cX2_placeOf 4 = .ok (.iload_n 0, 1) := by decide +kernel
theorem dX2_placeOf_5 : decode cX2_placeOf 5 = .ok (.ldc 9, 2) := by decide +kernel
theorem dX2_placeOf_7 : decode cX2_placeOf 7 = .ok (.ixor, 1) := by decide +kernel
theorem dX2_placeOf_8 : decode cX2_placeOf 8 = .ok (.goto 4, 3) := by decide +kernel
theorem dX2_placeOf_11 : decode cX2_placeOf 11 = .ok (.iload_n 0, 1) := by decide +kernel
theorem dX2_placeOf_12 : decode cX2_placeOf 12 = .ok (.ireturn, 1) := by decide +kernel
theorem dX2_bitsAt_0 : decode cX2_bitsAt 0 = .ok (.iload_n 0, 1) := by decide +kernel
theorem dX2_bitsAt_1 : decode cX2_bitsAt 1 = .ok (.ifCond .ge 10, 3) := by decide +kernel
theorem dX2_bitsAt_4 : decode cX2_bitsAt 4 = .ok (.iload_n 0, 1) := by decide +kernel
theorem dX2_bitsAt_5 : decode cX2_bitsAt 5 = .ok (.ldc 9, 2) := by decide +kernel
theorem dX2_bitsAt_7 : decode cX2_bitsAt 7 = .ok (.ixor, 1) := by decide +kernel
theorem dX2_bitsAt_8 : decode cX2_bitsAt 8 = .ok (.goto 4, 3) := by decide +kernel
theorem dX2_bitsAt_11 : decode cX2_bitsAt 11 = .ok (.iload_n 0, 1) := by decide +kernel
theorem dX2_bitsAt_12 : decode cX2_bitsAt 12 = .ok (.ireturn, 1) := by decide +kernel
theorem dX2_rank_0 : decode cX2_rank 0 = .ok (.iload_n 0, 1) := by decide +kernel
theorem dX2_rank_1 : decode cX2_rank 1 = .ok (.ifCond .ge 9, 3) := by decide +kernel
theorem dX2_rank_4 : decode cX2_rank 4 = .ok (.iload_n 0, 1) := by decide +kernel
theorem dX2_rank_5 : decode cX2_rank 5 = .ok (.iconst 1, 1) := by decide +kernel
theorem dX2_rank_6 : decode cX2_rank 6 = .ok (.iadd, 1) := by decide +kernel
theorem dX2_rank_7 : decode cX2_rank 7 = .ok (.goto 4, 3) := by decide +kernel
theorem dX2_rank_10 : decode cX2_rank 10 = .ok (.iload_n 0, 1) := by decide +kernel
theorem dX2_rank_11 : decode cX2_rank 11 = .ok (.ireturn, 1) := by decide +kernel
theorem dX2_significand_0 : decode cX2_significand 0 = .ok (.iload_n 0, 1) := by decide +kernel
theorem dX2_significand_1 : decode cX2_significand 1 = .ok (.ldc 11, 2) := by decide +kernel
theorem dX2_significand_3 : decode cX2_significand 3 = .ok (.iand, 1) := by decide +kernel
theorem dX2_significand_4 : decode cX2_significand 4 = .ok (.istore_n 1, 1) := by decide +kernel
theorem dX2_significand_5 : decode cX2_significand 5 = .ok (.iload_n 0, 1) := by decide +kernel
theorem dX2_significand_6 : decode cX2_significand 6 = .ok (.ldc 10, 2) := by decide +kernel
theorem dX2_significand_8 : decode cX2_significand 8 = .ok (.iand, 1) := by decide +kernel
theorem dX2_significand_9 : decode cX2_significand 9 = .ok (.ifCond .ne 8, 3) := by decide +kernel
theorem dX2_significand_12 : decode cX2_significand 12 = .ok (.iload_n 1, 1) := by decide +kernel
theorem dX2_significand_13 : decode cX2_significand 13 = .ok (.i2l, 1) := by decide +kernel
theorem dX2_significand_14 : decode cX2_significand 14 = .ok (.goto 8, 3) := by decide +kernel
theorem dX2_significand_17 : decode cX2_significand 17 = .ok (.iload_n 1, 1) := by decide +kernel
theorem dX2_significand_18 : decode cX2_significand 18 = .ok (.ldc 12, 2) := by decide +kernel
theorem dX2_significand_20 : decode cX2_significand 20 = .ok (.ior, 1) := by decide +kernel
theorem dX2_significand_21 : decode cX2_significand 21 = .ok (.i2l, 1) := by decide +kernel
theorem dX2_significand_22 : decode cX2_significand 22 = .ok (.lreturn, 1) := by decide +kernel
theorem dX2_exponent_0 : decode cX2_exponent 0 = .ok (.iload_n 0, 1) := by decide +kernel
theorem dX2_exponent_1 : decode cX2_exponent 1 = .ok (.ldc 9, 2) := by decide +kernel
theorem dX2_exponent_3 : decode cX2_exponent 3 = .ok (.iand, 1) := by decide +kernel
theorem dX2_exponent_4 : decode cX2_exponent 4 = .ok (.bipush 23, 2) := by decide +kernel
theorem dX2_exponent_6 : decode cX2_exponent 6 = .ok (.iushr, 1) := by decide +kernel
theorem dX2_exponent_7 : decode cX2_exponent 7 = .ok (.istore_n 1, 1) := by decide +kernel
theorem dX2_exponent_8 : decode cX2_exponent 8 = .ok (.iload_n 1, 1) := by decide +kernel
theorem dX2_exponent_9 : decode cX2_exponent 9 = .ok (.ifCond .ne 9, 3) := by decide +kernel
theorem dX2_exponent_12 : decode cX2_exponent 12 = .ok (.sipush (-149), 3) := by decide +kernel
theorem dX2_exponent_15 : decode cX2_exponent 15 = .ok (.goto 8, 3) := by decide +kernel
theorem dX2_exponent_18 : decode cX2_exponent 18 = .ok (.iload_n 1, 1) := by decide +kernel
theorem dX2_exponent_19 : decode cX2_exponent 19 = .ok (.sipush 150, 3) := by decide +kernel
theorem dX2_exponent_22 : decode cX2_exponent 22 = .ok (.isub, 1) := by decide +kernel
theorem dX2_exponent_23 : decode cX2_exponent 23 = .ok (.ireturn, 1) := by decide +kernel
theorem dX2_nearest_0 : decode cX2_nearest 0 = .ok (.lload_n 1, 1) := by decide +kernel
theorem dX2_nearest_1 : decode cX2_nearest 1 = .ok (.lconst 0, 1) := by decide +kernel
theorem dX2_nearest_2 : decode cX2_nearest 2 = .ok (.lcmp, 1) := by decide +kernel
theorem dX2_nearest_3 : decode cX2_nearest 3 = .ok (.ifCond .ne 5, 3) := by decide +kernel
theorem dX2_nearest_6 : decode cX2_nearest 6 = .ok (.iload_n 0, 1) := by decide +kernel
theorem dX2_nearest_7 : decode cX2_nearest 7 = .ok (.ireturn, 1) := by decide +kernel
theorem dX2_nearest_8 : decode cX2_nearest 8 = .ok (.bipush 64, 2) := by decide +kernel
theorem dX2_nearest_10 : decode cX2_nearest 10 = .ok (.lload_n 1, 1) := by decide +kernel
theorem dX2_nearest_11 : decode cX2_nearest 11 = .ok (.invokestatic 13, 3) := by decide +kernel
theorem dX2_nearest_14 : decode cX2_nearest 14 = .ok (.isub, 1) := by decide +kernel
theorem dX2_nearest_15 : decode cX2_nearest 15 = .ok (.istore 4, 2) := by decide +kernel
theorem dX2_nearest_17 : decode cX2_nearest 17 = .ok (.iload_n 3, 1) := by decide +kernel
theorem dX2_nearest_18 : decode cX2_nearest 18 = .ok (.iload 4, 2) := by decide +kernel
theorem dX2_nearest_20 : decode cX2_nearest 20 = .ok (.iadd, 1) := by decide +kernel
theorem dX2_nearest_21 : decode cX2_nearest 21 = .ok (.bipush 24, 2) := by decide +kernel
theorem dX2_nearest_23 : decode cX2_nearest 23 = .ok (.isub, 1) := by decide +kernel
theorem dX2_nearest_24 : decode cX2_nearest 24 = .ok (.sipush (-149), 3) := by decide +kernel
theorem dX2_nearest_27 : decode cX2_nearest 27 = .ok (.invokestatic 19, 3) := by decide +kernel
theorem dX2_nearest_30 : decode cX2_nearest 30 = .ok (.istore 5, 2) := by decide +kernel
theorem dX2_nearest_32 : decode cX2_nearest 32 = .ok (.iload 5, 2) := by decide +kernel
theorem dX2_nearest_34 : decode cX2_nearest 34 = .ok (.iload_n 3, 1) := by decide +kernel
theorem dX2_nearest_35 : decode cX2_nearest 35 = .ok (.isub, 1) := by decide +kernel
theorem dX2_nearest_36 : decode cX2_nearest 36 = .ok (.istore 6, 2) := by decide +kernel
theorem dX2_nearest_38 : decode cX2_nearest 38 = .ok (.iload 5, 2) := by decide +kernel
theorem dX2_nearest_40 : decode cX2_nearest 40 = .ok (.bipush 104, 2) := by decide +kernel
theorem dX2_nearest_42 : decode cX2_nearest 42 = .ok (.if_icmp .le 8, 3) := by decide +kernel
theorem dX2_nearest_45 : decode cX2_nearest 45 = .ok (.iload_n 0, 1) := by decide +kernel
theorem dX2_nearest_46 : decode cX2_nearest 46 = .ok (.ldc 10, 2) := by decide +kernel
theorem dX2_nearest_48 : decode cX2_nearest 48 = .ok (.ior, 1) := by decide +kernel
theorem dX2_nearest_49 : decode cX2_nearest 49 = .ok (.ireturn, 1) := by decide +kernel
theorem dX2_nearest_50 : decode cX2_nearest 50 = .ok (.iload 6, 2) := by decide +kernel
theorem dX2_nearest_52 : decode cX2_nearest 52 = .ok (.iload 4, 2) := by decide +kernel
theorem dX2_nearest_54 : decode cX2_nearest 54 = .ok (.if_icmp .le 5, 3) := by decide +kernel
theorem dX2_nearest_57 : decode cX2_nearest 57 = .ok (.iload_n 0, 1) := by decide +kernel
theorem dX2_nearest_58 : decode cX2_nearest 58 = .ok (.ireturn, 1) := by decide +kernel
theorem dX2_nearest_59 : decode cX2_nearest 59 = .ok (.lload_n 1, 1) := by decide +kernel
theorem dX2_nearest_60 : decode cX2_nearest 60 = .ok (.iload 6, 2) := by decide +kernel
theorem dX2_nearest_62 : decode cX2_nearest 62 = .ok (.ineg, 1) := by decide +kernel
theorem dX2_nearest_63 : decode cX2_nearest 63 = .ok (.iconst 0, 1) := by decide +kernel
theorem dX2_nearest_64 : decode cX2_nearest 64 = .ok (.invokestatic 19, 3) := by decide +kernel
theorem dX2_nearest_67 : decode cX2_nearest 67 = .ok (.lshl, 1) := by decide +kernel
theorem dX2_nearest_68 : decode cX2_nearest 68 = .ok (.lstore 7, 2) := by decide +kernel
theorem dX2_nearest_70 : decode cX2_nearest 70 = .ok (.iload 6, 2) := by decide +kernel
theorem dX2_nearest_72 : decode cX2_nearest 72 = .ok (.ifCond .le 57, 3) := by decide +kernel
theorem dX2_nearest_75 : decode cX2_nearest 75 = .ok (.lload_n 1, 1) := by decide +kernel
theorem dX2_nearest_76 : decode cX2_nearest 76 = .ok (.iload 6, 2) := by decide +kernel
theorem dX2_nearest_78 : decode cX2_nearest 78 = .ok (.lushr, 1) := by decide +kernel
theorem dX2_nearest_79 : decode cX2_nearest 79 = .ok (.lstore 7, 2) := by decide +kernel
theorem dX2_nearest_81 : decode cX2_nearest 81 = .ok (.lload_n 1, 1) := by decide +kernel
theorem dX2_nearest_82 : decode cX2_nearest 82 = .ok (.lload 7, 2) := by decide +kernel
theorem dX2_nearest_84 : decode cX2_nearest 84 = .ok (.iload 6, 2) := by decide +kernel
theorem dX2_nearest_86 : decode cX2_nearest 86 = .ok (.lshl, 1) := by decide +kernel
theorem dX2_nearest_87 : decode cX2_nearest 87 = .ok (.lsub, 1) := by decide +kernel
theorem dX2_nearest_88 : decode cX2_nearest 88 = .ok (.lstore 9, 2) := by decide +kernel
theorem dX2_nearest_90 : decode cX2_nearest 90 = .ok (.lconst 1, 1) := by decide +kernel
theorem dX2_nearest_91 : decode cX2_nearest 91 = .ok (.iload 6, 2) := by decide +kernel
theorem dX2_nearest_93 : decode cX2_nearest 93 = .ok (.iconst 1, 1) := by decide +kernel
theorem dX2_nearest_94 : decode cX2_nearest 94 = .ok (.isub, 1) := by decide +kernel
theorem dX2_nearest_95 : decode cX2_nearest 95 = .ok (.lshl, 1) := by decide +kernel
theorem dX2_nearest_96 : decode cX2_nearest 96 = .ok (.lstore 11, 2) := by decide +kernel
theorem dX2_nearest_98 : decode cX2_nearest 98 = .ok (.lload 9, 2) := by decide +kernel
theorem dX2_nearest_100 : decode cX2_nearest 100 = .ok (.lload 11, 2) := by decide +kernel
theorem dX2_nearest_102 : decode cX2_nearest 102 = .ok (.lcmp, 1) := by decide +kernel
theorem dX2_nearest_103 : decode cX2_nearest 103 = .ok (.ifCond .gt 20, 3) := by decide +kernel
theorem dX2_nearest_106 : decode cX2_nearest 106 = .ok (.lload 9, 2) := by decide +kernel
theorem dX2_nearest_108 : decode cX2_nearest 108 = .ok (.lload 11, 2) := by decide +kernel
theorem dX2_nearest_110 : decode cX2_nearest 110 = .ok (.lcmp, 1) := by decide +kernel
theorem dX2_nearest_111 : decode cX2_nearest 111 = .ok (.ifCond .ne 18, 3) := by decide +kernel
theorem dX2_nearest_114 : decode cX2_nearest 114 = .ok (.lload 7, 2) := by decide +kernel
theorem dX2_nearest_116 : decode cX2_nearest 116 = .ok (.lconst 1, 1) := by decide +kernel
theorem dX2_nearest_117 : decode cX2_nearest 117 = .ok (.land, 1) := by decide +kernel
theorem dX2_nearest_118 : decode cX2_nearest 118 = .ok (.lconst 1, 1) := by decide +kernel
theorem dX2_nearest_119 : decode cX2_nearest 119 = .ok (.lcmp, 1) := by decide +kernel
theorem dX2_nearest_120 : decode cX2_nearest 120 = .ok (.ifCond .ne 9, 3) := by decide +kernel
theorem dX2_nearest_123 : decode cX2_nearest 123 = .ok (.lload 7, 2) := by decide +kernel
theorem dX2_nearest_125 : decode cX2_nearest 125 = .ok (.lconst 1, 1) := by decide +kernel
theorem dX2_nearest_126 : decode cX2_nearest 126 = .ok (.ladd, 1) := by decide +kernel
theorem dX2_nearest_127 : decode cX2_nearest 127 = .ok (.lstore 7, 2) := by decide +kernel
theorem dX2_nearest_129 : decode cX2_nearest 129 = .ok (.iload_n 0, 1) := by decide +kernel
theorem dX2_nearest_130 : decode cX2_nearest 130 = .ok (.iload 5, 2) := by decide +kernel
theorem dX2_nearest_132 : decode cX2_nearest 132 = .ok (.sipush 149, 3) := by decide +kernel
theorem dX2_nearest_135 : decode cX2_nearest 135 = .ok (.iadd, 1) := by decide +kernel
theorem dX2_nearest_136 : decode cX2_nearest 136 = .ok (.bipush 23, 2) := by decide +kernel
theorem dX2_nearest_138 : decode cX2_nearest 138 = .ok (.ishl, 1) := by decide +kernel
theorem dX2_nearest_139 : decode cX2_nearest 139 = .ok (.lload 7, 2) := by decide +kernel
theorem dX2_nearest_141 : decode cX2_nearest 141 = .ok (.l2i, 1) := by decide +kernel
theorem dX2_nearest_142 : decode cX2_nearest 142 = .ok (.iadd, 1) := by decide +kernel
theorem dX2_nearest_143 : decode cX2_nearest 143 = .ok (.ior, 1) := by decide +kernel
theorem dX2_nearest_144 : decode cX2_nearest 144 = .ok (.ireturn, 1) := by decide +kernel
theorem dX3_init_0 : decode cX3_init 0 = .ok (.aload_n 0, 1) := by decide +kernel
theorem dX3_init_1 : decode cX3_init 1 = .ok (.invokespecial 3, 3) := by decide +kernel
theorem dX3_init_4 : decode cX3_init 4 = .ok (.aload_n 0, 1) := by decide +kernel
theorem dX3_init_5 : decode cX3_init 5 = .ok (.bipush 40, 2) := by decide +kernel
theorem dX3_init_7 : decode cX3_init 7 = .ok (.newarray .int, 2) := by decide +kernel
theorem dX3_init_9 : decode cX3_init 9 = .ok (.putfield 9, 3) := by decide +kernel
theorem dX3_init_12 : decode cX3_init 12 = .ok (.aload_n 0, 1) := by decide +kernel
theorem dX3_init_13 : decode cX3_init 13 = .ok (.bipush 40, 2) := by decide +kernel
theorem dX3_init_15 : decode cX3_init 15 = .ok (.newarray .int, 2) := by decide +kernel
theorem dX3_init_17 : decode cX3_init 17 = .ok (.putfield 15, 3) := by decide +kernel
theorem dX3_init_20 : decode cX3_init 20 = .ok (.aload_n 0, 1) := by decide +kernel
theorem dX3_init_21 : decode cX3_init 21 = .ok (.bipush 40, 2) := by decide +kernel
theorem dX3_init_23 : decode cX3_init 23 = .ok (.newarray .int, 2) := by decide +kernel
theorem dX3_init_25 : decode cX3_init 25 = .ok (.putfield 18, 3) := by decide +kernel
theorem dX3_init_28 : decode cX3_init 28 = .ok (.aload_n 0, 1) := by decide +kernel
theorem dX3_init_29 : decode cX3_init 29 = .ok (.bipush 40, 2) := by decide +kernel
theorem dX3_init_31 : decode cX3_init 31 = .ok (.newarray .int, 2) := by decide +kernel
theorem dX3_init_33 : decode cX3_init 33 = .ok (.putfield 21, 3) := by decide +kernel
theorem dX3_init_36 : decode cX3_init 36 = .ok (.aload_n 0, 1) := by decide +kernel
theorem dX3_init_37 : decode cX3_init 37 = .ok (.bipush 40, 2) := by decide +kernel
theorem dX3_init_39 : decode cX3_init 39 = .ok (.newarray .long, 2) := by decide +kernel
theorem dX3_init_41 : decode cX3_init 41 = .ok (.putfield 24, 3) := by decide +kernel
theorem dX3_init_44 : decode cX3_init 44 = .ok (.aload_n 0, 1) := by decide +kernel
theorem dX3_init_45 : decode cX3_init 45 = .ok (.iconst 4, 1) := by decide +kernel
theorem dX3_init_46 : decode cX3_init 46 = .ok (.newarray .long, 2) := by decide +kernel
theorem dX3_init_48 : decode cX3_init 48 = .ok (.putfield 28, 3) := by decide +kernel
theorem dX3_init_51 : decode cX3_init 51 = .ok (.aload_n 0, 1) := by decide +kernel
theorem dX3_init_52 : decode cX3_init 52 = .ok (.iconst 0, 1) := by decide +kernel
theorem dX3_init_53 : decode cX3_init 53 = .ok (.putfield 31, 3) := by decide +kernel
theorem dX3_init_56 : decode cX3_init 56 = .ok (.return_, 1) := by decide +kernel
theorem dX3_looksAtX_0 : decode cX3_looksAtX 0 = .ok (.iload_n 0, 1) := by decide +kernel
theorem dX3_looksAtX_1 : decode cX3_looksAtX 1 = .ok (.iconst 2, 1) := by decide +kernel
theorem dX3_looksAtX_2 : decode cX3_looksAtX 2 = .ok (.if_icmp .lt 13, 3) := by decide +kernel
theorem dX3_looksAtX_5 : decode cX3_looksAtX 5 = .ok (.iload_n 0, 1) := by decide +kernel
theorem dX3_looksAtX_6 : decode cX3_looksAtX 6 = .ok (.bipush 15, 2) := by decide +kernel
theorem dX3_looksAtX_8 : decode cX3_looksAtX 8 = .ok (.if_icmp .gt 7, 3) := by decide +kernel
theorem dX3_looksAtX_11 : decode cX3_looksAtX 11 = .ok (.iconst 1, 1) := by decide +kernel
theorem dX3_looksAtX_12 : decode cX3_looksAtX 12 = .ok (.goto 4, 3) := by decide +kernel
theorem dX3_looksAtX_15 : decode cX3_looksAtX 15 = .ok (.iconst 0, 1) := by decide +kernel
theorem dX3_looksAtX_16 : decode cX3_looksAtX 16 = .ok (.ireturn, 1) := by decide +kernel
theorem dX3_looksAtY_0 : decode cX3_looksAtY 0 = .ok (.iload_n 0, 1) := by decide +kernel
theorem dX3_looksAtY_1 : decode cX3_looksAtY 1 = .ok (.tableswitch 69 2 14 #[67, 67, 67, 67, 69, 69, 67, 67, 69, 69, 69, 69, 67], 67) := by decide +kernel
theorem dX3_looksAtY_68 : decode cX3_looksAtY 68 = .ok (.iconst 1, 1) := by decide +kernel
theorem dX3_looksAtY_69 : decode cX3_looksAtY 69 = .ok (.ireturn, 1) := by decide +kernel
theorem dX3_looksAtY_70 : decode cX3_looksAtY 70 = .ok (.iconst 0, 1) := by decide +kernel
theorem dX3_looksAtY_71 : decode cX3_looksAtY 71 = .ok (.ireturn, 1) := by decide +kernel
theorem dX3_has_0 : decode cX3_has 0 = .ok (.iload_n 1, 1) := by decide +kernel
theorem dX3_has_1 : decode cX3_has 1 = .ok (.ifCond .lt 15, 3) := by decide +kernel
theorem dX3_has_4 : decode cX3_has 4 = .ok (.iload_n 1, 1) := by decide +kernel
theorem dX3_has_5 : decode cX3_has 5 = .ok (.aload_n 0, 1) := by decide +kernel
theorem dX3_has_6 : decode cX3_has 6 = .ok (.getfield 31, 3) := by decide +kernel
theorem dX3_has_9 : decode cX3_has 9 = .ok (.if_icmp .ge 7, 3) := by decide +kernel
theorem dX3_has_12 : decode cX3_has 12 = .ok (.iconst 1, 1) := by decide +kernel
theorem dX3_has_13 : decode cX3_has 13 = .ok (.goto 4, 3) := by decide +kernel
theorem dX3_has_16 : decode cX3_has 16 = .ok (.iconst 0, 1) := by decide +kernel
theorem dX3_has_17 : decode cX3_has 17 = .ok (.ireturn, 1) := by decide +kernel
theorem dX3_add_0 : decode cX3_add 0 = .ok (.aload_n 0, 1) := by decide +kernel
theorem dX3_add_1 : decode cX3_add 1 = .ok (.getfield 9, 3) := by decide +kernel
theorem dX3_add_4 : decode cX3_add 4 = .ok (.aload_n 0, 1) := by decide +kernel
theorem dX3_add_5 : decode cX3_add 5 = .ok (.getfield 31, 3) := by decide +kernel
theorem dX3_add_8 : decode cX3_add 8 = .ok (.iload_n 1, 1) := by decide +kernel
theorem dX3_add_9 : decode cX3_add 9 = .ok (.iastore, 1) := by decide +kernel
theorem dX3_add_10 : decode cX3_add 10 = .ok (.aload_n 0, 1) := by decide +kernel
theorem dX3_add_11 : decode cX3_add 11 = .ok (.getfield 15, 3) := by decide +kernel
theorem dX3_add_14 : decode cX3_add 14 = .ok (.aload_n 0, 1) := by decide +kernel
theorem dX3_add_15 : decode cX3_add 15 = .ok (.getfield 31, 3) := by decide +kernel
theorem dX3_add_18 : decode cX3_add 18 = .ok (.iload_n 1, 1) := by decide +kernel
theorem dX3_add_19 : decode cX3_add 19 = .ok (.ifCond .ne 15, 3) := by decide +kernel
theorem dX3_add_22 : decode cX3_add 22 = .ok (.iload_n 2, 1) := by decide +kernel
theorem dX3_add_23 : decode cX3_add 23 = .ok (.invokestatic 35, 3) := by decide +kernel
theorem dX3_add_26 : decode cX3_add 26 = .ok (.ifCond .eq 8, 3) := by decide +kernel
theorem dX3_add_29 : decode cX3_add 29 = .ok (.ldc 41, 2) := by decide +kernel
theorem dX3_add_31 : decode cX3_add 31 = .ok (.goto 4, 3) := by decide +kernel
theorem dX3_add_34 : decode cX3_add 34 = .ok (.iload_n 2, 1) := by decide +kernel
theorem dX3_add_35 : decode cX3_add 35 = .ok (.iastore, 1) := by decide +kernel
theorem dX3_add_36 : decode cX3_add 36 = .ok (.aload_n 0, 1) := by decide +kernel
theorem dX3_add_37 : decode cX3_add 37 = .ok (.getfield 18, 3) := by decide +kernel
theorem dX3_add_40 : decode cX3_add 40 = .ok (.aload_n 0, 1) := by decide +kernel
theorem dX3_add_41 : decode cX3_add 41 = .ok (.getfield 31, 3) := by decide +kernel
theorem dX3_add_44 : decode cX3_add 44 = .ok (.iload_n 1, 1) := by decide +kernel
theorem dX3_add_45 : decode cX3_add 45 = .ok (.invokestatic 42, 3) := by decide +kernel
theorem dX3_add_48 : decode cX3_add 48 = .ok (.ifCond .eq 7, 3) := by decide +kernel
theorem dX3_add_51 : decode cX3_add 51 = .ok (.iload_n 3, 1) := by decide +kernel
theorem dX3_add_52 : decode cX3_add 52 = .ok (.goto 4, 3) := by decide +kernel
theorem dX3_add_55 : decode cX3_add 55 = .ok (.iload_n 2, 1) := by decide +kernel
theorem dX3_add_56 : decode cX3_add 56 = .ok (.iastore, 1) := by decide +kernel
theorem dX3_add_57 : decode cX3_add 57 = .ok (.aload_n 0, 1) := by decide +kernel
theorem dX3_add_58 : decode cX3_add 58 = .ok (.aload_n 0, 1) := by decide +kernel
theorem dX3_add_59 : decode cX3_add 59 = .ok (.getfield 31, 3) := by decide +kernel
theorem dX3_add_62 : decode cX3_add 62 = .ok (.invokevirtual 45, 3) := by decide +kernel
theorem dX3_add_65 : decode cX3_add 65 = .ok (.aload_n 0, 1) := by decide +kernel
theorem dX3_add_66 : decode cX3_add 66 = .ok (.dup, 1) := by decide +kernel
theorem dX3_add_67 : decode cX3_add 67 = .ok (.getfield 31, 3) := by decide +kernel
theorem dX3_add_70 : decode cX3_add 70 = .ok (.iconst 1, 1) := by decide +kernel
theorem dX3_add_71 : decode cX3_add 71 = .ok (.iadd, 1) := by decide +kernel
theorem dX3_add_72 : decode cX3_add 72 = .ok (.putfield 31, 3) := by decide +kernel
theorem dX3_add_75 : decode cX3_add 75 = .ok (.aload_n 0, 1) := by decide +kernel
theorem dX3_add_76 : decode cX3_add 76 = .ok (.getfield 31, 3) := by decide +kernel
theorem dX3_add_79 : decode cX3_add 79 = .ok (.iconst 1, 1) := by decide +kernel
theorem dX3_add_80 : decode cX3_add 80 = .ok (.isub, 1) := by decide +kernel
theorem dX3_add_81 : decode cX3_add 81 = .ok (.ireturn, 1) := by decide +kernel
theorem dX3_link_0 : decode cX3_link 0 = .ok (.lconst 1, 1) := by decide +kernel
theorem dX3_link_1 : decode cX3_link 1 = .ok (.iload_n 1, 1) := by decide +kernel
theorem dX3_link_2 : decode cX3_link 2 = .ok (.lshl, 1) := by decide +kernel
theorem dX3_link_3 : decode cX3_link 3 = .ok (.lstore_n 2, 1) := by decide +kernel
theorem dX3_link_4 : decode cX3_link 4 = .ok (.aload_n 0, 1) := by decide +kernel
theorem dX3_link_5 : decode cX3_link 5 = .ok (.getfield 24, 3) := by decide +kernel
theorem dX3_link_8 : decode cX3_link 8 = .ok (.iload_n 1, 1) := by decide +kernel
theorem dX3_link_9 : decode cX3_link 9 = .ok (.aload_n 0, 1) := by decide +kernel
theorem dX3_link_10 : decode cX3_link 10 = .ok (.getfield 9, 3) := by decide +kernel
theorem dX3_link_13 : decode cX3_link 13 = .ok (.iload_n 1, 1) := by decide +kernel
theorem dX3_link_14 : decode cX3_link 14 = .ok (.iaload, 1) := by decide +kernel
theorem dX3_link_15 : decode cX3_link 15 = .ok (.invokestatic 49, 3) := by decide +kernel
theorem dX3_link_18 : decode cX3_link 18 = .ok (.ifCond .eq 31, 3) := by decide +kernel
theorem dX3_link_21 : decode cX3_link 21 = .ok (.lload_n 2, 1) := by decide +kernel
theorem dX3_link_22 : decode cX3_link 22 = .ok (.aload_n 0, 1) := by decide +kernel
theorem dX3_link_23 : decode cX3_link 23 = .ok (.getfield 24, 3) := by decide +kernel
theorem dX3_link_26 : decode cX3_link 26 = .ok (.aload_n 0, 1) := by decide +kernel
theorem dX3_link_27 : decode cX3_link 27 = .ok (.getfield 15, 3) := by decide +kernel
theorem dX3_link_30 : decode cX3_link 30 = .ok (.iload_n 1, 1) := by decide +kernel
theorem dX3_link_31 : decode cX3_link 31 = .ok (.iaload, 1) := by decide +kernel
theorem dX3_link_32 : decode cX3_link 32 = .ok (.laload, 1) := by decide +kernel
theorem dX3_link_33 : decode cX3_link 33 = .ok (.lor, 1) := by decide +kernel
theorem dX3_link_34 : decode cX3_link 34 = .ok (.aload_n 0, 1) := by decide +kernel
theorem dX3_link_35 : decode cX3_link 35 = .ok (.getfield 24, 3) := by decide +kernel
theorem dX3_link_38 : decode cX3_link 38 = .ok (.aload_n 0, 1) := by decide +kernel
theorem dX3_link_39 : decode cX3_link 39 = .ok (.getfield 18, 3) := by decide +kernel
theorem dX3_link_42 : decode cX3_link 42 = .ok (.iload_n 1, 1) := by decide +kernel
theorem dX3_link_43 : decode cX3_link 43 = .ok (.iaload, 1) := by decide +kernel
theorem dX3_link_44 : decode cX3_link 44 = .ok (.laload, 1) := by decide +kernel
theorem dX3_link_45 : decode cX3_link 45 = .ok (.lor, 1) := by decide +kernel
theorem dX3_link_46 : decode cX3_link 46 = .ok (.goto 4, 3) := by decide +kernel
theorem dX3_link_49 : decode cX3_link 49 = .ok (.lload_n 2, 1) := by decide +kernel
theorem dX3_link_50 : decode cX3_link 50 = .ok (.lastore, 1) := by decide +kernel
theorem dX3_link_51 : decode cX3_link 51 = .ok (.aload_n 0, 1) := by decide +kernel
theorem dX3_link_52 : decode cX3_link 52 = .ok (.getfield 9, 3) := by decide +kernel
theorem dX3_link_55 : decode cX3_link 55 = .ok (.iload_n 1, 1) := by decide +kernel
theorem dX3_link_56 : decode cX3_link 56 = .ok (.iaload, 1) := by decide +kernel
theorem dX3_link_57 : decode cX3_link 57 = .ok (.iconst 1, 1) := by decide +kernel
theorem dX3_link_58 : decode cX3_link 58 = .ok (.if_icmp .ne 18, 3) := by decide +kernel
theorem dX3_link_61 : decode cX3_link 61 = .ok (.aload_n 0, 1) := by decide +kernel
theorem dX3_link_62 : decode cX3_link 62 = .ok (.getfield 28, 3) := by decide +kernel
theorem dX3_link_65 : decode cX3_link 65 = .ok (.aload_n 0, 1) := by decide +kernel
theorem dX3_link_66 : decode cX3_link 66 = .ok (.getfield 15, 3) := by decide +kernel
theorem dX3_link_69 : decode cX3_link 69 = .ok (.iload_n 1, 1) := by decide +kernel
theorem dX3_link_70 : decode cX3_link 70 = .ok (.iaload, 1) := by decide +kernel
theorem dX3_link_71 : decode cX3_link 71 = .ok (.dup2, 1) := by decide +kernel
theorem dX3_link_72 : decode cX3_link 72 = .ok (.laload, 1) := by decide +kernel
theorem dX3_link_73 : decode cX3_link 73 = .ok (.lload_n 2, 1) := by decide +kernel
theorem dX3_link_74 : decode cX3_link 74 = .ok (.lor, 1) := by decide +kernel
theorem dX3_link_75 : decode cX3_link 75 = .ok (.lastore, 1) := by decide +kernel
theorem dX3_link_76 : decode cX3_link 76 = .ok (.iconst 0, 1) := by decide +kernel
theorem dX3_link_77 : decode cX3_link 77 = .ok (.istore 4, 2) := by decide +kernel
theorem dX3_link_79 : decode cX3_link 79 = .ok (.iload 4, 2) := by decide +kernel
theorem dX3_link_81 : decode cX3_link 81 = .ok (.iconst 4, 1) := by decide +kernel
theorem dX3_link_82 : decode cX3_link 82 = .ok (.if_icmp .ge 39, 3) := by decide +kernel
theorem dX3_link_85 : decode cX3_link 85 = .ok (.aload_n 0, 1) := by decide +kernel
theorem dX3_link_86 : decode cX3_link 86 = .ok (.getfield 28, 3) := by decide +kernel
theorem dX3_link_89 : decode cX3_link 89 = .ok (.iload 4, 2) := by decide +kernel
theorem dX3_link_91 : decode cX3_link 91 = .ok (.laload, 1) := by decide +kernel
theorem dX3_link_92 : decode cX3_link 92 = .ok (.aload_n 0, 1) := by decide +kernel
theorem dX3_link_93 : decode cX3_link 93 = .ok (.getfield 24, 3) := by decide +kernel
theorem dX3_link_96 : decode cX3_link 96 = .ok (.iload_n 1, 1) := by decide +kernel
theorem dX3_link_97 : decode cX3_link 97 = .ok (.laload, 1) := by decide +kernel
theorem dX3_link_98 : decode cX3_link 98 = .ok (.land, 1) := by decide +kernel
theorem dX3_link_99 : decode cX3_link 99 = .ok (.lconst 0, 1) := by decide +kernel
theorem dX3_link_100 : decode cX3_link 100 = .ok (.lcmp, 1) := by decide +kernel
theorem dX3_link_101 : decode cX3_link 101 = .ok (.ifCond .eq 14, 3) := by decide +kernel
theorem dX3_link_104 : decode cX3_link 104 = .ok (.aload_n 0, 1) := by decide +kernel
theorem dX3_link_105 : decode cX3_link 105 = .ok (.getfield 28, 3) := by decide +kernel
theorem dX3_link_108 : decode cX3_link 108 = .ok (.iload 4, 2) := by decide +kernel
theorem dX3_link_110 : decode cX3_link 110 = .ok (.dup2, 1) := by decide +kernel
theorem dX3_link_111 : decode cX3_link 111 = .ok (.laload, 1) := by decide +kernel
theorem dX3_link_112 : decode cX3_link 112 = .ok (.lload_n 2, 1) := by decide +kernel
theorem dX3_link_113 : decode cX3_link 113 = .ok (.lor, 1) := by decide +kernel
theorem dX3_link_114 : decode cX3_link 114 = .ok (.lastore, 1) := by decide +kernel
theorem dX3_link_115 : decode cX3_link 115 = .ok (.iinc 4 1, 3) := by decide +kernel
theorem dX3_link_118 : decode cX3_link 118 = .ok (.goto (-39), 3) := by decide +kernel
theorem dX3_link_121 : decode cX3_link 121 = .ok (.return_, 1) := by decide +kernel
theorem dX3_evaluate_0 : decode cX3_evaluate 0 = .ok (.iconst 0, 1) := by decide +kernel
theorem dX3_evaluate_1 : decode cX3_evaluate 1 = .ok (.istore_n 2, 1) := by decide +kernel
theorem dX3_evaluate_2 : decode cX3_evaluate 2 = .ok (.iload_n 2, 1) := by decide +kernel
theorem dX3_evaluate_3 : decode cX3_evaluate 3 = .ok (.aload_n 0, 1) := by decide +kernel
theorem dX3_evaluate_4 : decode cX3_evaluate 4 = .ok (.getfield 31, 3) := by decide +kernel
theorem dX3_evaluate_7 : decode cX3_evaluate 7 = .ok (.if_icmp .ge 141, 3) := by decide +kernel
theorem dX3_evaluate_10 : decode cX3_evaluate 10 = .ok (.aload_n 0, 1) := by decide +kernel
theorem dX3_evaluate_11 : decode cX3_evaluate 11 = .ok (.getfield 9, 3) := by decide +kernel
theorem dX3_evaluate_14 : decode cX3_evaluate 14 = .ok (.iload_n 2, 1) := by decide +kernel
theorem dX3_evaluate_15 : decode cX3_evaluate 15 = .ok (.iaload, 1) := by decide +kernel
theorem dX3_evaluate_16 : decode cX3_evaluate 16 = .ok (.ifCond .ne 18, 3) := by decide +kernel
theorem dX3_evaluate_19 : decode cX3_evaluate 19 = .ok (.aload_n 0, 1) := by decide +kernel
theorem dX3_evaluate_20 : decode cX3_evaluate 20 = .ok (.getfield 21, 3) := by decide +kernel
theorem dX3_evaluate_23 : decode cX3_evaluate 23 = .ok (.iload_n 2, 1) := by decide +kernel
theorem dX3_evaluate_24 : decode cX3_evaluate 24 = .ok (.aload_n 0, 1) := by decide +kernel
theorem dX3_evaluate_25 : decode cX3_evaluate 25 = .ok (.getfield 15, 3) := by decide +kernel
theorem dX3_evaluate_28 : decode cX3_evaluate 28 = .ok (.iload_n 2, 1) := by decide +kernel
theorem dX3_evaluate_29 : decode cX3_evaluate 29 = .ok (.iaload, 1) := by decide +kernel
theorem dX3_evaluate_30 : decode cX3_evaluate 30 = .ok (.iastore, 1) := by decide +kernel
theorem dX3_evaluate_31 : decode cX3_evaluate 31 = .ok (.goto 111, 3) := by decide +kernel
theorem dX3_evaluate_34 : decode cX3_evaluate 34 = .ok (.aload_n 0, 1) := by decide +kernel
theorem dX3_evaluate_35 : decode cX3_evaluate 35 = .ok (.getfield 9, 3) := by decide +kernel
theorem dX3_evaluate_38 : decode cX3_evaluate 38 = .ok (.iload_n 2, 1) := by decide +kernel
theorem dX3_evaluate_39 : decode cX3_evaluate 39 = .ok (.iaload, 1) := by decide +kernel
theorem dX3_evaluate_40 : decode cX3_evaluate 40 = .ok (.iconst 1, 1) := by decide +kernel
theorem dX3_evaluate_41 : decode cX3_evaluate 41 = .ok (.if_icmp .ne 23, 3) := by decide +kernel
theorem dX3_evaluate_44 : decode cX3_evaluate 44 = .ok (.aload_n 0, 1) := by decide +kernel
theorem dX3_evaluate_45 : decode cX3_evaluate 45 = .ok (.getfield 21, 3) := by decide +kernel
theorem dX3_evaluate_48 : decode cX3_evaluate 48 = .ok (.iload_n 2, 1) := by decide +kernel
theorem dX3_evaluate_49 : decode cX3_evaluate 49 = .ok (.aload_n 1, 1) := by decide +kernel
theorem dX3_evaluate_50 : decode cX3_evaluate 50 = .ok (.aload_n 0, 1) := by decide +kernel
theorem dX3_evaluate_51 : decode cX3_evaluate 51 = .ok (.getfield 15, 3) := by decide +kernel
theorem dX3_evaluate_54 : decode cX3_evaluate 54 = .ok (.iload_n 2, 1) := by decide +kernel
theorem dX3_evaluate_55 : decode cX3_evaluate 55 = .ok (.iaload, 1) := by decide +kernel
theorem dX3_evaluate_56 : decode cX3_evaluate 56 = .ok (.iaload, 1) := by decide +kernel
theorem dX3_evaluate_57 : decode cX3_evaluate 57 = .ok (.invokestatic 52, 3) := by decide +kernel
theorem dX3_evaluate_60 : decode cX3_evaluate 60 = .ok (.iastore, 1) := by decide +kernel
theorem dX3_evaluate_61 : decode cX3_evaluate 61 = .ok (.goto 81, 3) := by decide +kernel
theorem dX3_evaluate_64 : decode cX3_evaluate 64 = .ok (.aload_n 0, 1) := by decide +kernel
theorem dX3_evaluate_65 : decode cX3_evaluate 65 = .ok (.getfield 9, 3) := by decide +kernel
theorem dX3_evaluate_68 : decode cX3_evaluate 68 = .ok (.iload_n 2, 1) := by decide +kernel
theorem dX3_evaluate_69 : decode cX3_evaluate 69 = .ok (.iaload, 1) := by decide +kernel
theorem dX3_evaluate_70 : decode cX3_evaluate 70 = .ok (.invokestatic 42, 3) := by decide +kernel
theorem dX3_evaluate_73 : decode cX3_evaluate 73 = .ok (.ifCond .eq 43, 3) := by decide +kernel
theorem dX3_evaluate_76 : decode cX3_evaluate 76 = .ok (.aload_n 0, 1) := by decide +kernel
theorem dX3_evaluate_77 : decode cX3_evaluate 77 = .ok (.getfield 21, 3) := by decide +kernel
theorem dX3_evaluate_80 : decode cX3_evaluate 80 = .ok (.iload_n 2, 1) := by decide +kernel
theorem dX3_evaluate_81 : decode cX3_evaluate 81 = .ok (.aload_n 0, 1) := by decide +kernel
theorem dX3_evaluate_82 : decode cX3_evaluate 82 = .ok (.getfield 9, 3) := by decide +kernel
theorem dX3_evaluate_85 : decode cX3_evaluate 85 = .ok (.iload_n 2, 1) := by decide +kernel
theorem dX3_evaluate_86 : decode cX3_evaluate 86 = .ok (.iaload, 1) := by decide +kernel
theorem dX3_evaluate_87 : decode cX3_evaluate 87 = .ok (.aload_n 0, 1) := by decide +kernel
theorem dX3_evaluate_88 : decode cX3_evaluate 88 = .ok (.getfield 21, 3) := by decide +kernel
theorem dX3_evaluate_91 : decode cX3_evaluate 91 = .ok (.aload_n 0, 1) := by decide +kernel
theorem dX3_evaluate_92 : decode cX3_evaluate 92 = .ok (.getfield 15, 3) := by decide +kernel
theorem dX3_evaluate_95 : decode cX3_evaluate 95 = .ok (.iload_n 2, 1) := by decide +kernel
theorem dX3_evaluate_96 : decode cX3_evaluate 96 = .ok (.iaload, 1) := by decide +kernel
theorem dX3_evaluate_97 : decode cX3_evaluate 97 = .ok (.iaload, 1) := by decide +kernel
theorem dX3_evaluate_98 : decode cX3_evaluate 98 = .ok (.aload_n 0, 1) := by decide +kernel
theorem dX3_evaluate_99 : decode cX3_evaluate 99 = .ok (.getfield 21, 3) := by decide +kernel
theorem dX3_evaluate_102 : decode cX3_evaluate 102 = .ok (.aload_n 0, 1) := by decide +kernel
theorem dX3_evaluate_103 : decode cX3_evaluate 103 = .ok (.getfield 18, 3) := by decide +kernel
theorem dX3_evaluate_106 : decode cX3_evaluate 106 = .ok (.iload_n 2, 1) := by decide +kernel
theorem dX3_evaluate_107 : decode cX3_evaluate 107 = .ok (.iaload, 1) := by decide +kernel
theorem dX3_evaluate_108 : decode cX3_evaluate 108 = .ok (.iaload, 1) := by decide +kernel
theorem dX3_evaluate_109 : decode cX3_evaluate 109 = .ok (.invokestatic 56, 3) := by decide +kernel
theorem dX3_evaluate_112 : decode cX3_evaluate 112 = .ok (.iastore, 1) := by decide +kernel
theorem dX3_evaluate_113 : decode cX3_evaluate 113 = .ok (.goto 29, 3) := by decide +kernel
theorem dX3_evaluate_116 : decode cX3_evaluate 116 = .ok (.aload_n 0, 1) := by decide +kernel
theorem dX3_evaluate_117 : decode cX3_evaluate 117 = .ok (.getfield 21, 3) := by decide +kernel
theorem dX3_evaluate_120 : decode cX3_evaluate 120 = .ok (.iload_n 2, 1) := by decide +kernel
theorem dX3_evaluate_121 : decode cX3_evaluate 121 = .ok (.aload_n 0, 1) := by decide +kernel
theorem dX3_evaluate_122 : decode cX3_evaluate 122 = .ok (.getfield 9, 3) := by decide +kernel
theorem dX3_evaluate_125 : decode cX3_evaluate 125 = .ok (.iload_n 2, 1) := by decide +kernel
theorem dX3_evaluate_126 : decode cX3_evaluate 126 = .ok (.iaload, 1) := by decide +kernel
theorem dX3_evaluate_127 : decode cX3_evaluate 127 = .ok (.aload_n 0, 1) := by decide +kernel
theorem dX3_evaluate_128 : decode cX3_evaluate 128 = .ok (.getfield 21, 3) := by decide +kernel
theorem dX3_evaluate_131 : decode cX3_evaluate 131 = .ok (.aload_n 0, 1) := by decide +kernel
theorem dX3_evaluate_132 : decode cX3_evaluate 132 = .ok (.getfield 15, 3) := by decide +kernel
theorem dX3_evaluate_135 : decode cX3_evaluate 135 = .ok (.iload_n 2, 1) := by decide +kernel
theorem dX3_evaluate_136 : decode cX3_evaluate 136 = .ok (.iaload, 1) := by decide +kernel
theorem dX3_evaluate_137 : decode cX3_evaluate 137 = .ok (.iaload, 1) := by decide +kernel
theorem dX3_evaluate_138 : decode cX3_evaluate 138 = .ok (.invokestatic 62, 3) := by decide +kernel
theorem dX3_evaluate_141 : decode cX3_evaluate 141 = .ok (.iastore, 1) := by decide +kernel
theorem dX3_evaluate_142 : decode cX3_evaluate 142 = .ok (.iinc 2 1, 3) := by decide +kernel
theorem dX3_evaluate_145 : decode cX3_evaluate 145 = .ok (.goto (-143), 3) := by decide +kernel
theorem dX3_evaluate_148 : decode cX3_evaluate 148 = .ok (.return_, 1) := by decide +kernel
theorem dX4_init_0 : decode cX4_init 0 = .ok (.aload_n 0, 1) := by decide +kernel
theorem dX4_init_1 : decode cX4_init 1 = .ok (.invokespecial 3, 3) := by decide +kernel
theorem dX4_init_4 : decode cX4_init 4 = .ok (.aload_n 0, 1) := by decide +kernel
theorem dX4_init_5 : decode cX4_init 5 = .ok (.bipush 12, 2) := by decide +kernel
theorem dX4_init_7 : decode cX4_init 7 = .ok (.newarray .int, 2) := by decide +kernel
theorem dX4_init_9 : decode cX4_init 9 = .ok (.putfield 9, 3) := by decide +kernel
theorem dX4_init_12 : decode cX4_init 12 = .ok (.aload_n 0, 1) := by decide +kernel
theorem dX4_init_13 : decode cX4_init 13 = .ok (.bipush 12, 2) := by decide +kernel
theorem dX4_init_15 : decode cX4_init 15 = .ok (.newarray .int, 2) := by decide +kernel
theorem dX4_init_17 : decode cX4_init 17 = .ok (.putfield 15, 3) := by decide +kernel
theorem dX4_init_20 : decode cX4_init 20 = .ok (.aload_n 0, 1) := by decide +kernel
theorem dX4_init_21 : decode cX4_init 21 = .ok (.bipush 12, 2) := by decide +kernel
theorem dX4_init_23 : decode cX4_init 23 = .ok (.newarray .int, 2) := by decide +kernel
theorem dX4_init_25 : decode cX4_init 25 = .ok (.putfield 18, 3) := by decide +kernel
theorem dX4_init_28 : decode cX4_init 28 = .ok (.aload_n 0, 1) := by decide +kernel
theorem dX4_init_29 : decode cX4_init 29 = .ok (.iconst 0, 1) := by decide +kernel
theorem dX4_init_30 : decode cX4_init 30 = .ok (.putfield 21, 3) := by decide +kernel
theorem dX4_init_33 : decode cX4_init 33 = .ok (.return_, 1) := by decide +kernel
theorem dX4_has_0 : decode cX4_has 0 = .ok (.iload_n 1, 1) := by decide +kernel
theorem dX4_has_1 : decode cX4_has 1 = .ok (.ifCond .lt 15, 3) := by decide +kernel
theorem dX4_has_4 : decode cX4_has 4 = .ok (.iload_n 1, 1) := by decide +kernel
theorem dX4_has_5 : decode cX4_has 5 = .ok (.aload_n 0, 1) := by decide +kernel
theorem dX4_has_6 : decode cX4_has 6 = .ok (.getfield 21, 3) := by decide +kernel
theorem dX4_has_9 : decode cX4_has 9 = .ok (.if_icmp .ge 7, 3) := by decide +kernel
theorem dX4_has_12 : decode cX4_has 12 = .ok (.iconst 1, 1) := by decide +kernel
theorem dX4_has_13 : decode cX4_has 13 = .ok (.goto 4, 3) := by decide +kernel
theorem dX4_has_16 : decode cX4_has 16 = .ok (.iconst 0, 1) := by decide +kernel
theorem dX4_has_17 : decode cX4_has 17 = .ok (.ireturn, 1) := by decide +kernel
theorem dX4_add_0 : decode cX4_add 0 = .ok (.aload_n 0, 1) := by decide +kernel
theorem dX4_add_1 : decode cX4_add 1 = .ok (.getfield 9, 3) := by decide +kernel
theorem dX4_add_4 : decode cX4_add 4 = .ok (.aload_n 0, 1) := by decide +kernel
theorem dX4_add_5 : decode cX4_add 5 = .ok (.getfield 21, 3) := by decide +kernel
theorem dX4_add_8 : decode cX4_add 8 = .ok (.iload_n 1, 1) := by decide +kernel
theorem dX4_add_9 : decode cX4_add 9 = .ok (.iastore, 1) := by decide +kernel
theorem dX4_add_10 : decode cX4_add 10 = .ok (.aload_n 0, 1) := by decide +kernel
theorem dX4_add_11 : decode cX4_add 11 = .ok (.getfield 15, 3) := by decide +kernel
theorem dX4_add_14 : decode cX4_add 14 = .ok (.aload_n 0, 1) := by decide +kernel
theorem dX4_add_15 : decode cX4_add 15 = .ok (.getfield 21, 3) := by decide +kernel
theorem dX4_add_18 : decode cX4_add 18 = .ok (.iload_n 2, 1) := by decide +kernel
theorem dX4_add_19 : decode cX4_add 19 = .ok (.iastore, 1) := by decide +kernel
theorem dX4_add_20 : decode cX4_add 20 = .ok (.aload_n 0, 1) := by decide +kernel
theorem dX4_add_21 : decode cX4_add 21 = .ok (.getfield 18, 3) := by decide +kernel
theorem dX4_add_24 : decode cX4_add 24 = .ok (.aload_n 0, 1) := by decide +kernel
theorem dX4_add_25 : decode cX4_add 25 = .ok (.getfield 21, 3) := by decide +kernel
theorem dX4_add_28 : decode cX4_add 28 = .ok (.iload_n 3, 1) := by decide +kernel
theorem dX4_add_29 : decode cX4_add 29 = .ok (.iastore, 1) := by decide +kernel
theorem dX4_add_30 : decode cX4_add 30 = .ok (.aload_n 0, 1) := by decide +kernel
theorem dX4_add_31 : decode cX4_add 31 = .ok (.dup, 1) := by decide +kernel
theorem dX4_add_32 : decode cX4_add 32 = .ok (.getfield 21, 3) := by decide +kernel
theorem dX4_add_35 : decode cX4_add 35 = .ok (.iconst 1, 1) := by decide +kernel
theorem dX4_add_36 : decode cX4_add 36 = .ok (.iadd, 1) := by decide +kernel
theorem dX4_add_37 : decode cX4_add 37 = .ok (.putfield 21, 3) := by decide +kernel
theorem dX4_add_40 : decode cX4_add 40 = .ok (.aload_n 0, 1) := by decide +kernel
theorem dX4_add_41 : decode cX4_add 41 = .ok (.getfield 21, 3) := by decide +kernel
theorem dX4_add_44 : decode cX4_add 44 = .ok (.iconst 1, 1) := by decide +kernel
theorem dX4_add_45 : decode cX4_add 45 = .ok (.isub, 1) := by decide +kernel
theorem dX4_add_46 : decode cX4_add 46 = .ok (.ireturn, 1) := by decide +kernel
theorem dX4_clear_0 : decode cX4_clear 0 = .ok (.aload_n 0, 1) := by decide +kernel
theorem dX4_clear_1 : decode cX4_clear 1 = .ok (.getfield 21, 3) := by decide +kernel
theorem dX4_clear_4 : decode cX4_clear 4 = .ok (.istore_n 1, 1) := by decide +kernel
theorem dX4_clear_5 : decode cX4_clear 5 = .ok (.aload_n 0, 1) := by decide +kernel
theorem dX4_clear_6 : decode cX4_clear 6 = .ok (.iconst 0, 1) := by decide +kernel
theorem dX4_clear_7 : decode cX4_clear 7 = .ok (.putfield 21, 3) := by decide +kernel
theorem dX4_clear_10 : decode cX4_clear 10 = .ok (.iload_n 1, 1) := by decide +kernel
theorem dX4_clear_11 : decode cX4_clear 11 = .ok (.ireturn, 1) := by decide +kernel
theorem dX4_restOn_0 : decode cX4_restOn 0 = .ok (.aload_n 2, 1) := by decide +kernel
theorem dX4_restOn_1 : decode cX4_restOn 1 = .ok (.getfield 25, 3) := by decide +kernel
theorem dX4_restOn_4 : decode cX4_restOn 4 = .ok (.aload_n 0, 1) := by decide +kernel
theorem dX4_restOn_5 : decode cX4_restOn 5 = .ok (.getfield 15, 3) := by decide +kernel
theorem dX4_restOn_8 : decode cX4_restOn 8 = .ok (.iload_n 1, 1) := by decide +kernel
theorem dX4_restOn_9 : decode cX4_restOn 9 = .ok (.iaload, 1) := by decide +kernel
theorem dX4_restOn_10 : decode cX4_restOn 10 = .ok (.laload, 1) := by decide +kernel
theorem dX4_restOn_11 : decode cX4_restOn 11 = .ok (.aload_n 2, 1) := by decide +kernel
theorem dX4_restOn_12 : decode cX4_restOn 12 = .ok (.getfield 25, 3) := by decide +kernel
theorem dX4_restOn_15 : decode cX4_restOn 15 = .ok (.aload_n 0, 1) := by decide +kernel
theorem dX4_restOn_16 : decode cX4_restOn 16 = .ok (.getfield 18, 3) := by decide +kernel
theorem dX4_restOn_19 : decode cX4_restOn 19 = .ok (.iload_n 1, 1) := by decide +kernel
theorem dX4_restOn_20 : decode cX4_restOn 20 = .ok (.iaload, 1) := by decide +kernel
theorem dX4_restOn_21 : decode cX4_restOn 21 = .ok (.laload, 1) := by decide +kernel
theorem dX4_restOn_22 : decode cX4_restOn 22 = .ok (.lor, 1) := by decide +kernel
theorem dX4_restOn_23 : decode cX4_restOn 23 = .ok (.lreturn, 1) := by decide +kernel
theorem dX4_allRestOn_0 : decode cX4_allRestOn 0 = .ok (.lconst 0, 1) := by decide +kernel
theorem dX4_allRestOn_1 : decode cX4_allRestOn 1 = .ok (.lstore_n 2, 1) := by decide +kernel
theorem dX4_allRestOn_2 : decode cX4_allRestOn 2 = .ok (.iconst 0, 1) := by decide +kernel
theorem dX4_allRestOn_3 : decode cX4_allRestOn 3 = .ok (.istore 4, 2) := by decide +kernel
theorem dX4_allRestOn_5 : decode cX4_allRestOn 5 = .ok (.iload 4, 2) := by decide +kernel
theorem dX4_allRestOn_7 : decode cX4_allRestOn 7 = .ok (.aload_n 0, 1) := by decide +kernel
theorem dX4_allRestOn_8 : decode cX4_allRestOn 8 = .ok (.getfield 21, 3) := by decide +kernel
theorem dX4_allRestOn_11 : decode cX4_allRestOn 11 = .ok (.if_icmp .ge 19, 3) := by decide +kernel
theorem dX4_allRestOn_14 : decode cX4_allRestOn 14 = .ok (.lload_n 2, 1) := by decide +kernel
theorem dX4_allRestOn_15 : decode cX4_allRestOn 15 = .ok (.aload_n 0, 1) := by decide +kernel
theorem dX4_allRestOn_16 : decode cX4_allRestOn 16 = .ok (.iload 4, 2) := by decide +kernel
theorem dX4_allRestOn_18 : decode cX4_allRestOn 18 = .ok (.aload_n 1, 1) := by decide +kernel
theorem dX4_allRestOn_19 : decode cX4_allRestOn 19 = .ok (.invokevirtual 31, 3) := by decide +kernel
theorem dX4_allRestOn_22 : decode cX4_allRestOn 22 = .ok (.lor, 1) := by decide +kernel
theorem dX4_allRestOn_23 : decode cX4_allRestOn 23 = .ok (.lstore_n 2, 1) := by decide +kernel
theorem dX4_allRestOn_24 : decode cX4_allRestOn 24 = .ok (.iinc 4 1, 3) := by decide +kernel
theorem dX4_allRestOn_27 : decode cX4_allRestOn 27 = .ok (.goto (-22), 3) := by decide +kernel
theorem dX4_allRestOn_30 : decode cX4_allRestOn 30 = .ok (.lload_n 2, 1) := by decide +kernel
theorem dX4_allRestOn_31 : decode cX4_allRestOn 31 = .ok (.lreturn, 1) := by decide +kernel
theorem dX4_isTrue_0 : decode cX4_isTrue 0 = .ok (.aload_n 2, 1) := by decide +kernel
theorem dX4_isTrue_1 : decode cX4_isTrue 1 = .ok (.aload_n 0, 1) := by decide +kernel
theorem dX4_isTrue_2 : decode cX4_isTrue 2 = .ok (.getfield 15, 3) := by decide +kernel
theorem dX4_isTrue_5 : decode cX4_isTrue 5 = .ok (.iload_n 1, 1) := by decide +kernel
theorem dX4_isTrue_6 : decode cX4_isTrue 6 = .ok (.iaload, 1) := by decide +kernel
theorem dX4_isTrue_7 : decode cX4_isTrue 7 = .ok (.iaload, 1) := by decide +kernel
theorem dX4_isTrue_8 : decode cX4_isTrue 8 = .ok (.istore_n 3, 1) := by decide +kernel
theorem dX4_isTrue_9 : decode cX4_isTrue 9 = .ok (.aload_n 2, 1) := by decide +kernel
theorem dX4_isTrue_10 : decode cX4_isTrue 10 = .ok (.aload_n 0, 1) := by decide +kernel
theorem dX4_isTrue_11 : decode cX4_isTrue 11 = .ok (.getfield 18, 3) := by decide +kernel
theorem dX4_isTrue_14 : decode cX4_isTrue 14 = .ok (.iload_n 1, 1) := by decide +kernel
theorem dX4_isTrue_15 : decode cX4_isTrue 15 = .ok (.iaload, 1) := by decide +kernel
theorem dX4_isTrue_16 : decode cX4_isTrue 16 = .ok (.iaload, 1) := by decide +kernel
theorem dX4_isTrue_17 : decode cX4_isTrue 17 = .ok (.istore 4, 2) := by decide +kernel
theorem dX4_isTrue_19 : decode cX4_isTrue 19 = .ok (.aload_n 0, 1) := by decide +kernel
theorem dX4_isTrue_20 : decode cX4_isTrue 20 = .ok (.getfield 9, 3) := by decide +kernel
theorem dX4_isTrue_23 : decode cX4_isTrue 23 = .ok (.iload_n 1, 1) := by decide +kernel
theorem dX4_isTrue_24 : decode cX4_isTrue 24 = .ok (.iaload, 1) := by decide +kernel
theorem dX4_isTrue_25 : decode cX4_isTrue 25 = .ok (.iconst 4, 1) := by decide +kernel
theorem dX4_isTrue_26 : decode cX4_isTrue 26 = .ok (.if_icmp .eq 13, 3) := by decide +kernel
theorem dX4_isTrue_29 : decode cX4_isTrue 29 = .ok (.aload_n 0, 1) := by decide +kernel
theorem dX4_isTrue_30 : decode cX4_isTrue 30 = .ok (.getfield 9, 3) := by decide +kernel
theorem dX4_isTrue_33 : decode cX4_isTrue 33 = .ok (.iload_n 1, 1) := by decide +kernel
theorem dX4_isTrue_34 : decode cX4_isTrue 34 = .ok (.iaload, 1) := by decide +kernel
theorem dX4_isTrue_35 : decode cX4_isTrue 35 = .ok (.iconst 5, 1) := by decide +kernel
theorem dX4_isTrue_36 : decode cX4_isTrue 36 = .ok (.if_icmp .ne 31, 3) := by decide +kernel
theorem dX4_isTrue_39 : decode cX4_isTrue 39 = .ok (.iload_n 3, 1) := by decide +kernel
theorem dX4_isTrue_40 : decode cX4_isTrue 40 = .ok (.invokestatic 35, 3) := by decide +kernel
theorem dX4_isTrue_43 : decode cX4_isTrue 43 = .ok (.aload_n 0, 1) := by decide +kernel
theorem dX4_isTrue_44 : decode cX4_isTrue 44 = .ok (.getfield 9, 3) := by decide +kernel
theorem dX4_isTrue_47 : decode cX4_isTrue 47 = .ok (.iload_n 1, 1) := by decide +kernel
theorem dX4_isTrue_48 : decode cX4_isTrue 48 = .ok (.iaload, 1) := by decide +kernel
theorem dX4_isTrue_49 : decode cX4_isTrue 49 = .ok (.iconst 4, 1) := by decide +kernel
theorem dX4_isTrue_50 : decode cX4_isTrue 50 = .ok (.if_icmp .ne 7, 3) := by decide +kernel
theorem dX4_isTrue_53 : decode cX4_isTrue 53 = .ok (.iconst 1, 1) := by decide +kernel
theorem dX4_isTrue_54 : decode cX4_isTrue 54 = .ok (.goto 4, 3) := by decide +kernel
theorem dX4_isTrue_57 : decode cX4_isTrue 57 = .ok (.iconst 0, 1) := by decide +kernel
theorem dX4_isTrue_58 : decode cX4_isTrue 58 = .ok (.if_icmp .ne 7, 3) := by decide +kernel
theorem dX4_isTrue_61 : decode cX4_isTrue 61 = .ok (.iconst 1, 1) := by decide +kernel
theorem dX4_isTrue_62 : decode cX4_isTrue 62 = .ok (.goto 4, 3) := by decide +kernel
theorem dX4_isTrue_65 : decode cX4_isTrue 65 = .ok (.iconst 0, 1) := by decide +kernel
theorem dX4_isTrue_66 : decode cX4_isTrue 66 = .ok (.ireturn, 1) := by decide +kernel
theorem dX4_isTrue_67 : decode cX4_isTrue 67 = .ok (.iload_n 3, 1) := by decide +kernel
theorem dX4_isTrue_68 : decode cX4_isTrue 68 = .ok (.invokestatic 35, 3) := by decide +kernel
theorem dX4_isTrue_71 : decode cX4_isTrue 71 = .ok (.ifCond .ne 11, 3) := by decide +kernel
theorem dX4_isTrue_74 : decode cX4_isTrue 74 = .ok (.iload 4, 2) := by decide +kernel
theorem dX4_isTrue_76 : decode cX4_isTrue 76 = .ok (.invokestatic 35, 3) := by decide +kernel
theorem dX4_isTrue_79 : decode cX4_isTrue 79 = .ok (.ifCond .eq 19, 3) := by decide +kernel
theorem dX4_isTrue_82 : decode cX4_isTrue 82 = .ok (.aload_n 0, 1) := by decide +kernel
theorem dX4_isTrue_83 : decode cX4_isTrue 83 = .ok (.getfield 9, 3) := by decide +kernel
theorem dX4_isTrue_86 : decode cX4_isTrue 86 = .ok (.iload_n 1, 1) := by decide +kernel
theorem dX4_isTrue_87 : decode cX4_isTrue 87 = .ok (.iaload, 1) := by decide +kernel
theorem dX4_isTrue_88 : decode cX4_isTrue 88 = .ok (.iconst 3, 1) := by decide +kernel
theorem dX4_isTrue_89 : decode cX4_isTrue 89 = .ok (.if_icmp .ne 7, 3) := by decide +kernel
theorem dX4_isTrue_92 : decode cX4_isTrue 92 = .ok (.iconst 1, 1) := by decide +kernel
theorem dX4_isTrue_93 : decode cX4_isTrue 93 = .ok (.goto 4, 3) := by decide +kernel
theorem dX4_isTrue_96 : decode cX4_isTrue 96 = .ok (.iconst 0, 1) := by decide +kernel
theorem dX4_isTrue_97 : decode cX4_isTrue 97 = .ok (.ireturn, 1) := by decide +kernel
theorem dX4_isTrue_98 : decode cX4_isTrue 98 = .ok (.iload_n 3, 1) := by decide +kernel
theorem dX4_isTrue_99 : decode cX4_isTrue 99 = .ok (.invokestatic 41, 3) := by decide +kernel
theorem dX4_isTrue_102 : decode cX4_isTrue 102 = .ok (.invokestatic 45, 3) := by decide +kernel
theorem dX4_isTrue_105 : decode cX4_isTrue 105 = .ok (.iload 4, 2) := by decide +kernel
theorem dX4_isTrue_107 : decode cX4_isTrue 107 = .ok (.invokestatic 41, 3) := by decide +kernel
theorem dX4_isTrue_110 : decode cX4_isTrue 110 = .ok (.invokestatic 45, 3) := by decide +kernel
theorem dX4_isTrue_113 : decode cX4_isTrue 113 = .ok (.invokestatic 48, 3) := by decide +kernel
theorem dX4_isTrue_116 : decode cX4_isTrue 116 = .ok (.istore 5, 2) := by decide +kernel
theorem dX4_isTrue_118 : decode cX4_isTrue 118 = .ok (.aload_n 0, 1) := by decide +kernel
theorem dX4_isTrue_119 : decode cX4_isTrue 119 = .ok (.getfield 9, 3) := by decide +kernel
theorem dX4_isTrue_122 : decode cX4_isTrue 122 = .ok (.iload_n 1, 1) := by decide +kernel
theorem dX4_isTrue_123 : decode cX4_isTrue 123 = .ok (.iaload, 1) := by decide +kernel
theorem dX4_isTrue_124 : decode cX4_isTrue 124 = .ok (.tableswitch 61 0 2 #[28, 39, 50], 28) := by decide +kernel
theorem dX4_isTrue_152 : decode cX4_isTrue 152 = .ok (.iload 5, 2) := by decide +kernel
theorem dX4_isTrue_154 : decode cX4_isTrue 154 = .ok (.ifCond .ge 7, 3) := by decide +kernel
theorem dX4_isTrue_157 : decode cX4_isTrue 157 = .ok (.iconst 1, 1) := by decide +kernel
theorem dX4_isTrue_158 : decode cX4_isTrue 158 = .ok (.goto 4, 3) := by decide +kernel
theorem dX4_isTrue_161 : decode cX4_isTrue 161 = .ok (.iconst 0, 1) := by decide +kernel
theorem dX4_isTrue_162 : decode cX4_isTrue 162 = .ok (.ireturn, 1) := by decide +kernel
theorem dX4_isTrue_163 : decode cX4_isTrue 163 = .ok (.iload 5, 2) := by decide +kernel
theorem dX4_isTrue_165 : decode cX4_isTrue 165 = .ok (.ifCond .gt 7, 3) := by decide +kernel
theorem dX4_isTrue_168 : decode cX4_isTrue 168 = .ok (.iconst 1, 1) := by decide +kernel
theorem dX4_isTrue_169 : decode cX4_isTrue 169 = .ok (.goto 4, 3) := by decide +kernel
theorem dX4_isTrue_172 : decode cX4_isTrue 172 = .ok (.iconst 0, 1) := by decide +kernel
theorem dX4_isTrue_173 : decode cX4_isTrue 173 = .ok (.ireturn, 1) := by decide +kernel
theorem dX4_isTrue_174 : decode cX4_isTrue 174 = .ok (.iload 5, 2) := by decide +kernel
theorem dX4_isTrue_176 : decode cX4_isTrue 176 = .ok (.ifCond .ne 7, 3) := by decide +kernel
theorem dX4_isTrue_179 : decode cX4_isTrue 179 = .ok (.iconst 1, 1) := by decide +kernel
theorem dX4_isTrue_180 : decode cX4_isTrue 180 = .ok (.goto 4, 3) := by decide +kernel
theorem dX4_isTrue_183 : decode cX4_isTrue 183 = .ok (.iconst 0, 1) := by decide +kernel
theorem dX4_isTrue_184 : decode cX4_isTrue 184 = .ok (.ireturn, 1) := by decide +kernel
theorem dX4_isTrue_185 : decode cX4_isTrue 185 = .ok (.iload 5, 2) := by decide +kernel
theorem dX4_isTrue_187 : decode cX4_isTrue 187 = .ok (.ifCond .eq 7, 3) := by decide +kernel
theorem dX4_isTrue_190 : decode cX4_isTrue 190 = .ok (.iconst 1, 1) := by decide +kernel
theorem dX4_isTrue_191 : decode cX4_isTrue 191 = .ok (.goto 4, 3) := by decide +kernel
theorem dX4_isTrue_194 : decode cX4_isTrue 194 = .ok (.iconst 0, 1) := by decide +kernel
theorem dX4_isTrue_195 : decode cX4_isTrue 195 = .ok (.ireturn, 1) := by decide +kernel
theorem dX4_areTrue_0 : decode cX4_areTrue 0 = .ok (.iconst 0, 1) := by decide +kernel
theorem dX4_areTrue_1 : decode cX4_areTrue 1 = .ok (.istore_n 2, 1) := by decide +kernel
theorem dX4_areTrue_2 : decode cX4_areTrue 2 = .ok (.iload_n 2, 1) := by decide +kernel
theorem dX4_areTrue_3 : decode cX4_areTrue 3 = .ok (.aload_n 0, 1) := by decide +kernel
theorem dX4_areTrue_4 : decode cX4_areTrue 4 = .ok (.getfield 21, 3) := by decide +kernel
theorem dX4_areTrue_7 : decode cX4_areTrue 7 = .ok (.if_icmp .ge 20, 3) := by decide +kernel
theorem dX4_areTrue_10 : decode cX4_areTrue 10 = .ok (.aload_n 0, 1) := by decide +kernel
theorem dX4_areTrue_11 : decode cX4_areTrue 11 = .ok (.iload_n 2, 1) := by decide +kernel
theorem dX4_areTrue_12 : decode cX4_areTrue 12 = .ok (.aload_n 1, 1) := by decide +kernel
theorem dX4_areTrue_13 : decode cX4_areTrue 13 = .ok (.invokevirtual 54, 3) := by decide +kernel
theorem dX4_areTrue_16 : decode cX4_areTrue 16 = .ok (.ifCond .ne 5, 3) := by decide +kernel
theorem dX4_areTrue_19 : decode cX4_areTrue 19 = .ok (.iconst 0, 1) := by decide +kernel
theorem dX4_areTrue_20 : decode cX4_areTrue 20 = .ok (.ireturn, 1) := by decide +kernel
theorem dX4_areTrue_21 : decode cX4_areTrue 21 = .ok (.iinc 2 1, 3) := by decide +kernel
theorem dX4_areTrue_24 : decode cX4_areTrue 24 = .ok (.goto (-22), 3) := by decide +kernel
theorem dX4_areTrue_27 : decode cX4_areTrue 27 = .ok (.iconst 1, 1) := by decide +kernel
theorem dX4_areTrue_28 : decode cX4_areTrue 28 = .ok (.ireturn, 1) := by decide +kernel
theorem dX4_verdict_0 : decode cX4_verdict 0 = .ok (.aload_n 0, 1) := by decide +kernel
theorem dX4_verdict_1 : decode cX4_verdict 1 = .ok (.getfield 9, 3) := by decide +kernel
theorem dX4_verdict_4 : decode cX4_verdict 4 = .ok (.iload_n 1, 1) := by decide +kernel
theorem dX4_verdict_5 : decode cX4_verdict 5 = .ok (.iaload, 1) := by decide +kernel
theorem dX4_verdict_6 : decode cX4_verdict 6 = .ok (.tableswitch 113 0 4 #[34, 34, 65, 82, 102], 34) := by decide +kernel
theorem dX4_verdict_40 : decode cX4_verdict 40 = .ok (.aload_n 0, 1) := by decide +kernel
theorem dX4_verdict_41 : decode cX4_verdict 41 = .ok (.getfield 9, 3) := by decide +kernel
theorem dX4_verdict_44 : decode cX4_verdict 44 = .ok (.iload_n 1, 1) := by decide +kernel
theorem dX4_verdict_45 : decode cX4_verdict 45 = .ok (.iaload, 1) := by decide +kernel
theorem dX4_verdict_46 : decode cX4_verdict 46 = .ok (.ifCond .ne 7, 3) := by decide +kernel
theorem dX4_verdict_49 : decode cX4_verdict 49 = .ok (.iconst 1, 1) := by decide +kernel
theorem dX4_verdict_50 : decode cX4_verdict 50 = .ok (.goto 4, 3) := by decide +kernel
theorem dX4_verdict_53 : decode cX4_verdict 53 = .ok (.iconst 0, 1) := by decide +kernel
theorem dX4_verdict_54 : decode cX4_verdict 54 = .ok (.aload_n 0, 1) := by decide +kernel
theorem dX4_verdict_55 : decode cX4_verdict 55 = .ok (.getfield 15, 3) := by decide +kernel
theorem dX4_verdict_58 : decode cX4_verdict 58 = .ok (.iload_n 1, 1) := by decide +kernel
theorem dX4_verdict_59 : decode cX4_verdict 59 = .ok (.iaload, 1) := by decide +kernel
theorem dX4_verdict_60 : decode cX4_verdict 60 = .ok (.aload_n 0, 1) := by decide +kernel
theorem dX4_verdict_61 : decode cX4_verdict 61 = .ok (.getfield 18, 3) := by decide +kernel
theorem dX4_verdict_64 : decode cX4_verdict 64 = .ok (.iload_n 1, 1) := by decide +kernel
theorem dX4_verdict_65 : decode cX4_verdict 65 = .ok (.iaload, 1) := by decide +kernel
theorem dX4_verdict_66 : decode cX4_verdict 66 = .ok (.aload_n 2, 1) := by decide +kernel
theorem dX4_verdict_67 : decode cX4_verdict 67 = .ok (.invokestatic 58, 3) := by decide +kernel
theorem dX4_verdict_70 : decode cX4_verdict 70 = .ok (.ireturn, 1) := by decide +kernel
theorem dX4_verdict_71 : decode cX4_verdict 71 = .ok (.aload_n 0, 1) := by decide +kernel
theorem dX4_verdict_72 : decode cX4_verdict 72 = .ok (.getfield 15, 3) := by decide +kernel
theorem dX4_verdict_75 : decode cX4_verdict 75 = .ok (.iload_n 1, 1) := by decide +kernel
theorem dX4_verdict_76 : decode cX4_verdict 76 = .ok (.iaload, 1) := by decide +kernel
theorem dX4_verdict_77 : decode cX4_verdict 77 = .ok (.aload_n 0, 1) := by decide +kernel
theorem dX4_verdict_78 : decode cX4_verdict 78 = .ok (.getfield 18, 3) := by decide +kernel
theorem dX4_verdict_81 : decode cX4_verdict 81 = .ok (.iload_n 1, 1) := by decide +kernel
theorem dX4_verdict_82 : decode cX4_verdict 82 = .ok (.iaload, 1) := by decide +kernel
theorem dX4_verdict_83 : decode cX4_verdict 83 = .ok (.aload_n 2, 1) := by decide +kernel
theorem dX4_verdict_84 : decode cX4_verdict 84 = .ok (.invokestatic 62, 3) := by decide +kernel
theorem dX4_verdict_87 : decode cX4_verdict 87 = .ok (.ireturn, 1) := by decide +kernel
theorem dX4_verdict_88 : decode cX4_verdict 88 = .ok (.aload_n 0, 1) := by decide +kernel
theorem dX4_verdict_89 : decode cX4_verdict 89 = .ok (.getfield 15, 3) := by decide +kernel
theorem dX4_verdict_92 : decode cX4_verdict 92 = .ok (.iload_n 1, 1) := by decide +kernel
theorem dX4_verdict_93 : decode cX4_verdict 93 = .ok (.iaload, 1) := by decide +kernel
theorem dX4_verdict_94 : decode cX4_verdict 94 = .ok (.aload_n 0, 1) := by decide +kernel
theorem dX4_verdict_95 : decode cX4_verdict 95 = .ok (.getfield 18, 3) := by decide +kernel
theorem dX4_verdict_98 : decode cX4_verdict 98 = .ok (.iload_n 1, 1) := by decide +kernel
theorem dX4_verdict_99 : decode cX4_verdict 99 = .ok (.iaload, 1) := by decide +kernel
theorem dX4_verdict_100 : decode cX4_verdict 100 = .ok (.aload_n 2, 1) := by decide +kernel
theorem dX4_verdict_101 : decode cX4_verdict 101 = .ok (.invokestatic 62, 3) := by decide +kernel
theorem dX4_verdict_104 : decode cX4_verdict 104 = .ok (.invokestatic 66, 3) := by decide +kernel
theorem dX4_verdict_107 : decode cX4_verdict 107 = .ok (.ireturn, 1) := by decide +kernel
theorem dX4_verdict_108 : decode cX4_verdict 108 = .ok (.aload_n 0, 1) := by decide +kernel
theorem dX4_verdict_109 : decode cX4_verdict 109 = .ok (.getfield 15, 3) := by decide +kernel
theorem dX4_verdict_112 : decode cX4_verdict 112 = .ok (.iload_n 1, 1) := by decide +kernel
theorem dX4_verdict_113 : decode cX4_verdict 113 = .ok (.iaload, 1) := by decide +kernel
theorem dX4_verdict_114 : decode cX4_verdict 114 = .ok (.aload_n 2, 1) := by decide +kernel
theorem dX4_verdict_115 : decode cX4_verdict 115 = .ok (.invokestatic 69, 3) := by decide +kernel
theorem dX4_verdict_118 : decode cX4_verdict 118 = .ok (.ireturn, 1) := by decide +kernel
theorem dX4_verdict_119 : decode cX4_verdict 119 = .ok (.aload_n 0, 1) := by decide +kernel
theorem dX4_verdict_120 : decode cX4_verdict 120 = .ok (.getfield 15, 3) := by decide +kernel
theorem dX4_verdict_123 : decode cX4_verdict 123 = .ok (.iload_n 1, 1) := by decide +kernel
theorem dX4_verdict_124 : decode cX4_verdict 124 = .ok (.iaload, 1) := by decide +kernel
theorem dX4_verdict_125 : decode cX4_verdict 125 = .ok (.aload_n 2, 1) := by decide +kernel
theorem dX4_verdict_126 : decode cX4_verdict 126 = .ok (.invokestatic 69, 3) := by decide +kernel
theorem dX4_verdict_129 : decode cX4_verdict 129 = .ok (.invokestatic 66, 3) := by decide +kernel
theorem dX4_verdict_132 : decode cX4_verdict 132 = .ok (.ireturn, 1) := by decide +kernel
theorem dX4_verdictOfAll_0 : decode cX4_verdictOfAll 0 = .ok (.iconst 1, 1) := by decide +kernel
theorem dX4_verdictOfAll_1 : decode cX4_verdictOfAll 1 = .ok (.istore_n 2, 1) := by decide +kernel
theorem dX4_verdictOfAll_2 : decode cX4_verdictOfAll 2 = .ok (.iconst 0, 1) := by decide +kernel
theorem dX4_verdictOfAll_3 : decode cX4_verdictOfAll 3 = .ok (.istore_n 3, 1) := by decide +kernel
theorem dX4_verdictOfAll_4 : decode cX4_verdictOfAll 4 = .ok (.iload_n 3, 1) := by decide +kernel
theorem dX4_verdictOfAll_5 : decode cX4_verdictOfAll 5 = .ok (.aload_n 0, 1) := by decide +kernel
theorem dX4_verdictOfAll_6 : decode cX4_verdictOfAll 6 = .ok (.getfield 21, 3) := by decide +kernel
theorem dX4_verdictOfAll_9 : decode cX4_verdictOfAll 9 = .ok (.if_icmp .ge 32, 3) := by decide +kernel
theorem dX4_verdictOfAll_12 : decode cX4_verdictOfAll 12 = .ok (.aload_n 0, 1) := by decide +kernel
theorem dX4_verdictOfAll_13 : decode cX4_verdictOfAll 13 = .ok (.iload_n 3, 1) := by decide +kernel
theorem dX4_verdictOfAll_14 : decode cX4_verdictOfAll 14 = .ok (.aload_n 1, 1) := by decide +kernel
theorem dX4_verdictOfAll_15 : decode cX4_verdictOfAll 15 = .ok (.invokevirtual 73, 3) := by decide +kernel
theorem dX4_verdictOfAll_18 : decode cX4_verdictOfAll 18 = .ok (.istore 4, 2) := by decide +kernel
theorem dX4_verdictOfAll_20 : decode cX4_verdictOfAll 20 = .ok (.iload 4, 2) := by decide +kernel
theorem dX4_verdictOfAll_22 : decode cX4_verdictOfAll 22 = .ok (.ifCond .ne 5, 3) := by decide +kernel
theorem dX4_verdictOfAll_25 : decode cX4_verdictOfAll 25 = .ok (.iconst 0, 1) := by decide +kernel
theorem dX4_verdictOfAll_26 : decode cX4_verdictOfAll 26 = .ok (.ireturn, 1) := by decide +kernel
theorem dX4_verdictOfAll_27 : decode cX4_verdictOfAll 27 = .ok (.iload 4, 2) := by decide +kernel
theorem dX4_verdictOfAll_29 : decode cX4_verdictOfAll 29 = .ok (.iconst 2, 1) := by decide +kernel
theorem dX4_verdictOfAll_30 : decode cX4_verdictOfAll 30 = .ok (.if_icmp .ne 5, 3) := by decide +kernel
theorem dX4_verdictOfAll_33 : decode cX4_verdictOfAll 33 = .ok (.iconst 2, 1) := by decide +kernel
theorem dX4_verdictOfAll_34 : decode cX4_verdictOfAll 34 = .ok (.istore_n 2, 1) := by decide +kernel
theorem dX4_verdictOfAll_35 : decode cX4_verdictOfAll 35 = .ok (.iinc 3 1, 3) := by decide +kernel
theorem dX4_verdictOfAll_38 : decode cX4_verdictOfAll 38 = .ok (.goto (-34), 3) := by decide +kernel
theorem dX4_verdictOfAll_41 : decode cX4_verdictOfAll 41 = .ok (.iload_n 2, 1) := by decide +kernel
theorem dX4_verdictOfAll_42 : decode cX4_verdictOfAll 42 = .ok (.ireturn, 1) := by decide +kernel
theorem dX4_turned_0 : decode cX4_turned 0 = .ok (.iload_n 0, 1) := by decide +kernel
theorem dX4_turned_1 : decode cX4_turned 1 = .ok (.iconst 2, 1) := by decide +kernel
theorem dX4_turned_2 : decode cX4_turned 2 = .ok (.if_icmp .ne 7, 3) := by decide +kernel
theorem dX4_turned_5 : decode cX4_turned 5 = .ok (.iconst 2, 1) := by decide +kernel
theorem dX4_turned_6 : decode cX4_turned 6 = .ok (.goto 6, 3) := by decide +kernel
theorem dX4_turned_9 : decode cX4_turned 9 = .ok (.iconst 1, 1) := by decide +kernel
theorem dX4_turned_10 : decode cX4_turned 10 = .ok (.iload_n 0, 1) := by decide +kernel
theorem dX4_turned_11 : decode cX4_turned 11 = .ok (.isub, 1) := by decide +kernel
theorem dX4_turned_12 : decode cX4_turned 12 = .ok (.ireturn, 1) := by decide +kernel
theorem dX4_verdictOfOrder_0 : decode cX4_verdictOfOrder 0 = .ok (.aload_n 3, 1) := by decide +kernel
theorem dX4_verdictOfOrder_1 : decode cX4_verdictOfOrder 1 = .ok (.getfield 76, 3) := by decide +kernel
theorem dX4_verdictOfOrder_4 : decode cX4_verdictOfOrder 4 = .ok (.iload_n 1, 1) := by decide +kernel
theorem dX4_verdictOfOrder_5 : decode cX4_verdictOfOrder 5 = .ok (.baload, 1) := by decide +kernel
theorem dX4_verdictOfOrder_6 : decode cX4_verdictOfOrder 6 = .ok (.ifCond .eq 12, 3) := by decide +kernel
theorem dX4_verdictOfOrder_9 : decode cX4_verdictOfOrder 9 = .ok (.aload_n 3, 1) := by decide +kernel
theorem dX4_verdictOfOrder_10 : decode cX4_verdictOfOrder 10 = .ok (.getfield 76, 3) := by decide +kernel
theorem dX4_verdictOfOrder_13 : decode cX4_verdictOfOrder 13 = .ok (.iload_n 2, 1) := by decide +kernel
theorem dX4_verdictOfOrder_14 : decode cX4_verdictOfOrder 14 = .ok (.baload, 1) := by decide +kernel
theorem dX4_verdictOfOrder_15 : decode cX4_verdictOfOrder 15 = .ok (.ifCond .ne 5, 3) := by decide +kernel
theorem dX4_verdictOfOrder_18 : decode cX4_verdictOfOrder 18 = .ok (.iconst 0, 1) := by decide +kernel
theorem dX4_verdictOfOrder_19 : decode cX4_verdictOfOrder 19 = .ok (.ireturn, 1) := by decide +kernel
theorem dX4_verdictOfOrder_20 : decode cX4_verdictOfOrder 20 = .ok (.aload_n 3, 1) := by decide +kernel
theorem dX4_verdictOfOrder_21 : decode cX4_verdictOfOrder 21 = .ok (.getfield 82, 3) := by decide +kernel
theorem dX4_verdictOfOrder_24 : decode cX4_verdictOfOrder 24 = .ok (.iload_n 1, 1) := by decide +kernel
theorem dX4_verdictOfOrder_25 : decode cX4_verdictOfOrder 25 = .ok (.iaload, 1) := by decide +kernel
theorem dX4_verdictOfOrder_26 : decode cX4_verdictOfOrder 26 = .ok (.invokestatic 45, 3) := by decide +kernel
theorem dX4_verdictOfOrder_29 : decode cX4_verdictOfOrder 29 = .ok (.aload_n 3, 1) := by decide +kernel
theorem dX4_verdictOfOrder_30 : decode cX4_verdictOfOrder 30 = .ok (.getfield 85, 3) := by decide +kernel
theorem dX4_verdictOfOrder_33 : decode cX4_verdictOfOrder 33 = .ok (.iload_n 2, 1) := by decide +kernel
theorem dX4_verdictOfOrder_34 : decode cX4_verdictOfOrder 34 = .ok (.iaload, 1) := by decide +kernel
theorem dX4_verdictOfOrder_35 : decode cX4_verdictOfOrder 35 = .ok (.invokestatic 45, 3) := by decide +kernel
theorem dX4_verdictOfOrder_38 : decode cX4_verdictOfOrder 38 = .ok (.invokestatic 48, 3) := by decide +kernel
theorem dX4_verdictOfOrder_41 : decode cX4_verdictOfOrder 41 = .ok (.istore 4, 2) := by decide +kernel
theorem dX4_verdictOfOrder_43 : decode cX4_verdictOfOrder 43 = .ok (.iload_n 0, 1) := by decide +kernel
theorem dX4_verdictOfOrder_44 : decode cX4_verdictOfOrder 44 = .ok (.ifCond .eq 11, 3) := by decide +kernel
theorem dX4_verdictOfOrder_47 : decode cX4_verdictOfOrder 47 = .ok (.iload 4, 2) := by decide +kernel
theorem dX4_verdictOfOrder_49 : decode cX4_verdictOfOrder 49 = .ok (.ifCond .lt 13, 3) := by decide +kernel
theorem dX4_verdictOfOrder_52 : decode cX4_verdictOfOrder 52 = .ok (.goto 8, 3) := by decide +kernel
theorem dX4_verdictOfOrder_55 : decode cX4_verdictOfOrder 55 = .ok (.iload 4, 2) := by decide +kernel
theorem dX4_verdictOfOrder_57 : decode cX4_verdictOfOrder 57 = .ok (.ifCond .le 5, 3) := by decide +kernel
theorem dX4_verdictOfOrder_60 : decode cX4_verdictOfOrder 60 = .ok (.iconst 0, 1) := by decide +kernel
theorem dX4_verdictOfOrder_61 : decode cX4_verdictOfOrder 61 = .ok (.ireturn, 1) := by decide +kernel
theorem dX4_verdictOfOrder_62 : decode cX4_verdictOfOrder 62 = .ok (.aload_n 3, 1) := by decide +kernel
theorem dX4_verdictOfOrder_63 : decode cX4_verdictOfOrder 63 = .ok (.getfield 85, 3) := by decide +kernel
theorem dX4_verdictOfOrder_66 : decode cX4_verdictOfOrder 66 = .ok (.iload_n 1, 1) := by decide +kernel
theorem dX4_verdictOfOrder_67 : decode cX4_verdictOfOrder 67 = .ok (.iaload, 1) := by decide +kernel
theorem dX4_verdictOfOrder_68 : decode cX4_verdictOfOrder 68 = .ok (.invokestatic 45, 3) := by decide +kernel
theorem dX4_verdictOfOrder_71 : decode cX4_verdictOfOrder 71 = .ok (.aload_n 3, 1) := by decide +kernel
theorem dX4_verdictOfOrder_72 : decode cX4_verdictOfOrder 72 = .ok (.getfield 82, 3) := by decide +kernel
theorem dX4_verdictOfOrder_75 : decode cX4_verdictOfOrder 75 = .ok (.iload_n 2, 1) := by decide +kernel
theorem dX4_verdictOfOrder_76 : decode cX4_verdictOfOrder 76 = .ok (.iaload, 1) := by decide +kernel
theorem dX4_verdictOfOrder_77 : decode cX4_verdictOfOrder 77 = .ok (.invokestatic 45, 3) := by decide +kernel
theorem dX4_verdictOfOrder_80 : decode cX4_verdictOfOrder 80 = .ok (.invokestatic 48, 3) := by decide +kernel
theorem dX4_verdictOfOrder_83 : decode cX4_verdictOfOrder 83 = .ok (.istore 5, 2) := by decide +kernel
theorem dX4_verdictOfOrder_85 : decode cX4_verdictOfOrder 85 = .ok (.iload_n 0, 1) := by decide +kernel
theorem dX4_verdictOfOrder_86 : decode cX4_verdictOfOrder 86 = .ok (.ifCond .eq 16, 3) := by decide +kernel
theorem dX4_verdictOfOrder_89 : decode cX4_verdictOfOrder 89 = .ok (.iload 5, 2) := by decide +kernel
theorem dX4_verdictOfOrder_91 : decode cX4_verdictOfOrder 91 = .ok (.ifCond .ge 7, 3) := by decide +kernel
theorem dX4_verdictOfOrder_94 : decode cX4_verdictOfOrder 94 = .ok (.iconst 1, 1) := by decide +kernel
theorem dX4_verdictOfOrder_95 : decode cX4_verdictOfOrder 95 = .ok (.goto 17, 3) := by decide +kernel
theorem dX4_verdictOfOrder_98 : decode cX4_verdictOfOrder 98 = .ok (.iconst 0, 1) := by decide +kernel
theorem dX4_verdictOfOrder_99 : decode cX4_verdictOfOrder 99 = .ok (.goto 13, 3) := by decide +kernel
theorem dX4_verdictOfOrder_102 : decode cX4_verdictOfOrder 102 = .ok (.iload 5, 2) := by decide +kernel
theorem dX4_verdictOfOrder_104 : decode cX4_verdictOfOrder 104 = .ok (.ifCond .gt 7, 3) := by decide +kernel
theorem dX4_verdictOfOrder_107 : decode cX4_verdictOfOrder 107 = .ok (.iconst 1, 1) := by decide +kernel
theorem dX4_verdictOfOrder_108 : decode cX4_verdictOfOrder 108 = .ok (.goto 4, 3) := by decide +kernel
theorem dX4_verdictOfOrder_111 : decode cX4_verdictOfOrder 111 = .ok (.iconst 0, 1) := by decide +kernel
theorem dX4_verdictOfOrder_112 : decode cX4_verdictOfOrder 112 = .ok (.istore 6, 2) := by decide +kernel
theorem dX4_verdictOfOrder_114 : decode cX4_verdictOfOrder 114 = .ok (.iload 6, 2) := by decide +kernel
theorem dX4_verdictOfOrder_116 : decode cX4_verdictOfOrder 116 = .ok (.ifCond .eq 25, 3) := by decide +kernel
theorem dX4_verdictOfOrder_119 : decode cX4_verdictOfOrder 119 = .ok (.aload_n 3, 1) := by decide +kernel
theorem dX4_verdictOfOrder_120 : decode cX4_verdictOfOrder 120 = .ok (.getfield 88, 3) := by decide +kernel
theorem dX4_verdictOfOrder_123 : decode cX4_verdictOfOrder 123 = .ok (.iload_n 1, 1) := by decide +kernel
theorem dX4_verdictOfOrder_124 : decode cX4_verdictOfOrder 124 = .ok (.baload, 1) := by decide +kernel
theorem dX4_verdictOfOrder_125 : decode cX4_verdictOfOrder 125 = .ok (.ifCond .ne 16, 3) := by decide +kernel
theorem dX4_verdictOfOrder_128 : decode cX4_verdictOfOrder 128 = .ok (.aload_n 3, 1) := by decide +kernel
theorem dX4_verdictOfOrder_129 : decode cX4_verdictOfOrder 129 = .ok (.getfield 88, 3) := by decide +kernel
theorem dX4_verdictOfOrder_132 : decode cX4_verdictOfOrder 132 = .ok (.iload_n 2, 1) := by decide +kernel
theorem dX4_verdictOfOrder_133 : decode cX4_verdictOfOrder 133 = .ok (.baload, 1) := by decide +kernel
theorem dX4_verdictOfOrder_134 : decode cX4_verdictOfOrder 134 = .ok (.ifCond .ne 7, 3) := by decide +kernel
theorem dX4_verdictOfOrder_137 : decode cX4_verdictOfOrder 137 = .ok (.iconst 1, 1) := by decide +kernel
theorem dX4_verdictOfOrder_138 : decode cX4_verdictOfOrder 138 = .ok (.goto 4, 3) := by decide +kernel
theorem dX4_verdictOfOrder_141 : decode cX4_verdictOfOrder 141 = .ok (.iconst 2, 1) := by decide +kernel
theorem dX4_verdictOfOrder_142 : decode cX4_verdictOfOrder 142 = .ok (.ireturn, 1) := by decide +kernel
theorem dX4_verdictOfSame_0 : decode cX4_verdictOfSame 0 = .ok (.aload_n 2, 1) := by decide +kernel
theorem dX4_verdictOfSame_1 : decode cX4_verdictOfSame 1 = .ok (.getfield 76, 3) := by decide +kernel
theorem dX4_verdictOfSame_4 : decode cX4_verdictOfSame 4 = .ok (.iload_n 0, 1) := by decide +kernel
theorem dX4_verdictOfSame_5 : decode cX4_verdictOfSame 5 = .ok (.baload, 1) := by decide +kernel
theorem dX4_verdictOfSame_6 : decode cX4_verdictOfSame 6 = .ok (.ifCond .eq 12, 3) := by decide +kernel
theorem dX4_verdictOfSame_9 : decode cX4_verdictOfSame 9 = .ok (.aload_n 2, 1) := by decide +kernel
theorem dX4_verdictOfSame_10 : decode cX4_verdictOfSame 10 = .ok (.getfield 76, 3) := by decide +kernel
theorem dX4_verdictOfSame_13 : decode cX4_verdictOfSame 13 = .ok (.iload_n 1, 1) := by decide +kernel
theorem dX4_verdictOfSame_14 : decode cX4_verdictOfSame 14 = .ok (.baload, 1) := by decide +kernel
theorem dX4_verdictOfSame_15 : decode cX4_verdictOfSame 15 = .ok (.ifCond .ne 5, 3) := by decide +kernel
theorem dX4_verdictOfSame_18 : decode cX4_verdictOfSame 18 = .ok (.iconst 0, 1) := by decide +kernel
theorem dX4_verdictOfSame_19 : decode cX4_verdictOfSame 19 = .ok (.ireturn, 1) := by decide +kernel
theorem dX4_verdictOfSame_20 : decode cX4_verdictOfSame 20 = .ok (.aload_n 2, 1) := by decide +kernel
theorem dX4_verdictOfSame_21 : decode cX4_verdictOfSame 21 = .ok (.getfield 82, 3) := by decide +kernel
theorem dX4_verdictOfSame_24 : decode cX4_verdictOfSame 24 = .ok (.iload_n 0, 1) := by decide +kernel
theorem dX4_verdictOfSame_25 : decode cX4_verdictOfSame 25 = .ok (.iaload, 1) := by decide +kernel
theorem dX4_verdictOfSame_26 : decode cX4_verdictOfSame 26 = .ok (.invokestatic 45, 3) := by decide +kernel
theorem dX4_verdictOfSame_29 : decode cX4_verdictOfSame 29 = .ok (.istore_n 3, 1) := by decide +kernel
theorem dX4_verdictOfSame_30 : decode cX4_verdictOfSame 30 = .ok (.aload_n 2, 1) := by decide +kernel
theorem dX4_verdictOfSame_31 : decode cX4_verdictOfSame 31 = .ok (.getfield 85, 3) := by decide +kernel
theorem dX4_verdictOfSame_34 : decode cX4_verdictOfSame 34 = .ok (.iload_n 0, 1) := by decide +kernel
theorem dX4_verdictOfSame_35 : decode cX4_verdictOfSame 35 = .ok (.iaload, 1) := by decide +kernel
theorem dX4_verdictOfSame_36 : decode cX4_verdictOfSame 36 = .ok (.invokestatic 45, 3) := by decide +kernel
theorem dX4_verdictOfSame_39 : decode cX4_verdictOfSame 39 = .ok (.istore 4, 2) := by decide +kernel
theorem dX4_verdictOfSame_41 : decode cX4_verdictOfSame 41 = .ok (.aload_n 2, 1) := by decide +kernel
theorem dX4_verdictOfSame_42 : decode cX4_verdictOfSame 42 = .ok (.getfield 82, 3) := by decide +kernel
theorem dX4_verdictOfSame_45 : decode cX4_verdictOfSame 45 = .ok (.iload_n 1, 1) := by decide +kernel
theorem dX4_verdictOfSame_46 : decode cX4_verdictOfSame 46 = .ok (.iaload, 1) := by decide +kernel
theorem dX4_verdictOfSame_47 : decode cX4_verdictOfSame 47 = .ok (.invokestatic 45, 3) := by decide +kernel
theorem dX4_verdictOfSame_50 : decode cX4_verdictOfSame 50 = .ok (.istore 5, 2) := by decide +kernel
theorem dX4_verdictOfSame_52 : decode cX4_verdictOfSame 52 = .ok (.aload_n 2, 1) := by decide +kernel
theorem dX4_verdictOfSame_53 : decode cX4_verdictOfSame 53 = .ok (.getfield 85, 3) := by decide +kernel
theorem dX4_verdictOfSame_56 : decode cX4_verdictOfSame 56 = .ok (.iload_n 1, 1) := by decide +kernel
theorem dX4_verdictOfSame_57 : decode cX4_verdictOfSame 57 = .ok (.iaload, 1) := by decide +kernel
theorem dX4_verdictOfSame_58 : decode cX4_verdictOfSame 58 = .ok (.invokestatic 45, 3) := by decide +kernel
theorem dX4_verdictOfSame_61 : decode cX4_verdictOfSame 61 = .ok (.istore 6, 2) := by decide +kernel
theorem dX4_verdictOfSame_63 : decode cX4_verdictOfSame 63 = .ok (.iload 4, 2) := by decide +kernel
theorem dX4_verdictOfSame_65 : decode cX4_verdictOfSame 65 = .ok (.iload 5, 2) := by decide +kernel
theorem dX4_verdictOfSame_67 : decode cX4_verdictOfSame 67 = .ok (.if_icmp .lt 9, 3) := by decide +kernel
theorem dX4_verdictOfSame_70 : decode cX4_verdictOfSame 70 = .ok (.iload 6, 2) := by decide +kernel
theorem dX4_verdictOfSame_72 : decode cX4_verdictOfSame 72 = .ok (.iload_n 3, 1) := by decide +kernel
theorem dX4_verdictOfSame_73 : decode cX4_verdictOfSame 73 = .ok (.if_icmp .ge 5, 3) := by decide +kernel
theorem dX4_verdictOfSame_76 : decode cX4_verdictOfSame 76 = .ok (.iconst 0, 1) := by decide +kernel
theorem dX4_verdictOfSame_77 : decode cX4_verdictOfSame 77 = .ok (.ireturn, 1) := by decide +kernel
theorem dX4_verdictOfSame_78 : decode cX4_verdictOfSame 78 = .ok (.iload_n 3, 1) := by decide +kernel
theorem dX4_verdictOfSame_79 : decode cX4_verdictOfSame 79 = .ok (.iload 4, 2) := by decide +kernel
theorem dX4_verdictOfSame_81 : decode cX4_verdictOfSame 81 = .ok (.if_icmp .ne 20, 3) := by decide +kernel
theorem dX4_verdictOfSame_84 : decode cX4_verdictOfSame 84 = .ok (.iload 5, 2) := by decide +kernel
theorem dX4_verdictOfSame_86 : decode cX4_verdictOfSame 86 = .ok (.iload 6, 2) := by decide +kernel
theorem dX4_verdictOfSame_88 : decode cX4_verdictOfSame 88 = .ok (.if_icmp .ne 13, 3) := by decide +kernel
theorem dX4_verdictOfSame_91 : decode cX4_verdictOfSame 91 = .ok (.iload_n 3, 1) := by decide +kernel
theorem dX4_verdictOfSame_92 : decode cX4_verdictOfSame 92 = .ok (.iload 5, 2) := by decide +kernel
theorem dX4_verdictOfSame_94 : decode cX4_verdictOfSame 94 = .ok (.if_icmp .ne 7, 3) := by decide +kernel
theorem dX4_verdictOfSame_97 : decode cX4_verdictOfSame 97 = .ok (.iconst 1, 1) := by decide +kernel
theorem dX4_verdictOfSame_98 : decode cX4_verdictOfSame 98 = .ok (.goto 4, 3) := by decide +kernel
theorem dX4_verdictOfSame_101 : decode cX4_verdictOfSame 101 = .ok (.iconst 0, 1) := by decide +kernel
theorem dX4_verdictOfSame_102 : decode cX4_verdictOfSame 102 = .ok (.istore 7, 2) := by decide +kernel
theorem dX4_verdictOfSame_104 : decode cX4_verdictOfSame 104 = .ok (.iload 7, 2) := by decide +kernel
theorem dX4_verdictOfSame_106 : decode cX4_verdictOfSame 106 = .ok (.ifCond .eq 25, 3) := by decide +kernel
theorem dX4_verdictOfSame_109 : decode cX4_verdictOfSame 109 = .ok (.aload_n 2, 1) := by decide +kernel
theorem dX4_verdictOfSame_110 : decode cX4_verdictOfSame 110 = .ok (.getfield 88, 3) := by decide +kernel
theorem dX4_verdictOfSame_113 : decode cX4_verdictOfSame 113 = .ok (.iload_n 0, 1) := by decide +kernel
theorem dX4_verdictOfSame_114 : decode cX4_verdictOfSame 114 = .ok (.baload, 1) := by decide +kernel
theorem dX4_verdictOfSame_115 : decode cX4_verdictOfSame 115 = .ok (.ifCond .ne 16, 3) := by decide +kernel
theorem dX4_verdictOfSame_118 : decode cX4_verdictOfSame 118 = .ok (.aload_n 2, 1) := by decide +kernel
theorem dX4_verdictOfSame_119 : decode cX4_verdictOfSame 119 = .ok (.getfield 88, 3) := by decide +kernel
theorem dX4_verdictOfSame_122 : decode cX4_verdictOfSame 122 = .ok (.iload_n 1, 1) := by decide +kernel
theorem dX4_verdictOfSame_123 : decode cX4_verdictOfSame 123 = .ok (.baload, 1) := by decide +kernel
theorem dX4_verdictOfSame_124 : decode cX4_verdictOfSame 124 = .ok (.ifCond .ne 7, 3) := by decide +kernel
theorem dX4_verdictOfSame_127 : decode cX4_verdictOfSame 127 = .ok (.iconst 1, 1) := by decide +kernel
theorem dX4_verdictOfSame_128 : decode cX4_verdictOfSame 128 = .ok (.goto 4, 3) := by decide +kernel
theorem dX4_verdictOfSame_131 : decode cX4_verdictOfSame 131 = .ok (.iconst 2, 1) := by decide +kernel
theorem dX4_verdictOfSame_132 : decode cX4_verdictOfSame 132 = .ok (.ireturn, 1) := by decide +kernel
theorem dX4_verdictOfNone_0 : decode cX4_verdictOfNone 0 = .ok (.aload_n 1, 1) := by decide +kernel
theorem dX4_verdictOfNone_1 : decode cX4_verdictOfNone 1 = .ok (.getfield 76, 3) := by decide +kernel
theorem dX4_verdictOfNone_4 : decode cX4_verdictOfNone 4 = .ok (.iload_n 0, 1) := by decide +kernel
theorem dX4_verdictOfNone_5 : decode cX4_verdictOfNone 5 = .ok (.baload, 1) := by decide +kernel
theorem dX4_verdictOfNone_6 : decode cX4_verdictOfNone 6 = .ok (.ifCond .ne 5, 3) := by decide +kernel
theorem dX4_verdictOfNone_9 : decode cX4_verdictOfNone 9 = .ok (.iconst 1, 1) := by decide +kernel
theorem dX4_verdictOfNone_10 : decode cX4_verdictOfNone 10 = .ok (.ireturn, 1) := by decide +kernel
theorem dX4_verdictOfNone_11 : decode cX4_verdictOfNone 11 = .ok (.aload_n 1, 1) := by decide +kernel
theorem dX4_verdictOfNone_12 : decode cX4_verdictOfNone 12 = .ok (.getfield 88, 3) := by decide +kernel
theorem dX4_verdictOfNone_15 : decode cX4_verdictOfNone 15 = .ok (.iload_n 0, 1) := by decide +kernel
theorem dX4_verdictOfNone_16 : decode cX4_verdictOfNone 16 = .ok (.baload, 1) := by decide +kernel
theorem dX4_verdictOfNone_17 : decode cX4_verdictOfNone 17 = .ok (.ifCond .eq 7, 3) := by decide +kernel
theorem dX4_verdictOfNone_20 : decode cX4_verdictOfNone 20 = .ok (.iconst 2, 1) := by decide +kernel
theorem dX4_verdictOfNone_21 : decode cX4_verdictOfNone 21 = .ok (.goto 4, 3) := by decide +kernel
theorem dX4_verdictOfNone_24 : decode cX4_verdictOfNone 24 = .ok (.iconst 0, 1) := by decide +kernel
theorem dX4_verdictOfNone_25 : decode cX4_verdictOfNone 25 = .ok (.ireturn, 1) := by decide +kernel
theorem dX5_init_0 : decode cX5_init 0 = .ok (.aload_n 0, 1) := by decide +kernel
theorem dX5_init_1 : decode cX5_init 1 = .ok (.invokespecial 3, 3) := by decide +kernel
theorem dX5_init_4 : decode cX5_init 4 = .ok (.aload_n 0, 1) := by decide +kernel
theorem dX5_init_5 : decode cX5_init 5 = .ok (.sipush 128, 3) := by decide +kernel
theorem dX5_init_8 : decode cX5_init 8 = .ok (.newarray .int, 2) := by decide +kernel
theorem dX5_init_10 : decode cX5_init 10 = .ok (.putfield 11, 3) := by decide +kernel
theorem dX5_init_13 : decode cX5_init 13 = .ok (.aload_n 0, 1) := by decide +kernel
theorem dX5_init_14 : decode cX5_init 14 = .ok (.sipush 128, 3) := by decide +kernel
theorem dX5_init_17 : decode cX5_init 17 = .ok (.newarray .int, 2) := by decide +kernel
theorem dX5_init_19 : decode cX5_init 19 = .ok (.putfield 15, 3) := by decide +kernel
theorem dX5_init_22 : decode cX5_init 22 = .ok (.aload_n 0, 1) := by decide +kernel
theorem dX5_init_23 : decode cX5_init 23 = .ok (.sipush 128, 3) := by decide +kernel
theorem dX5_init_26 : decode cX5_init 26 = .ok (.newarray .int, 2) := by decide +kernel
theorem dX5_init_28 : decode cX5_init 28 = .ok (.putfield 18, 3) := by decide +kernel
theorem dX5_init_31 : decode cX5_init 31 = .ok (.aload_n 0, 1) := by decide +kernel
theorem dX5_init_32 : decode cX5_init 32 = .ok (.iconst 0, 1) := by decide +kernel
theorem dX5_init_33 : decode cX5_init 33 = .ok (.putfield 21, 3) := by decide +kernel
theorem dX5_init_36 : decode cX5_init 36 = .ok (.aload_n 0, 1) := by decide +kernel
theorem dX5_init_37 : decode cX5_init 37 = .ok (.new 25, 3) := by decide +kernel
theorem dX5_init_40 : decode cX5_init 40 = .ok (.dup, 1) := by decide +kernel
theorem dX5_init_41 : decode cX5_init 41 = .ok (.invokespecial 27, 3) := by decide +kernel
theorem dX5_init_44 : decode cX5_init 44 = .ok (.putfield 28, 3) := by decide +kernel
theorem dX5_init_47 : decode cX5_init 47 = .ok (.aload_n 0, 1) := by decide +kernel
theorem dX5_init_48 : decode cX5_init 48 = .ok (.iconst 0, 1) := by decide +kernel
theorem dX5_init_49 : decode cX5_init 49 = .ok (.putfield 32, 3) := by decide +kernel
theorem dX5_init_52 : decode cX5_init 52 = .ok (.aload_n 0, 1) := by decide +kernel
theorem dX5_init_53 : decode cX5_init 53 = .ok (.iconst 0, 1) := by decide +kernel
theorem dX5_init_54 : decode cX5_init 54 = .ok (.putfield 36, 3) := by decide +kernel
theorem dX5_init_57 : decode cX5_init 57 = .ok (.aload_n 0, 1) := by decide +kernel
theorem dX5_init_58 : decode cX5_init 58 = .ok (.iconst 0, 1) := by decide +kernel
theorem dX5_init_59 : decode cX5_init 59 = .ok (.putfield 39, 3) := by decide +kernel
theorem dX5_init_62 : decode cX5_init 62 = .ok (.aload_n 0, 1) := by decide +kernel
theorem dX5_init_63 : decode cX5_init 63 = .ok (.iconst 0, 1) := by decide +kernel
theorem dX5_init_64 : decode cX5_init 64 = .ok (.putfield 42, 3) := by decide +kernel
theorem dX5_init_67 : decode cX5_init 67 = .ok (.aload_n 0, 1) := by decide +kernel
theorem dX5_init_68 : decode cX5_init 68 = .ok (.aload_n 1, 1) := by decide +kernel
theorem dX5_init_69 : decode cX5_init 69 = .ok (.putfield 45, 3) := by decide +kernel
theorem dX5_init_72 : decode cX5_init 72 = .ok (.aload_n 0, 1) := by decide +kernel
theorem dX5_init_73 : decode cX5_init 73 = .ok (.aload_n 2, 1) := by decide +kernel
theorem dX5_init_74 : decode cX5_init 74 = .ok (.putfield 49, 3) := by decide +kernel
theorem dX5_init_77 : decode cX5_init 77 = .ok (.aload_n 0, 1) := by decide +kernel
theorem dX5_init_78 : decode cX5_init 78 = .ok (.aload_n 3, 1) := by decide +kernel
theorem dX5_init_79 : decode cX5_init 79 = .ok (.putfield 53, 3) := by decide +kernel
theorem dX5_init_82 : decode cX5_init 82 = .ok (.aload_n 0, 1) := by decide +kernel
theorem dX5_init_83 : decode cX5_init 83 = .ok (.aload 4, 2) := by decide +kernel
theorem dX5_init_85 : decode cX5_init 85 = .ok (.putfield 57, 3) := by decide +kernel
theorem dX5_init_88 : decode cX5_init 88 = .ok (.return_, 1) := by decide +kernel
theorem dX5_run_0 : decode cX5_run 0 = .ok (.aload_n 0, 1) := by decide +kernel
theorem dX5_run_1 : decode cX5_run 1 = .ok (.invokevirtual 60, 3) := by decide +kernel
theorem dX5_run_4 : decode cX5_run 4 = .ok (.aload_n 0, 1) := by decide +kernel
theorem dX5_run_5 : decode cX5_run 5 = .ok (.getfield 49, 3) := by decide +kernel
theorem dX5_run_8 : decode cX5_run 8 = .ok (.aload_n 0, 1) := by decide +kernel
theorem dX5_run_9 : decode cX5_run 9 = .ok (.getfield 45, 3) := by decide +kernel
theorem dX5_run_12 : decode cX5_run 12 = .ok (.invokevirtual 63, 3) := by decide +kernel
theorem dX5_run_15 : decode cX5_run 15 = .ok (.lstore_n 2, 1) := by decide +kernel
theorem dX5_run_16 : decode cX5_run 16 = .ok (.iconst 0, 1) := by decide +kernel
theorem dX5_run_17 : decode cX5_run 17 = .ok (.istore 4, 2) := by decide +kernel
theorem dX5_run_19 : decode cX5_run 19 = .ok (.iload 4, 2) := by decide +kernel
theorem dX5_run_21 : decode cX5_run 21 = .ok (.iload_n 1, 1) := by decide +kernel
theorem dX5_run_22 : decode cX5_run 22 = .ok (.if_icmp .ge 123, 3) := by decide +kernel
theorem dX5_run_25 : decode cX5_run 25 = .ok (.aload_n 0, 1) := by decide +kernel
theorem dX5_run_26 : decode cX5_run 26 = .ok (.dup, 1) := by decide +kernel
theorem dX5_run_27 : decode cX5_run 27 = .ok (.getfield 39, 3) := by decide +kernel
theorem dX5_run_30 : decode cX5_run 30 = .ok (.iconst 1, 1) := by decide +kernel
theorem dX5_run_31 : decode cX5_run 31 = .ok (.iadd, 1) := by decide +kernel
theorem dX5_run_32 : decode cX5_run 32 = .ok (.putfield 39, 3) := by decide +kernel
theorem dX5_run_35 : decode cX5_run 35 = .ok (.aload_n 0, 1) := by decide +kernel
theorem dX5_run_36 : decode cX5_run 36 = .ok (.getfield 53, 3) := by decide +kernel
theorem dX5_run_39 : decode cX5_run 39 = .ok (.aload_n 0, 1) := by decide +kernel
theorem dX5_run_40 : decode cX5_run 40 = .ok (.getfield 28, 3) := by decide +kernel
theorem dX5_run_43 : decode cX5_run 43 = .ok (.lload_n 2, 1) := by decide +kernel
theorem dX5_run_44 : decode cX5_run 44 = .ok (.invokevirtual 69, 3) := by decide +kernel
theorem dX5_run_47 : decode cX5_run 47 = .ok (.aload_n 0, 1) := by decide +kernel
theorem dX5_run_48 : decode cX5_run 48 = .ok (.getfield 49, 3) := by decide +kernel
theorem dX5_run_51 : decode cX5_run 51 = .ok (.aload_n 0, 1) := by decide +kernel
theorem dX5_run_52 : decode cX5_run 52 = .ok (.getfield 53, 3) := by decide +kernel
theorem dX5_run_55 : decode cX5_run 55 = .ok (.invokevirtual 75, 3) := by decide +kernel
theorem dX5_run_58 : decode cX5_run 58 = .ok (.istore 5, 2) := by decide +kernel
theorem dX5_run_60 : decode cX5_run 60 = .ok (.aload_n 0, 1) := by decide +kernel
theorem dX5_run_61 : decode cX5_run 61 = .ok (.getfield 28, 3) := by decide +kernel
theorem dX5_run_64 : decode cX5_run 64 = .ok (.invokevirtual 79, 3) := by decide +kernel
theorem dX5_run_67 : decode cX5_run 67 = .ok (.istore 6, 2) := by decide +kernel
theorem dX5_run_69 : decode cX5_run 69 = .ok (.iload 5, 2) := by decide +kernel
theorem dX5_run_71 : decode cX5_run 71 = .ok (.iconst 2, 1) := by decide +kernel
theorem dX5_run_72 : decode cX5_run 72 = .ok (.if_icmp .ne 23, 3) := by decide +kernel
theorem dX5_run_75 : decode cX5_run 75 = .ok (.iload 6, 2) := by decide +kernel
theorem dX5_run_77 : decode cX5_run 77 = .ok (.iconst 4, 1) := by decide +kernel
theorem dX5_run_78 : decode cX5_run 78 = .ok (.if_icmp .ne 17, 3) := by decide +kernel
theorem dX5_run_81 : decode cX5_run 81 = .ok (.aload_n 0, 1) := by decide +kernel
theorem dX5_run_82 : decode cX5_run 82 = .ok (.invokevirtual 83, 3) := by decide +kernel
theorem dX5_run_85 : decode cX5_run 85 = .ok (.ifCond .eq 7, 3) := by decide +kernel
theorem dX5_run_88 : decode cX5_run 88 = .ok (.iconst 1, 1) := by decide +kernel
theorem dX5_run_89 : decode cX5_run 89 = .ok (.goto 4, 3) := by decide +kernel
theorem dX5_run_92 : decode cX5_run 92 = .ok (.iconst 0, 1) := by decide +kernel
theorem dX5_run_93 : decode cX5_run 93 = .ok (.istore 5, 2) := by decide +kernel
theorem dX5_run_95 : decode cX5_run 95 = .ok (.iload 5, 2) := by decide +kernel
theorem dX5_run_97 : decode cX5_run 97 = .ok (.iconst 1, 1) := by decide +kernel
theorem dX5_run_98 : decode cX5_run 98 = .ok (.if_icmp .ne 9, 3) := by decide +kernel
theorem dX5_run_101 : decode cX5_run 101 = .ok (.aload_n 0, 1) := by decide +kernel
theorem dX5_run_102 : decode cX5_run 102 = .ok (.iconst 1, 1) := by decide +kernel
theorem dX5_run_103 : decode cX5_run 103 = .ok (.invokevirtual 87, 3) := by decide +kernel
theorem dX5_run_106 : decode cX5_run 106 = .ok (.ireturn, 1) := by decide +kernel
theorem dX5_run_107 : decode cX5_run 107 = .ok (.iload 5, 2) := by decide +kernel
theorem dX5_run_109 : decode cX5_run 109 = .ok (.iconst 2, 1) := by decide +kernel
theorem dX5_run_110 : decode cX5_run 110 = .ok (.if_icmp .ne 12, 3) := by decide +kernel
theorem dX5_run_113 : decode cX5_run 113 = .ok (.aload_n 0, 1) := by decide +kernel
theorem dX5_run_114 : decode cX5_run 114 = .ok (.iload 6, 2) := by decide +kernel
theorem dX5_run_116 : decode cX5_run 116 = .ok (.invokevirtual 91, 3) := by decide +kernel
theorem dX5_run_119 : decode cX5_run 119 = .ok (.goto 20, 3) := by decide +kernel
theorem dX5_run_122 : decode cX5_run 122 = .ok (.aload_n 0, 1) := by decide +kernel
theorem dX5_run_123 : decode cX5_run 123 = .ok (.getfield 21, 3) := by decide +kernel
theorem dX5_run_126 : decode cX5_run 126 = .ok (.ifCond .ne 9, 3) := by decide +kernel
theorem dX5_run_129 : decode cX5_run 129 = .ok (.aload_n 0, 1) := by decide +kernel
theorem dX5_run_130 : decode cX5_run 130 = .ok (.iconst 0, 1) := by decide +kernel
theorem dX5_run_131 : decode cX5_run 131 = .ok (.invokevirtual 87, 3) := by decide +kernel
theorem dX5_run_134 : decode cX5_run 134 = .ok (.ireturn, 1) := by decide +kernel
theorem dX5_run_135 : decode cX5_run 135 = .ok (.aload_n 0, 1) := by decide +kernel
theorem dX5_run_136 : decode cX5_run 136 = .ok (.invokevirtual 95, 3) := by decide +kernel
theorem dX5_run_139 : decode cX5_run 139 = .ok (.iinc 4 1, 3) := by decide +kernel
theorem dX5_run_142 : decode cX5_run 142 = .ok (.goto (-123), 3) := by decide +kernel
theorem dX5_run_145 : decode cX5_run 145 = .ok (.aload_n 0, 1) := by decide +kernel
theorem dX5_run_146 : decode cX5_run 146 = .ok (.iconst 2, 1) := by decide +kernel
theorem dX5_run_147 : decode cX5_run 147 = .ok (.invokevirtual 87, 3) := by decide +kernel
theorem dX5_run_150 : decode cX5_run 150 = .ok (.ireturn, 1) := by decide +kernel
theorem dX5_start_0 : decode cX5_start 0 = .ok (.aload_n 0, 1) := by decide +kernel
theorem dX5_start_1 : decode cX5_start 1 = .ok (.getfield 28, 3) := by decide +kernel
theorem dX5_start_4 : decode cX5_start 4 = .ok (.aload_n 0, 1) := by decide +kernel
theorem dX5_start_5 : decode cX5_start 5 = .ok (.getfield 57, 3) := by decide +kernel
theorem dX5_start_8 : decode cX5_start 8 = .ok (.invokevirtual 98, 3) := by decide +kernel
theorem dX5_start_11 : decode cX5_start 11 = .ok (.pop, 1) := by decide +kernel
theorem dX5_start_12 : decode cX5_start 12 = .ok (.aload_n 0, 1) := by decide +kernel
theorem dX5_start_13 : decode cX5_start 13 = .ok (.iconst 0, 1) := by decide +kernel
theorem dX5_start_14 : decode cX5_start 14 = .ok (.putfield 21, 3) := by decide +kernel
theorem dX5_start_17 : decode cX5_start 17 = .ok (.aload_n 0, 1) := by decide +kernel
theorem dX5_start_18 : decode cX5_start 18 = .ok (.iconst 0, 1) := by decide +kernel
theorem dX5_start_19 : decode cX5_start 19 = .ok (.putfield 39, 3) := by decide +kernel
theorem dX5_start_22 : decode cX5_start 22 = .ok (.aload_n 0, 1) := by decide +kernel
theorem dX5_start_23 : decode cX5_start 23 = .ok (.iconst 0, 1) := by decide +kernel
theorem dX5_start_24 : decode cX5_start 24 = .ok (.putfield 42, 3) := by decide +kernel
theorem dX5_start_27 : decode cX5_start 27 = .ok (.return_, 1) := by decide +kernel
theorem dX5_end_0 : decode cX5_end 0 = .ok (.aload_n 0, 1) := by decide +kernel
theorem dX5_end_1 : decode cX5_end 1 = .ok (.iconst 1, 1) := by decide +kernel
theorem dX5_end_2 : decode cX5_end 2 = .ok (.putfield 32, 3) := by decide +kernel
theorem dX5_end_5 : decode cX5_end 5 = .ok (.aload_n 0, 1) := by decide +kernel
theorem dX5_end_6 : decode cX5_end 6 = .ok (.iload_n 1, 1) := by decide +kernel
theorem dX5_end_7 : decode cX5_end 7 = .ok (.putfield 36, 3) := by decide +kernel
theorem dX5_end_10 : decode cX5_end 10 = .ok (.iload_n 1, 1) := by decide +kernel
theorem dX5_end_11 : decode cX5_end 11 = .ok (.ireturn, 1) := by decide +kernel
theorem dX5_isTrueHere_0 : decode cX5_isTrueHere 0 = .ok (.aload_n 0, 1) := by decide +kernel
theorem dX5_isTrueHere_1 : decode cX5_isTrueHere 1 = .ok (.getfield 45, 3) := by decide +kernel
theorem dX5_isTrueHere_4 : decode cX5_isTrueHere 4 = .ok (.aload_n 0, 1) := by decide +kernel
theorem dX5_isTrueHere_5 : decode cX5_isTrueHere 5 = .ok (.getfield 28, 3) := by decide +kernel
theorem dX5_isTrueHere_8 : decode cX5_isTrueHere 8 = .ok (.getfield 102, 3) := by decide +kernel
theorem dX5_isTrueHere_11 : decode cX5_isTrueHere 11 = .ok (.invokevirtual 105, 3) := by decide +kernel
theorem dX5_isTrueHere_14 : decode cX5_isTrueHere 14 = .ok (.aload_n 0, 1) := by decide +kernel
theorem dX5_isTrueHere_15 : decode cX5_isTrueHere 15 = .ok (.getfield 49, 3) := by decide +kernel
theorem dX5_isTrueHere_18 : decode cX5_isTrueHere 18 = .ok (.aload_n 0, 1) := by decide +kernel
theorem dX5_isTrueHere_19 : decode cX5_isTrueHere 19 = .ok (.getfield 45, 3) := by decide +kernel
theorem dX5_isTrueHere_22 : decode cX5_isTrueHere 22 = .ok (.getfield 111, 3) := by decide +kernel
theorem dX5_isTrueHere_25 : decode cX5_isTrueHere 25 = .ok (.invokevirtual 114, 3) := by decide +kernel
theorem dX5_isTrueHere_28 : decode cX5_isTrueHere 28 = .ok (.ireturn, 1) := by decide +kernel
theorem dX5_halve_0 : decode cX5_halve 0 = .ok (.aload_n 0, 1) := by decide +kernel
theorem dX5_halve_1 : decode cX5_halve 1 = .ok (.getfield 28, 3) := by decide +kernel
theorem dX5_halve_4 : decode cX5_halve 4 = .ok (.getfield 102, 3) := by decide +kernel
theorem dX5_halve_7 : decode cX5_halve 7 = .ok (.iload_n 1, 1) := by decide +kernel
theorem dX5_halve_8 : decode cX5_halve 8 = .ok (.iaload, 1) := by decide +kernel
theorem dX5_halve_9 : decode cX5_halve 9 = .ok (.i2l, 1) := by decide +kernel
theorem dX5_halve_10 : decode cX5_halve 10 = .ok (.aload_n 0, 1) := by decide +kernel
theorem dX5_halve_11 : decode cX5_halve 11 = .ok (.getfield 28, 3) := by decide +kernel
theorem dX5_halve_14 : decode cX5_halve 14 = .ok (.getfield 118, 3) := by decide +kernel
theorem dX5_halve_17 : decode cX5_halve 17 = .ok (.iload_n 1, 1) := by decide +kernel
theorem dX5_halve_18 : decode cX5_halve 18 = .ok (.iaload, 1) := by decide +kernel
theorem dX5_halve_19 : decode cX5_halve 19 = .ok (.i2l, 1) := by decide +kernel
theorem dX5_halve_20 : decode cX5_halve 20 = .ok (.ladd, 1) := by decide +kernel
theorem dX5_halve_21 : decode cX5_halve 21 = .ok (.iconst 1, 1) := by decide +kernel
theorem dX5_halve_22 : decode cX5_halve 22 = .ok (.lshr, 1) := by decide +kernel
theorem dX5_halve_23 : decode cX5_halve 23 = .ok (.l2i, 1) := by decide +kernel
theorem dX5_halve_24 : decode cX5_halve 24 = .ok (.istore_n 2, 1) := by decide +kernel
theorem dX5_halve_25 : decode cX5_halve 25 = .ok (.aload_n 0, 1) := by decide +kernel
theorem dX5_halve_26 : decode cX5_halve 26 = .ok (.getfield 21, 3) := by decide +kernel
theorem dX5_halve_29 : decode cX5_halve 29 = .ok (.sipush 128, 3) := by decide +kernel
theorem dX5_halve_32 : decode cX5_halve 32 = .ok (.if_icmp .ge 53, 3) := by decide +kernel
theorem dX5_halve_35 : decode cX5_halve 35 = .ok (.aload_n 0, 1) := by decide +kernel
theorem dX5_halve_36 : decode cX5_halve 36 = .ok (.getfield 11, 3) := by decide +kernel
theorem dX5_halve_39 : decode cX5_halve 39 = .ok (.aload_n 0, 1) := by decide +kernel
theorem dX5_halve_40 : decode cX5_halve 40 = .ok (.getfield 21, 3) := by decide +kernel
theorem dX5_halve_43 : decode cX5_halve 43 = .ok (.iload_n 1, 1) := by decide +kernel
theorem dX5_halve_44 : decode cX5_halve 44 = .ok (.iastore, 1) := by decide +kernel
theorem dX5_halve_45 : decode cX5_halve 45 = .ok (.aload_n 0, 1) := by decide +kernel
theorem dX5_halve_46 : decode cX5_halve 46 = .ok (.getfield 15, 3) := by decide +kernel
theorem dX5_halve_49 : decode cX5_halve 49 = .ok (.aload_n 0, 1) := by decide +kernel
theorem dX5_halve_50 : decode cX5_halve 50 = .ok (.getfield 21, 3) := by decide +kernel
theorem dX5_halve_53 : decode cX5_halve 53 = .ok (.iload_n 2, 1) := by decide +kernel
theorem dX5_halve_54 : decode cX5_halve 54 = .ok (.iconst 1, 1) := by decide +kernel
theorem dX5_halve_55 : decode cX5_halve 55 = .ok (.iadd, 1) := by decide +kernel
theorem dX5_halve_56 : decode cX5_halve 56 = .ok (.iastore, 1) := by decide +kernel
theorem dX5_halve_57 : decode cX5_halve 57 = .ok (.aload_n 0, 1) := by decide +kernel
theorem dX5_halve_58 : decode cX5_halve 58 = .ok (.getfield 18, 3) := by decide +kernel
theorem dX5_halve_61 : decode cX5_halve 61 = .ok (.aload_n 0, 1) := by decide +kernel
theorem dX5_halve_62 : decode cX5_halve 62 = .ok (.getfield 21, 3) := by decide +kernel
theorem dX5_halve_65 : decode cX5_halve 65 = .ok (.aload_n 0, 1) := by decide +kernel
theorem dX5_halve_66 : decode cX5_halve 66 = .ok (.getfield 28, 3) := by decide +kernel
