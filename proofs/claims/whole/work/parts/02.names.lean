/-! ===== BEGIN words of one list among another's, by their places ===== -/
theorem goodIn_r {big : List Cond} (ws : List Cond) (ps : List Nat) (hp : ws = ps.filterMap (fun i => big[i]?)) (h : ws.all goodWord = true) : GoodIn big ws := by
  intro w hw
  have h1 := List.all_eq_true.mp h w hw
  rw [hp] at hw
  obtain ⟨i, -, hi⟩ := List.mem_filterMap.mp hw
  have hm : w ∈ big := by first | exact List.mem_of_getElem? hi | exact List.getElem?_mem hi
  exact ⟨hm, good_of_word h1⟩
theorem goodIn_app {big a b : List Cond} (ha : GoodIn big a) (hb : GoodIn big b) : GoodIn big (a ++ b) := fun w h => (List.mem_append.mp h).elim (ha w) (hb w)
theorem goodIn_ca {big a b : List Cond} {c : Cond} (ha : GoodIn big (c :: a)) (hb : GoodIn big b) : GoodIn big (c :: (a ++ b)) := fun w h => (List.mem_cons.mp h).elim (fun e => ha w (List.mem_cons.mpr (Or.inl e))) (fun h => (List.mem_append.mp h).elim (fun h => ha w (List.mem_cons.mpr (Or.inr h))) (hb w))
theorem goodIn_sub {big ws : List Cond} (hm : ∀ w ∈ ws, w ∈ big) (h : ws.all goodWord = true) : GoodIn big ws := fun w hw => ⟨hm w hw, good_of_word (List.all_eq_true.mp h w hw)⟩
/-! ===== END ===== -/

/-! ===== BEGIN printed: names, fields, word lists, decode rows ===== -/
def RX0 : String := "PathSteps$Path"
def TX0 : u_T := fun k => match k with
  | 0 => ("PathSteps$Path", "number", "I", true)
  | 1 => ("PathSteps$Path", "kind", "I", true)
  | 2 => ("PathSteps$Path", "links", "I", true)
  | 3 => ("PathSteps$Path", "inner", "LPathSteps$Path;", true)
  | 4 => ("PathSteps$Path", "other", "LPathSteps$Path;", true)
  | 5 => ("PathSteps$Path", "parts", "J", true)
  | 6 => ("PathSteps$Path", "times", "[I", true)
  | 7 => ("PathSteps$Path", "joined", "[I", true)
  | 8 => ("PathSteps$Path", "countedSize", "I", false)
  | _ => ("PathSteps$Path", "countedGraph", "I", false)
def tyX0 : Nat → FieldType := fun k => match k with
  | 0 => .int
  | 1 => .int
  | 2 => .int
  | 3 => .object "PathSteps$Path"
  | 4 => .object "PathSteps$Path"
  | 5 => .long
  | 6 => .array .int
  | 7 => .array .int
  | 8 => .int
  | _ => .int
abbrev wsX00 : List Cond := u_ws RX0 TX0 10
theorem nmX0 : ∀ a, a < 10 → ∀ b, b < 10 → a ≠ b → (TX0 a).2.1 ≠ (TX0 b).2.1 := by decide +kernel
theorem tyX0_ok : ∀ k, k < 10 → parseFieldDescriptor (TX0 k).2.2.1 = some (tyX0 k) := by decide +kernel
abbrev cX0_init : ByteArray := prog_2_method_1_code
def yX0_init : MethodName := ⟨RX0, "<init>", "(IIILPathSteps$Path;LPathSteps$Path;)V"⟩
abbrev cX0_isMadeOf : ByteArray := prog_2_method_2_code
def yX0_isMadeOf : MethodName := ⟨RX0, "isMadeOf", "(I)Z"⟩
abbrev cX0_walks : ByteArray := prog_2_method_3_code
def yX0_walks : MethodName := ⟨RX0, "walks", "()Z"⟩
abbrev cX0_timesOf : ByteArray := prog_2_method_4_code
def yX0_timesOf : MethodName := ⟨RX0, "timesOf", "(II)I"⟩
abbrev cX0_pairs : ByteArray := prog_2_method_5_code
def yX0_pairs : MethodName := ⟨RX0, "pairs", "()I"⟩
abbrev cX0_countBetween : ByteArray := prog_2_method_6_code
def yX0_countBetween : MethodName := ⟨RX0, "countBetween", "(II)I"⟩
abbrev cX0_countIn : ByteArray := prog_2_method_7_code
def yX0_countIn : MethodName := ⟨RX0, "countIn", "(LPathSteps$Triples;I)V"⟩
abbrev cX0_forget : ByteArray := prog_2_method_8_code
def yX0_forget : MethodName := ⟨RX0, "forget", "()V"⟩
abbrev cX0_addTimes : ByteArray := prog_2_method_9_code
def yX0_addTimes : MethodName := ⟨RX0, "addTimes", "(IIJ)V"⟩
abbrev cX0_countLinks : ByteArray := prog_2_method_10_code
def yX0_countLinks : MethodName := ⟨RX0, "countLinks", "(LPathSteps$Triples;)V"⟩
abbrev cX0_countOverOne : ByteArray := prog_2_method_11_code
def yX0_countOverOne : MethodName := ⟨RX0, "countOverOne", "(LPathSteps$Path;I)V"⟩
abbrev cX0_countOverTwo : ByteArray := prog_2_method_12_code
def yX0_countOverTwo : MethodName := ⟨RX0, "countOverTwo", "(LPathSteps$Path;LPathSteps$Path;)V"⟩
abbrev cX0_countTurned : ByteArray := prog_2_method_13_code
def yX0_countTurned : MethodName := ⟨RX0, "countTurned", "(LPathSteps$Path;)V"⟩
abbrev cX0_countAll : ByteArray := prog_2_method_14_code
def yX0_countAll : MethodName := ⟨RX0, "countAll", "(LPathSteps$Path;)V"⟩
abbrev cX0_countBehind : ByteArray := prog_2_method_15_code
def yX0_countBehind : MethodName := ⟨RX0, "countBehind", "(LPathSteps$Path;LPathSteps$Path;)V"⟩
abbrev cX0_addBehind : ByteArray := prog_2_method_16_code
def yX0_addBehind : MethodName := ⟨RX0, "addBehind", "(IJLPathSteps$Path;I)V"⟩
abbrev cX0_joinByStep : ByteArray := prog_2_method_17_code
def yX0_joinByStep : MethodName := ⟨RX0, "joinByStep", "(LPathSteps$Path;I)V"⟩
abbrev cX0_joinOnwards : ByteArray := prog_2_method_18_code
def yX0_joinOnwards : MethodName := ⟨RX0, "joinOnwards", "()V"⟩
abbrev cX0_joinSelves : ByteArray := prog_2_method_19_code
def yX0_joinSelves : MethodName := ⟨RX0, "joinSelves", "(I)V"⟩
abbrev cX0_countJoinedOnce : ByteArray := prog_2_method_20_code
def yX0_countJoinedOnce : MethodName := ⟨RX0, "countJoinedOnce", "()V"⟩
abbrev cX0_measure : ByteArray := prog_2_method_21_code
def yX0_measure : MethodName := ⟨RX0, "measure", "(I[I)V"⟩
abbrev cX0_measureWalk : ByteArray := prog_2_method_22_code
def yX0_measureWalk : MethodName := ⟨RX0, "measureWalk", "(LPathSteps$Path;I[I)V"⟩
def RX1 : String := "PathSteps$Rows"
def TX1 : u_T := fun k => match k with
  | 0 => ("PathSteps$Rows", "firsts", "[I", true)
  | 1 => ("PathSteps$Rows", "seconds", "[I", true)
  | 2 => ("PathSteps$Rows", "depths", "[I", true)
  | 3 => ("PathSteps$Rows", "size", "I", false)
  | _ => ("PathSteps$Rows", "wereRun", "Z", false)
def tyX1 : Nat → FieldType := fun k => match k with
  | 0 => .array .int
  | 1 => .array .int
  | 2 => .array .int
  | 3 => .int
  | _ => .boolean
abbrev wsX10 : List Cond := u_ws RX1 TX1 5
theorem nmX1 : ∀ a, a < 5 → ∀ b, b < 5 → a ≠ b → (TX1 a).2.1 ≠ (TX1 b).2.1 := by decide +kernel
theorem tyX1_ok : ∀ k, k < 5 → parseFieldDescriptor (TX1 k).2.2.1 = some (tyX1 k) := by decide +kernel
abbrev cX1_init : ByteArray := prog_3_method_1_code
def yX1_init : MethodName := ⟨RX1, "<init>", "()V"⟩
abbrev cX1_begin : ByteArray := prog_3_method_2_code
def yX1_begin : MethodName := ⟨RX1, "begin", "()V"⟩
abbrev cX1_add : ByteArray := prog_3_method_3_code
def yX1_add : MethodName := ⟨RX1, "add", "(IIII)V"⟩
abbrev cX1_has : ByteArray := prog_3_method_4_code
def yX1_has : MethodName := ⟨RX1, "has", "(I)Z"⟩
def RX2 : String := "PathSteps$Triples"
def TX2 : u_T := fun k => match k with
  | 0 => ("PathSteps$Triples", "links", "[I", true)
  | 1 => ("PathSteps$Triples", "nodes", "I", false)
  | _ => ("PathSteps$Triples", "size", "I", false)
def tyX2 : Nat → FieldType := fun k => match k with
  | 0 => .array .int
  | 1 => .int
  | _ => .int
abbrev wsX20 : List Cond := u_ws RX2 TX2 3
theorem nmX2 : ∀ a, a < 3 → ∀ b, b < 3 → a ≠ b → (TX2 a).2.1 ≠ (TX2 b).2.1 := by decide +kernel
theorem tyX2_ok : ∀ k, k < 3 → parseFieldDescriptor (TX2 k).2.2.1 = some (tyX2 k) := by decide +kernel
abbrev cX2_init : ByteArray := prog_4_method_1_code
def yX2_init : MethodName := ⟨RX2, "<init>", "()V"⟩
abbrev cX2_has : ByteArray := prog_4_method_2_code
def yX2_has : MethodName := ⟨RX2, "has", "(III)Z"⟩
abbrev cX2_add : ByteArray := prog_4_method_3_code
def yX2_add : MethodName := ⟨RX2, "add", "(III)V"⟩
abbrev cX2_countFrom : ByteArray := prog_4_method_4_code
def yX2_countFrom : MethodName := ⟨RX2, "countFrom", "(I)I"⟩
def RX3 : String := "PathSteps"
def TX3 : u_T := fun k => match k with
  | 0 => ("PathSteps", "triples", "LPathSteps$Triples;", true)
  | 1 => ("PathSteps", "paths", "[LPathSteps$Path;", true)
  | 2 => ("PathSteps", "rows", "LPathSteps$Rows;", true)
  | 3 => ("PathSteps", "levels", "[I", true)
  | 4 => ("PathSteps", "pathCount", "I", false)
  | _ => ("PathSteps", "most", "I", false)
def tyX3 : Nat → FieldType := fun k => match k with
  | 0 => .object "PathSteps$Triples"
  | 1 => .array (.object "PathSteps$Path")
  | 2 => .object "PathSteps$Rows"
  | 3 => .array .int
  | 4 => .int
  | _ => .int
abbrev wsX30 : List Cond := u_ws RX3 TX3 6
theorem nmX3 : ∀ a, a < 6 → ∀ b, b < 6 → a ≠ b → (TX3 a).2.1 ≠ (TX3 b).2.1 := by decide +kernel
theorem tyX3_ok : ∀ k, k < 6 → parseFieldDescriptor (TX3 k).2.2.1 = some (tyX3 k) := by decide +kernel
abbrev cX3_init : ByteArray := prog_1_method_1_code
def yX3_init : MethodName := ⟨RX3, "<init>", "()V"⟩
abbrev cX3_triple : ByteArray := prog_1_method_2_code
def yX3_triple : MethodName := ⟨RX3, "triple", "(III)I"⟩
abbrev cX3_path : ByteArray := prog_1_method_3_code
def yX3_path : MethodName := ⟨RX3, "path", "(III)I"⟩
abbrev cX3_from : ByteArray := prog_1_method_4_code
def yX3_from : MethodName := ⟨RX3, "from", "(I)I"⟩
abbrev cX3_run : ByteArray := prog_1_method_5_code
def yX3_run : MethodName := ⟨RX3, "run", "(III)I"⟩
abbrev cX3_at : ByteArray := prog_1_method_6_code
def yX3_at : MethodName := ⟨RX3, "at", "(II)I"⟩
abbrev cX3_plain : ByteArray := prog_1_method_7_code
def yX3_plain : MethodName := ⟨RX3, "plain", "(III)I"⟩
abbrev cX3_steps : ByteArray := prog_1_method_8_code
def yX3_steps : MethodName := ⟨RX3, "steps", "(I)I"⟩
abbrev cX3_cycle : ByteArray := prog_1_method_9_code
def yX3_cycle : MethodName := ⟨RX3, "cycle", "(I)Z"⟩
abbrev cX3_depth : ByteArray := prog_1_method_10_code
def yX3_depth : MethodName := ⟨RX3, "depth", "(I)I"⟩
abbrev cX3_inverse : ByteArray := prog_1_method_11_code
def yX3_inverse : MethodName := ⟨RX3, "inverse", "(I)I"⟩
abbrev cX3_negated : ByteArray := prog_1_method_12_code
def yX3_negated : MethodName := ⟨RX3, "negated", "(II)I"⟩
abbrev cX3_isNode : ByteArray := prog_1_method_13_code
def yX3_isNode : MethodName := ⟨RX3, "isNode", "(I)Z"⟩
abbrev cX3_isPredicate : ByteArray := prog_1_method_14_code
def yX3_isPredicate : MethodName := ⟨RX3, "isPredicate", "(I)Z"⟩
abbrev cX3_isEnd : ByteArray := prog_1_method_15_code
def yX3_isEnd : MethodName := ⟨RX3, "isEnd", "(I)Z"⟩
abbrev cX3_lowest : ByteArray := prog_1_method_16_code
def yX3_lowest : MethodName := ⟨RX3, "lowest", "(I)I"⟩
abbrev cX3_highest : ByteArray := prog_1_method_17_code
def yX3_highest : MethodName := ⟨RX3, "highest", "(I)I"⟩
abbrev cX3_bitOf : ByteArray := prog_1_method_18_code
def yX3_bitOf : MethodName := ⟨RX3, "bitOf", "(I)I"⟩
abbrev cX3_holds : ByteArray := prog_1_method_19_code
def yX3_holds : MethodName := ⟨RX3, "holds", "(II)Z"⟩
abbrev cX3_known : ByteArray := prog_1_method_20_code
def yX3_known : MethodName := ⟨RX3, "known", "(I)LPathSteps$Path;"⟩
abbrev cX3_keepOverOne : ByteArray := prog_1_method_21_code
def yX3_keepOverOne : MethodName := ⟨RX3, "keepOverOne", "(ILPathSteps$Path;)I"⟩
abbrev cX3_keepOverTwo : ByteArray := prog_1_method_22_code
def yX3_keepOverTwo : MethodName := ⟨RX3, "keepOverTwo", "(ILPathSteps$Path;LPathSteps$Path;)I"⟩
abbrev cX3_keepPath : ByteArray := prog_1_method_23_code
def yX3_keepPath : MethodName := ⟨RX3, "keepPath", "(IILPathSteps$Path;LPathSteps$Path;)I"⟩
abbrev cX3_countParts : ByteArray := prog_1_method_24_code
def yX3_countParts : MethodName := ⟨RX3, "countParts", "(LPathSteps$Path;II)V"⟩
abbrev cX3_goesBeyond : ByteArray := prog_1_method_25_code
def yX3_goesBeyond : MethodName := ⟨RX3, "goesBeyond", "(LPathSteps$Path;)Z"⟩
abbrev cX3_keepRows : ByteArray := prog_1_method_26_code
def yX3_keepRows : MethodName := ⟨RX3, "keepRows", "(LPathSteps$Path;II)V"⟩
def RX4 : String := "PathStepsModel"
def TX4 : u_T := fun k => match k with
  | 0 => ("PathStepsModel", "refusal", "I", false)
  | 1 => ("PathStepsModel", "subjects", "[I", true)
  | 2 => ("PathStepsModel", "predicates", "[I", true)
  | 3 => ("PathStepsModel", "objects", "[I", true)
  | 4 => ("PathStepsModel", "triples", "I", false)
  | 5 => ("PathStepsModel", "kinds", "[I", true)
  | 6 => ("PathStepsModel", "first", "[I", true)
  | 7 => ("PathStepsModel", "second", "[I", true)
  | 8 => ("PathStepsModel", "paths", "I", false)
  | 9 => ("PathStepsModel", "most", "I", false)
  | 10 => ("PathStepsModel", "table", "[I", true)
  | 11 => ("PathStepsModel", "isNeeded", "[Z", true)
  | 12 => ("PathStepsModel", "isIn", "[Z", true)
  | 13 => ("PathStepsModel", "goesBeyond", "Z", false)
  | 14 => ("PathStepsModel", "steps", "[I", true)
  | 15 => ("PathStepsModel", "queue", "[I", true)
  | 16 => ("PathStepsModel", "wasRun", "Z", false)
  | 17 => ("PathStepsModel", "rows", "I", false)
  | 18 => ("PathStepsModel", "rowFrom", "[I", true)
  | 19 => ("PathStepsModel", "rowTo", "[I", true)
  | _ => ("PathStepsModel", "rowDepth", "[I", true)
def tyX4 : Nat → FieldType := fun k => match k with
  | 0 => .int
  | 1 => .array .int
  | 2 => .array .int
  | 3 => .array .int
  | 4 => .int
  | 5 => .array .int
  | 6 => .array .int
  | 7 => .array .int
  | 8 => .int
  | 9 => .int
  | 10 => .array .int
  | 11 => .array .boolean
  | 12 => .array .boolean
  | 13 => .boolean
  | 14 => .array .int
  | 15 => .array .int
  | 16 => .boolean
  | 17 => .int
  | 18 => .array .int
  | 19 => .array .int
  | _ => .array .int
abbrev wsX40 : List Cond := u_ws RX4 TX4 21
theorem nmX4 : ∀ a, a < 21 → ∀ b, b < 21 → a ≠ b → (TX4 a).2.1 ≠ (TX4 b).2.1 := by decide +kernel
theorem tyX4_ok : ∀ k, k < 21 → parseFieldDescriptor (TX4 k).2.2.1 = some (tyX4 k) := by decide +kernel
abbrev cX4_init : ByteArray := prog_6_method_1_code
def yX4_init : MethodName := ⟨RX4, "<init>", "()V"⟩
abbrev cX4_thrown : ByteArray := prog_6_method_2_code
def yX4_thrown : MethodName := ⟨RX4, "thrown", "()I"⟩
abbrev cX4_isBetween : ByteArray := prog_6_method_3_code
def yX4_isBetween : MethodName := ⟨RX4, "isBetween", "(III)Z"⟩
abbrev cX4_isNode : ByteArray := prog_6_method_4_code
def yX4_isNode : MethodName := ⟨RX4, "isNode", "(I)Z"⟩
abbrev cX4_isPath : ByteArray := prog_6_method_5_code
def yX4_isPath : MethodName := ⟨RX4, "isPath", "(I)Z"⟩
abbrev cX4_triple : ByteArray := prog_6_method_6_code
def yX4_triple : MethodName := ⟨RX4, "triple", "(III)I"⟩
abbrev cX4_made : ByteArray := prog_6_method_7_code
def yX4_made : MethodName := ⟨RX4, "made", "(III)I"⟩
abbrev cX4_path : ByteArray := prog_6_method_8_code
def yX4_path : MethodName := ⟨RX4, "path", "(III)I"⟩
abbrev cX4_inverse : ByteArray := prog_6_method_9_code
def yX4_inverse : MethodName := ⟨RX4, "inverse", "(I)I"⟩
abbrev cX4_negated : ByteArray := prog_6_method_10_code
def yX4_negated : MethodName := ⟨RX4, "negated", "(II)I"⟩
abbrev cX4_from : ByteArray := prog_6_method_11_code
def yX4_from : MethodName := ⟨RX4, "from", "(I)I"⟩
abbrev cX4_steps : ByteArray := prog_6_method_12_code
def yX4_steps : MethodName := ⟨RX4, "steps", "(I)I"⟩
abbrev cX4_cell : ByteArray := prog_6_method_13_code
def yX4_cell : MethodName := ⟨RX4, "cell", "(III)I"⟩
abbrev cX4_put : ByteArray := prog_6_method_14_code
def yX4_put : MethodName := ⟨RX4, "put", "(IIIJ)V"⟩
abbrev cX4_findNeeded : ByteArray := prog_6_method_15_code
def yX4_findNeeded : MethodName := ⟨RX4, "findNeeded", "(I)V"⟩
abbrev cX4_findGraph : ByteArray := prog_6_method_16_code
def yX4_findGraph : MethodName := ⟨RX4, "findGraph", "(II)V"⟩
abbrev cX4_makeLinks : ByteArray := prog_6_method_17_code
def yX4_makeLinks : MethodName := ⟨RX4, "makeLinks", "(I)V"⟩
abbrev cX4_joined : ByteArray := prog_6_method_18_code
def yX4_joined : MethodName := ⟨RX4, "joined", "(III)J"⟩
abbrev cX4_walk : ByteArray := prog_6_method_19_code
def yX4_walk : MethodName := ⟨RX4, "walk", "(II)V"⟩
abbrev cX4_makeWalks : ByteArray := prog_6_method_20_code
def yX4_makeWalks : MethodName := ⟨RX4, "makeWalks", "(I)V"⟩
abbrev cX4_makeTable : ByteArray := prog_6_method_21_code
def yX4_makeTable : MethodName := ⟨RX4, "makeTable", "(I)V"⟩
abbrev cX4_prepare : ByteArray := prog_6_method_22_code
def yX4_prepare : MethodName := ⟨RX4, "prepare", "(III)I"⟩
abbrev cX4_fits : ByteArray := prog_6_method_23_code
def yX4_fits : MethodName := ⟨RX4, "fits", "(IIII)Z"⟩
abbrev cX4_isEnd : ByteArray := prog_6_method_24_code
def yX4_isEnd : MethodName := ⟨RX4, "isEnd", "(I)Z"⟩
abbrev cX4_run : ByteArray := prog_6_method_25_code
def yX4_run : MethodName := ⟨RX4, "run", "(III)I"⟩
abbrev cX4_plain : ByteArray := prog_6_method_26_code
def yX4_plain : MethodName := ⟨RX4, "plain", "(III)I"⟩
abbrev cX4_isRow : ByteArray := prog_6_method_27_code
def yX4_isRow : MethodName := ⟨RX4, "isRow", "(I)Z"⟩
abbrev cX4_at : ByteArray := prog_6_method_28_code
def yX4_at : MethodName := ⟨RX4, "at", "(II)I"⟩
abbrev cX4_cycle : ByteArray := prog_6_method_29_code
def yX4_cycle : MethodName := ⟨RX4, "cycle", "(I)Z"⟩
abbrev cX4_depth : ByteArray := prog_6_method_30_code
def yX4_depth : MethodName := ⟨RX4, "depth", "(I)I"⟩
def RJx00060 : String := "java/lang/ArrayIndexOutOfBoundsException"
def TJx00060 : u_T := fun k => match k with
  | 0 => ("java/lang/Throwable", "cause", "Ljava/lang/Throwable;", false)
  | 1 => ("java/lang/Throwable", "stackTrace", "[Ljava/lang/StackTraceElement;", false)
  | 2 => ("java/lang/Throwable", "suppressedExceptions", "Ljava/util/List;", false)
  | 3 => ("java/lang/Throwable", "detailMessage", "Ljava/lang/String;", false)
  | 4 => ("java/lang/Throwable", "backtrace", "Ljava/lang/Object;", false)
  | _ => ("java/lang/Throwable", "depth", "I", false)
def tyJx00060 : Nat → FieldType := fun k => match k with
  | 0 => .object "java/lang/Throwable"
  | 1 => .array (.object "java/lang/StackTraceElement")
  | 2 => .object "java/util/List"
  | 3 => .object "java/lang/String"
  | 4 => .object "java/lang/Object"
  | _ => .int
abbrev wsJx000600 : List Cond := u_ws RJx00060 TJx00060 6
theorem nmJx00060 : ∀ a, a < 6 → ∀ b, b < 6 → a ≠ b → (TJx00060 a).2.1 ≠ (TJx00060 b).2.1 := by decide +kernel
theorem tyJx00060_ok : ∀ k, k < 6 → parseFieldDescriptor (TJx00060 k).2.2.1 = some (tyJx00060 k) := by decide +kernel
abbrev cJx00060_init_a7421 : ByteArray := prog_7_method_2_code
def yJx00060_init_a7421 : MethodName := ⟨RJx00060, "<init>", "(Ljava/lang/String;)V"⟩
def RJ6 : String := "java/lang/Integer"
def TJ6 : u_T := fun k => match k with
  | _ => ("", "", "", false)
def tyJ6 : Nat → FieldType := fun k => match k with
  | _ => .int
abbrev wsJ60 : List Cond := u_ws RJ6 TJ6 0
theorem nmJ6 : ∀ a, a < 0 → ∀ b, b < 0 → a ≠ b → (TJ6 a).2.1 ≠ (TJ6 b).2.1 := by decide +kernel
theorem tyJ6_ok : ∀ k, k < 0 → parseFieldDescriptor (TJ6 k).2.2.1 = some (tyJ6 k) := by decide +kernel
abbrev cJ6_bitCount_0f7a4 : ByteArray := prog_10_method_49_code
def yJ6_bitCount_0f7a4 : MethodName := ⟨RJ6, "bitCount", "(I)I"⟩
def RJ0 : String := "java/lang/String"
def TJ0 : u_T := fun k => match k with
  | _ => ("", "", "", false)
def tyJ0 : Nat → FieldType := fun k => match k with
  | _ => .int
abbrev wsJ00 : List Cond := u_ws RJ0 TJ0 0
theorem nmJ0 : ∀ a, a < 0 → ∀ b, b < 0 → a ≠ b → (TJ0 a).2.1 ≠ (TJ0 b).2.1 := by decide +kernel
theorem tyJ0_ok : ∀ k, k < 0 → parseFieldDescriptor (TJ0 k).2.2.1 = some (tyJ0 k) := by decide +kernel
def RL : String := "PathStepsLaw"
abbrev cL_depth : ByteArray := method_3_code
def yL_depth : MethodName := ⟨RL, "depth", "(LPathSteps;I[J)I"⟩
abbrev cL_law : ByteArray := code
def yL_law : MethodName := ⟨RL, "law", "([I)Z"⟩
abbrev vwCl : List vw_C := [(RJx00060, TJx00060, 6), (RX0, TX0, 10), (RX1, TX1, 5), (RX2, TX2, 3), (RX3, TX3, 6), (RX4, TX4, 21)]
