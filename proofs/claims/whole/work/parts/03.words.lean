def tg : List Cond := lw_tbl.filter goodWord
theorem tg_at {w : Cond} (i : Nat) (h : lw_tbl[i]? = some w) (hg : goodWord w = true) : w ∈ tg := List.mem_filter.mpr ⟨List.mem_of_getElem? h, hg⟩
theorem tg_in : ∀ w ∈ tg, w ∈ lw_tbl := fun w h => (List.mem_filter.mp h).1
/-- every word list that is a method's code and tg: good among any other such -/
theorem tg_good {x w : Cond} (h : w ∈ tg) : GoodIn (x :: tg) (w :: tg) := fun v hv => (List.mem_cons.mp hv).elim (fun e => by rw [e]; exact ⟨List.mem_cons_of_mem _ h, good_of_word (List.mem_filter.mp h).2⟩) (fun e => ⟨List.mem_cons_of_mem _ e, good_of_word (List.mem_filter.mp e).2⟩)
theorem tg_law {w : Cond} (h : w ∈ tg) : GoodIn lw_tbl (w :: tg) := fun v hv => (List.mem_cons.mp hv).elim (fun e => by rw [e]; exact ⟨tg_in _ h, good_of_word (List.mem_filter.mp h).2⟩) (fun e => ⟨tg_in _ e, good_of_word (List.mem_filter.mp e).2⟩)
set_option maxRecDepth 20000 in
theorem tw_0 : (Cond.initialized RL) ∈ tg := tg_at 34 (by first | rfl | decide +kernel) (by first | rfl | decide +kernel)
set_option maxRecDepth 20000 in
theorem tw_1 : (Cond.initialized RX3) ∈ tg := tg_at 35 (by first | rfl | decide +kernel) (by first | rfl | decide +kernel)
set_option maxRecDepth 20000 in
theorem tw_2 : (Cond.initialized RX2) ∈ tg := tg_at 36 (by first | rfl | decide +kernel) (by first | rfl | decide +kernel)
set_option maxRecDepth 20000 in
theorem tw_3 : (Cond.initialized RX1) ∈ tg := tg_at 37 (by first | rfl | decide +kernel) (by first | rfl | decide +kernel)
set_option maxRecDepth 20000 in
theorem tw_4 : (Cond.initialized RX4) ∈ tg := tg_at 38 (by first | rfl | decide +kernel) (by first | rfl | decide +kernel)
set_option maxRecDepth 20000 in
theorem tw_5 : (Cond.initialized RX0) ∈ tg := tg_at 39 (by first | rfl | decide +kernel) (by first | rfl | decide +kernel)
set_option maxRecDepth 20000 in
theorem tw_6 : (Cond.initialized RJ6) ∈ tg := tg_at 40 (by first | rfl | decide +kernel) (by first | rfl | decide +kernel)
set_option maxRecDepth 20000 in
theorem tw_7 : (Cond.initialized RJ9) ∈ tg := tg_at 41 (by first | rfl | decide +kernel) (by first | rfl | decide +kernel)
set_option maxRecDepth 20000 in
theorem tw_8 : (Cond.initialized "java/lang/Throwable") ∈ tg := tg_at 42 (by first | rfl | decide +kernel) (by first | rfl | decide +kernel)
set_option maxRecDepth 20000 in
theorem tw_9 : (Cond.initialized "java/lang/Exception") ∈ tg := tg_at 43 (by first | rfl | decide +kernel) (by first | rfl | decide +kernel)
set_option maxRecDepth 20000 in
theorem tw_10 : (Cond.initialized "java/lang/RuntimeException") ∈ tg := tg_at 44 (by first | rfl | decide +kernel) (by first | rfl | decide +kernel)
set_option maxRecDepth 20000 in
theorem tw_11 : (Cond.initialized "java/lang/IndexOutOfBoundsException") ∈ tg := tg_at 45 (by first | rfl | decide +kernel) (by first | rfl | decide +kernel)
set_option maxRecDepth 20000 in
theorem tw_12 : (Cond.initialized RJx00060) ∈ tg := tg_at 46 (by first | rfl | decide +kernel) (by first | rfl | decide +kernel)
set_option maxRecDepth 20000 in
theorem tw_13 : (Cond.classLink RL (8 : Nat) RX3) ∈ tg := tg_at 47 (by first | rfl | decide +kernel) (by first | rfl | decide +kernel)
set_option maxRecDepth 20000 in
theorem tw_14 : (Cond.instantiable RX3 (6 : Nat)) ∈ tg := tg_at 48 (by first | rfl | decide +kernel) (by first | rfl | decide +kernel)
set_option maxRecDepth 20000 in
theorem tw_15 : (Cond.methodLink RL (15 : Nat) yX3_init) ∈ tg := tg_at 49 (by first | rfl | decide +kernel) (by first | rfl | decide +kernel)
set_option maxRecDepth 20000 in
theorem tw_16 : (Cond.instanceMethod yX3_init) ∈ tg := tg_at 50 (by first | rfl | decide +kernel) (by first | rfl | decide +kernel)
set_option maxRecDepth 20000 in
theorem tw_17 : (Cond.code yX3_init cX3_init (1 : Nat) (Option.none : Option FieldType)) ∈ tg := tg_at 51 (by first | rfl | decide +kernel) (by first | rfl | decide +kernel)
set_option maxRecDepth 20000 in
theorem tw_18 : (Cond.methodLink RX3 (3 : Nat) objectInit) ∈ tg := tg_at 52 (by first | rfl | decide +kernel) (by first | rfl | decide +kernel)
set_option maxRecDepth 20000 in
theorem tw_19 : (Cond.instanceMethod objectInit) ∈ tg := tg_at 53 (by first | rfl | decide +kernel) (by first | rfl | decide +kernel)
set_option maxRecDepth 20000 in
theorem tw_20 : (Cond.code objectInit object_method_1_code (1 : Nat) (Option.none : Option FieldType)) ∈ tg := tg_at 54 (by first | rfl | decide +kernel) (by first | rfl | decide +kernel)
set_option maxRecDepth 20000 in
theorem tw_21 : (Cond.classLink RX3 (9 : Nat) RX2) ∈ tg := tg_at 55 (by first | rfl | decide +kernel) (by first | rfl | decide +kernel)
set_option maxRecDepth 20000 in
theorem tw_22 : (Cond.instantiable RX2 (3 : Nat)) ∈ tg := tg_at 56 (by first | rfl | decide +kernel) (by first | rfl | decide +kernel)
set_option maxRecDepth 20000 in
theorem tw_23 : (Cond.methodLink RX3 (11 : Nat) yX2_init) ∈ tg := tg_at 57 (by first | rfl | decide +kernel) (by first | rfl | decide +kernel)
set_option maxRecDepth 20000 in
theorem tw_24 : (Cond.instanceMethod yX2_init) ∈ tg := tg_at 58 (by first | rfl | decide +kernel) (by first | rfl | decide +kernel)
set_option maxRecDepth 20000 in
theorem tw_25 : (Cond.code yX2_init cX2_init (1 : Nat) (Option.none : Option FieldType)) ∈ tg := tg_at 59 (by first | rfl | decide +kernel) (by first | rfl | decide +kernel)
set_option maxRecDepth 20000 in
theorem tw_26 : (Cond.methodLink RX2 (3 : Nat) objectInit) ∈ tg := tg_at 60 (by first | rfl | decide +kernel) (by first | rfl | decide +kernel)
set_option maxRecDepth 20000 in
theorem tw_27 : (Cond.fieldLink RX2 (9 : Nat) "PathSteps$Triples" "links" "[I") ∈ tg := tg_at 61 (by first | rfl | decide +kernel) (by first | rfl | decide +kernel)
set_option maxRecDepth 20000 in
theorem tw_28 : (Cond.fieldLink RX0 (89 : Nat) "PathSteps$Triples" "links" "[I") ∈ tg := tg_at 62 (by first | rfl | decide +kernel) (by first | rfl | decide +kernel)
set_option maxRecDepth 20000 in
theorem tw_29 : (Cond.fieldLink RX2 (15 : Nat) "PathSteps$Triples" "nodes" "I") ∈ tg := tg_at 63 (by first | rfl | decide +kernel) (by first | rfl | decide +kernel)
set_option maxRecDepth 20000 in
theorem tw_30 : (Cond.fieldLink RX3 (122 : Nat) "PathSteps$Triples" "nodes" "I") ∈ tg := tg_at 64 (by first | rfl | decide +kernel) (by first | rfl | decide +kernel)
set_option maxRecDepth 20000 in
theorem tw_31 : (Cond.fieldLink RX2 (19 : Nat) "PathSteps$Triples" "size" "I") ∈ tg := tg_at 65 (by first | rfl | decide +kernel) (by first | rfl | decide +kernel)
set_option maxRecDepth 20000 in
theorem tw_32 : (Cond.fieldLink RX3 (51 : Nat) "PathSteps$Triples" "size" "I") ∈ tg := tg_at 66 (by first | rfl | decide +kernel) (by first | rfl | decide +kernel)
set_option maxRecDepth 20000 in
theorem tw_33 : (Cond.fieldLink RX0 (61 : Nat) "PathSteps$Triples" "size" "I") ∈ tg := tg_at 67 (by first | rfl | decide +kernel) (by first | rfl | decide +kernel)
set_option maxRecDepth 20000 in
theorem tw_34 : (Cond.laysFinal RX2 "PathSteps$Triples" "links" "[I") ∈ tg := tg_at 68 (by first | rfl | decide +kernel) (by first | rfl | decide +kernel)
set_option maxRecDepth 20000 in
theorem tw_36 : (Cond.lays RX2 "PathSteps$Triples" "nodes" "I") ∈ tg := tg_at 70 (by first | rfl | decide +kernel) (by first | rfl | decide +kernel)
set_option maxRecDepth 20000 in
theorem tw_38 : (Cond.lays RX2 "PathSteps$Triples" "size" "I") ∈ tg := tg_at 72 (by first | rfl | decide +kernel) (by first | rfl | decide +kernel)
set_option maxRecDepth 20000 in
theorem tw_40 : (Cond.superclass "PathSteps$Triples" "java/lang/Object") ∈ tg := tg_at 74 (by first | rfl | decide +kernel) (by first | rfl | decide +kernel)
set_option maxRecDepth 20000 in
theorem tw_41 : (Cond.arrayClass FieldType.int) ∈ tg := tg_at 75 (by first | rfl | decide +kernel) (by first | rfl | decide +kernel)
set_option maxRecDepth 20000 in
theorem tw_42 : (Cond.classLink RX3 (16 : Nat) RX0) ∈ tg := tg_at 76 (by first | rfl | decide +kernel) (by first | rfl | decide +kernel)
set_option maxRecDepth 20000 in
theorem tn_43 : (Cond.arrayOver (FieldType.object "PathSteps$Path")) ∈ lw_tbl := List.mem_of_getElem? (i := 77) (by first | rfl | decide +kernel)
set_option maxRecDepth 20000 in
theorem tw_44 : (Cond.classLink RX3 (22 : Nat) RX1) ∈ tg := tg_at 78 (by first | rfl | decide +kernel) (by first | rfl | decide +kernel)
set_option maxRecDepth 20000 in
theorem tw_45 : (Cond.instantiable RX1 (5 : Nat)) ∈ tg := tg_at 79 (by first | rfl | decide +kernel) (by first | rfl | decide +kernel)
set_option maxRecDepth 20000 in
theorem tw_46 : (Cond.methodLink RX3 (24 : Nat) yX1_init) ∈ tg := tg_at 80 (by first | rfl | decide +kernel) (by first | rfl | decide +kernel)
set_option maxRecDepth 20000 in
theorem tw_47 : (Cond.instanceMethod yX1_init) ∈ tg := tg_at 81 (by first | rfl | decide +kernel) (by first | rfl | decide +kernel)
set_option maxRecDepth 20000 in
theorem tw_48 : (Cond.code yX1_init cX1_init (1 : Nat) (Option.none : Option FieldType)) ∈ tg := tg_at 82 (by first | rfl | decide +kernel) (by first | rfl | decide +kernel)
set_option maxRecDepth 20000 in
theorem tw_49 : (Cond.methodLink RX1 (3 : Nat) objectInit) ∈ tg := tg_at 83 (by first | rfl | decide +kernel) (by first | rfl | decide +kernel)
set_option maxRecDepth 20000 in
theorem tw_50 : (Cond.fieldLink RX1 (9 : Nat) "PathSteps$Rows" "firsts" "[I") ∈ tg := tg_at 84 (by first | rfl | decide +kernel) (by first | rfl | decide +kernel)
set_option maxRecDepth 20000 in
theorem tw_51 : (Cond.fieldLink RX3 (102 : Nat) "PathSteps$Rows" "firsts" "[I") ∈ tg := tg_at 85 (by first | rfl | decide +kernel) (by first | rfl | decide +kernel)
set_option maxRecDepth 20000 in
theorem tw_52 : (Cond.fieldLink RX1 (15 : Nat) "PathSteps$Rows" "seconds" "[I") ∈ tg := tg_at 86 (by first | rfl | decide +kernel) (by first | rfl | decide +kernel)
set_option maxRecDepth 20000 in
theorem tw_53 : (Cond.fieldLink RX3 (105 : Nat) "PathSteps$Rows" "seconds" "[I") ∈ tg := tg_at 87 (by first | rfl | decide +kernel) (by first | rfl | decide +kernel)
set_option maxRecDepth 20000 in
theorem tw_54 : (Cond.fieldLink RX1 (18 : Nat) "PathSteps$Rows" "depths" "[I") ∈ tg := tg_at 88 (by first | rfl | decide +kernel) (by first | rfl | decide +kernel)
set_option maxRecDepth 20000 in
theorem tw_55 : (Cond.fieldLink RX3 (115 : Nat) "PathSteps$Rows" "depths" "[I") ∈ tg := tg_at 89 (by first | rfl | decide +kernel) (by first | rfl | decide +kernel)
set_option maxRecDepth 20000 in
theorem tw_56 : (Cond.fieldLink RX1 (21 : Nat) "PathSteps$Rows" "size" "I") ∈ tg := tg_at 90 (by first | rfl | decide +kernel) (by first | rfl | decide +kernel)
set_option maxRecDepth 20000 in
theorem tw_57 : (Cond.fieldLink RX1 (25 : Nat) "PathSteps$Rows" "wereRun" "Z") ∈ tg := tg_at 91 (by first | rfl | decide +kernel) (by first | rfl | decide +kernel)
set_option maxRecDepth 20000 in
theorem tw_58 : (Cond.fieldLink RX3 (96 : Nat) "PathSteps$Rows" "wereRun" "Z") ∈ tg := tg_at 92 (by first | rfl | decide +kernel) (by first | rfl | decide +kernel)
set_option maxRecDepth 20000 in
theorem tw_59 : (Cond.laysFinal RX1 "PathSteps$Rows" "firsts" "[I") ∈ tg := tg_at 93 (by first | rfl | decide +kernel) (by first | rfl | decide +kernel)
set_option maxRecDepth 20000 in
theorem tw_61 : (Cond.laysFinal RX1 "PathSteps$Rows" "seconds" "[I") ∈ tg := tg_at 95 (by first | rfl | decide +kernel) (by first | rfl | decide +kernel)
set_option maxRecDepth 20000 in
theorem tw_63 : (Cond.laysFinal RX1 "PathSteps$Rows" "depths" "[I") ∈ tg := tg_at 97 (by first | rfl | decide +kernel) (by first | rfl | decide +kernel)
set_option maxRecDepth 20000 in
theorem tw_65 : (Cond.lays RX1 "PathSteps$Rows" "size" "I") ∈ tg := tg_at 99 (by first | rfl | decide +kernel) (by first | rfl | decide +kernel)
set_option maxRecDepth 20000 in
theorem tw_67 : (Cond.lays RX1 "PathSteps$Rows" "wereRun" "Z") ∈ tg := tg_at 101 (by first | rfl | decide +kernel) (by first | rfl | decide +kernel)
set_option maxRecDepth 20000 in
theorem tw_69 : (Cond.superclass "PathSteps$Rows" "java/lang/Object") ∈ tg := tg_at 103 (by first | rfl | decide +kernel) (by first | rfl | decide +kernel)
set_option maxRecDepth 20000 in
theorem tw_70 : (Cond.fieldLink RX3 (12 : Nat) "PathSteps" "triples" "LPathSteps$Triples;") ∈ tg := tg_at 104 (by first | rfl | decide +kernel) (by first | rfl | decide +kernel)
set_option maxRecDepth 20000 in
theorem tw_71 : (Cond.fieldLink RX3 (18 : Nat) "PathSteps" "paths" "[LPathSteps$Path;") ∈ tg := tg_at 105 (by first | rfl | decide +kernel) (by first | rfl | decide +kernel)
set_option maxRecDepth 20000 in
theorem tw_72 : (Cond.fieldLink RX3 (25 : Nat) "PathSteps" "rows" "LPathSteps$Rows;") ∈ tg := tg_at 106 (by first | rfl | decide +kernel) (by first | rfl | decide +kernel)
set_option maxRecDepth 20000 in
theorem tw_73 : (Cond.fieldLink RX3 (29 : Nat) "PathSteps" "levels" "[I") ∈ tg := tg_at 107 (by first | rfl | decide +kernel) (by first | rfl | decide +kernel)
set_option maxRecDepth 20000 in
theorem tw_74 : (Cond.fieldLink RX3 (33 : Nat) "PathSteps" "pathCount" "I") ∈ tg := tg_at 108 (by first | rfl | decide +kernel) (by first | rfl | decide +kernel)
set_option maxRecDepth 20000 in
theorem tw_75 : (Cond.fieldLink RX3 (37 : Nat) "PathSteps" "most" "I") ∈ tg := tg_at 109 (by first | rfl | decide +kernel) (by first | rfl | decide +kernel)
set_option maxRecDepth 20000 in
theorem tw_76 : (Cond.laysFinal RX3 "PathSteps" "triples" "LPathSteps$Triples;") ∈ tg := tg_at 110 (by first | rfl | decide +kernel) (by first | rfl | decide +kernel)
set_option maxRecDepth 20000 in
theorem tw_78 : (Cond.laysFinal RX3 "PathSteps" "paths" "[LPathSteps$Path;") ∈ tg := tg_at 112 (by first | rfl | decide +kernel) (by first | rfl | decide +kernel)
set_option maxRecDepth 20000 in
theorem tw_80 : (Cond.laysFinal RX3 "PathSteps" "rows" "LPathSteps$Rows;") ∈ tg := tg_at 114 (by first | rfl | decide +kernel) (by first | rfl | decide +kernel)
set_option maxRecDepth 20000 in
theorem tw_82 : (Cond.laysFinal RX3 "PathSteps" "levels" "[I") ∈ tg := tg_at 116 (by first | rfl | decide +kernel) (by first | rfl | decide +kernel)
set_option maxRecDepth 20000 in
theorem tw_84 : (Cond.lays RX3 "PathSteps" "pathCount" "I") ∈ tg := tg_at 118 (by first | rfl | decide +kernel) (by first | rfl | decide +kernel)
set_option maxRecDepth 20000 in
theorem tw_86 : (Cond.lays RX3 "PathSteps" "most" "I") ∈ tg := tg_at 120 (by first | rfl | decide +kernel) (by first | rfl | decide +kernel)
set_option maxRecDepth 20000 in
theorem tw_88 : (Cond.superclass "PathSteps" "java/lang/Object") ∈ tg := tg_at 122 (by first | rfl | decide +kernel) (by first | rfl | decide +kernel)
set_option maxRecDepth 20000 in
theorem tw_89 : (Cond.methodLink RL (19 : Nat) yX3_triple) ∈ tg := tg_at 123 (by first | rfl | decide +kernel) (by first | rfl | decide +kernel)
set_option maxRecDepth 20000 in
theorem tw_90 : (Cond.instanceMethod yX3_triple) ∈ tg := tg_at 124 (by first | rfl | decide +kernel) (by first | rfl | decide +kernel)
set_option maxRecDepth 20000 in
theorem tw_91 : (Cond.selects RX3 yX3_triple yX3_triple) ∈ tg := tg_at 125 (by first | rfl | decide +kernel) (by first | rfl | decide +kernel)
set_option maxRecDepth 20000 in
theorem tw_92 : (Cond.code yX3_triple cX3_triple (4 : Nat) (Option.some FieldType.int)) ∈ tg := tg_at 126 (by first | rfl | decide +kernel) (by first | rfl | decide +kernel)
set_option maxRecDepth 20000 in
theorem tw_93 : (Cond.methodLink RX3 (40 : Nat) yX3_isNode) ∈ tg := tg_at 127 (by first | rfl | decide +kernel) (by first | rfl | decide +kernel)
set_option maxRecDepth 20000 in
theorem tw_94 : (Cond.static yX3_isNode) ∈ tg := tg_at 128 (by first | rfl | decide +kernel) (by first | rfl | decide +kernel)
set_option maxRecDepth 20000 in
theorem tw_95 : (Cond.code yX3_isNode cX3_isNode (1 : Nat) (Option.some FieldType.boolean)) ∈ tg := tg_at 129 (by first | rfl | decide +kernel) (by first | rfl | decide +kernel)
set_option maxRecDepth 20000 in
theorem tw_96 : (Cond.methodLink RX3 (44 : Nat) yX3_isPredicate) ∈ tg := tg_at 130 (by first | rfl | decide +kernel) (by first | rfl | decide +kernel)
set_option maxRecDepth 20000 in
theorem tw_97 : (Cond.static yX3_isPredicate) ∈ tg := tg_at 131 (by first | rfl | decide +kernel) (by first | rfl | decide +kernel)
set_option maxRecDepth 20000 in
theorem tw_98 : (Cond.code yX3_isPredicate cX3_isPredicate (1 : Nat) (Option.some FieldType.boolean)) ∈ tg := tg_at 132 (by first | rfl | decide +kernel) (by first | rfl | decide +kernel)
set_option maxRecDepth 20000 in
theorem tw_99 : (Cond.methodLink RX3 (47 : Nat) yX2_has) ∈ tg := tg_at 133 (by first | rfl | decide +kernel) (by first | rfl | decide +kernel)
set_option maxRecDepth 20000 in
theorem tw_100 : (Cond.instanceMethod yX2_has) ∈ tg := tg_at 134 (by first | rfl | decide +kernel) (by first | rfl | decide +kernel)
set_option maxRecDepth 20000 in
theorem tw_101 : (Cond.selects RX2 yX2_has yX2_has) ∈ tg := tg_at 135 (by first | rfl | decide +kernel) (by first | rfl | decide +kernel)
set_option maxRecDepth 20000 in
theorem tw_102 : (Cond.code yX2_has cX2_has (4 : Nat) (Option.some FieldType.boolean)) ∈ tg := tg_at 136 (by first | rfl | decide +kernel) (by first | rfl | decide +kernel)
set_option maxRecDepth 20000 in
theorem tn_103 : (Cond.methodLinkNest RX2 (22 : Nat) yX3_holds "PathSteps") ∈ lw_tbl := List.mem_of_getElem? (i := 137) (by first | rfl | decide +kernel)
set_option maxRecDepth 20000 in
theorem tw_104 : (Cond.static yX3_holds) ∈ tg := tg_at 138 (by first | rfl | decide +kernel) (by first | rfl | decide +kernel)
set_option maxRecDepth 20000 in
theorem tw_105 : (Cond.code yX3_holds cX3_holds (2 : Nat) (Option.some FieldType.boolean)) ∈ tg := tg_at 139 (by first | rfl | decide +kernel) (by first | rfl | decide +kernel)
set_option maxRecDepth 20000 in
theorem tw_106 : (Cond.methodLink RX3 (54 : Nat) yX2_add) ∈ tg := tg_at 140 (by first | rfl | decide +kernel) (by first | rfl | decide +kernel)
set_option maxRecDepth 20000 in
theorem tw_107 : (Cond.instanceMethod yX2_add) ∈ tg := tg_at 141 (by first | rfl | decide +kernel) (by first | rfl | decide +kernel)
set_option maxRecDepth 20000 in
theorem tw_108 : (Cond.selects RX2 yX2_add yX2_add) ∈ tg := tg_at 142 (by first | rfl | decide +kernel) (by first | rfl | decide +kernel)
set_option maxRecDepth 20000 in
theorem tw_109 : (Cond.code yX2_add cX2_add (4 : Nat) (Option.none : Option FieldType)) ∈ tg := tg_at 143 (by first | rfl | decide +kernel) (by first | rfl | decide +kernel)
set_option maxRecDepth 20000 in
theorem tw_110 : (Cond.methodLink RL (24 : Nat) yX3_path) ∈ tg := tg_at 144 (by first | rfl | decide +kernel) (by first | rfl | decide +kernel)
set_option maxRecDepth 20000 in
theorem tw_111 : (Cond.instanceMethod yX3_path) ∈ tg := tg_at 145 (by first | rfl | decide +kernel) (by first | rfl | decide +kernel)
set_option maxRecDepth 20000 in
theorem tw_112 : (Cond.selects RX3 yX3_path yX3_path) ∈ tg := tg_at 146 (by first | rfl | decide +kernel) (by first | rfl | decide +kernel)
set_option maxRecDepth 20000 in
theorem tw_113 : (Cond.code yX3_path cX3_path (4 : Nat) (Option.some FieldType.int)) ∈ tg := tg_at 147 (by first | rfl | decide +kernel) (by first | rfl | decide +kernel)
set_option maxRecDepth 20000 in
theorem tw_114 : (Cond.methodLink RX3 (58 : Nat) yX3_keepPath) ∈ tg := tg_at 148 (by first | rfl | decide +kernel) (by first | rfl | decide +kernel)
set_option maxRecDepth 20000 in
theorem tw_116 : (Cond.instanceMethod yX3_keepPath) ∈ tg := tg_at 150 (by first | rfl | decide +kernel) (by first | rfl | decide +kernel)
set_option maxRecDepth 20000 in
theorem tw_117 : (Cond.code yX3_keepPath cX3_keepPath (5 : Nat) (Option.some FieldType.int)) ∈ tg := tg_at 151 (by first | rfl | decide +kernel) (by first | rfl | decide +kernel)
set_option maxRecDepth 20000 in
theorem tw_118 : (Cond.instantiable RX0 (10 : Nat)) ∈ tg := tg_at 152 (by first | rfl | decide +kernel) (by first | rfl | decide +kernel)
set_option maxRecDepth 20000 in
theorem tw_119 : (Cond.methodLink RX3 (119 : Nat) yX0_init) ∈ tg := tg_at 153 (by first | rfl | decide +kernel) (by first | rfl | decide +kernel)
set_option maxRecDepth 20000 in
theorem tw_120 : (Cond.instanceMethod yX0_init) ∈ tg := tg_at 154 (by first | rfl | decide +kernel) (by first | rfl | decide +kernel)
set_option maxRecDepth 20000 in
theorem tw_121 : (Cond.code yX0_init cX0_init (8 : Nat) (Option.none : Option FieldType)) ∈ tg := tg_at 155 (by first | rfl | decide +kernel) (by first | rfl | decide +kernel)
set_option maxRecDepth 20000 in
theorem tw_122 : (Cond.methodLink RX0 (3 : Nat) objectInit) ∈ tg := tg_at 156 (by first | rfl | decide +kernel) (by first | rfl | decide +kernel)
set_option maxRecDepth 20000 in
theorem tw_123 : (Cond.fieldLink RX0 (9 : Nat) "PathSteps$Path" "number" "I") ∈ tg := tg_at 157 (by first | rfl | decide +kernel) (by first | rfl | decide +kernel)
set_option maxRecDepth 20000 in
theorem tw_124 : (Cond.fieldLink RX3 (128 : Nat) "PathSteps$Path" "number" "I") ∈ tg := tg_at 158 (by first | rfl | decide +kernel) (by first | rfl | decide +kernel)
set_option maxRecDepth 20000 in
theorem tw_125 : (Cond.fieldLink RX0 (15 : Nat) "PathSteps$Path" "kind" "I") ∈ tg := tg_at 159 (by first | rfl | decide +kernel) (by first | rfl | decide +kernel)
set_option maxRecDepth 20000 in
theorem tw_126 : (Cond.fieldLink RX0 (18 : Nat) "PathSteps$Path" "links" "I") ∈ tg := tg_at 160 (by first | rfl | decide +kernel) (by first | rfl | decide +kernel)
set_option maxRecDepth 20000 in
theorem tw_127 : (Cond.fieldLink RX0 (21 : Nat) "PathSteps$Path" "inner" "LPathSteps$Path;") ∈ tg := tg_at 161 (by first | rfl | decide +kernel) (by first | rfl | decide +kernel)
set_option maxRecDepth 20000 in
theorem tw_128 : (Cond.fieldLink RX0 (25 : Nat) "PathSteps$Path" "other" "LPathSteps$Path;") ∈ tg := tg_at 162 (by first | rfl | decide +kernel) (by first | rfl | decide +kernel)
set_option maxRecDepth 20000 in
theorem tw_129 : (Cond.fieldLink RX0 (28 : Nat) "PathSteps$Path" "parts" "J") ∈ tg := tg_at 163 (by first | rfl | decide +kernel) (by first | rfl | decide +kernel)
set_option maxRecDepth 20000 in
theorem tw_130 : (Cond.fieldLink RX0 (32 : Nat) "PathSteps$Path" "times" "[I") ∈ tg := tg_at 164 (by first | rfl | decide +kernel) (by first | rfl | decide +kernel)
set_option maxRecDepth 20000 in
theorem tw_131 : (Cond.fieldLink RX0 (36 : Nat) "PathSteps$Path" "joined" "[I") ∈ tg := tg_at 165 (by first | rfl | decide +kernel) (by first | rfl | decide +kernel)
set_option maxRecDepth 20000 in
theorem tw_132 : (Cond.fieldLink RX3 (155 : Nat) "PathSteps$Path" "joined" "[I") ∈ tg := tg_at 166 (by first | rfl | decide +kernel) (by first | rfl | decide +kernel)
set_option maxRecDepth 20000 in
theorem tw_133 : (Cond.fieldLink RX0 (39 : Nat) "PathSteps$Path" "countedSize" "I") ∈ tg := tg_at 167 (by first | rfl | decide +kernel) (by first | rfl | decide +kernel)
set_option maxRecDepth 20000 in
theorem tw_134 : (Cond.fieldLink RX0 (42 : Nat) "PathSteps$Path" "countedGraph" "I") ∈ tg := tg_at 168 (by first | rfl | decide +kernel) (by first | rfl | decide +kernel)
set_option maxRecDepth 20000 in
theorem tw_135 : (Cond.laysFinal RX0 "PathSteps$Path" "number" "I") ∈ tg := tg_at 169 (by first | rfl | decide +kernel) (by first | rfl | decide +kernel)
set_option maxRecDepth 20000 in
theorem tw_137 : (Cond.laysFinal RX0 "PathSteps$Path" "kind" "I") ∈ tg := tg_at 171 (by first | rfl | decide +kernel) (by first | rfl | decide +kernel)
set_option maxRecDepth 20000 in
theorem tw_139 : (Cond.laysFinal RX0 "PathSteps$Path" "links" "I") ∈ tg := tg_at 173 (by first | rfl | decide +kernel) (by first | rfl | decide +kernel)
set_option maxRecDepth 20000 in
theorem tw_141 : (Cond.laysFinal RX0 "PathSteps$Path" "inner" "LPathSteps$Path;") ∈ tg := tg_at 175 (by first | rfl | decide +kernel) (by first | rfl | decide +kernel)
set_option maxRecDepth 20000 in
theorem tw_143 : (Cond.laysFinal RX0 "PathSteps$Path" "other" "LPathSteps$Path;") ∈ tg := tg_at 177 (by first | rfl | decide +kernel) (by first | rfl | decide +kernel)
set_option maxRecDepth 20000 in
theorem tw_145 : (Cond.laysFinal RX0 "PathSteps$Path" "parts" "J") ∈ tg := tg_at 179 (by first | rfl | decide +kernel) (by first | rfl | decide +kernel)
set_option maxRecDepth 20000 in
theorem tw_147 : (Cond.laysFinal RX0 "PathSteps$Path" "times" "[I") ∈ tg := tg_at 181 (by first | rfl | decide +kernel) (by first | rfl | decide +kernel)
set_option maxRecDepth 20000 in
theorem tw_149 : (Cond.laysFinal RX0 "PathSteps$Path" "joined" "[I") ∈ tg := tg_at 183 (by first | rfl | decide +kernel) (by first | rfl | decide +kernel)
set_option maxRecDepth 20000 in
theorem tw_151 : (Cond.lays RX0 "PathSteps$Path" "countedSize" "I") ∈ tg := tg_at 185 (by first | rfl | decide +kernel) (by first | rfl | decide +kernel)
set_option maxRecDepth 20000 in
theorem tw_153 : (Cond.lays RX0 "PathSteps$Path" "countedGraph" "I") ∈ tg := tg_at 187 (by first | rfl | decide +kernel) (by first | rfl | decide +kernel)
set_option maxRecDepth 20000 in
theorem tw_155 : (Cond.superclass "PathSteps$Path" "java/lang/Object") ∈ tg := tg_at 189 (by first | rfl | decide +kernel) (by first | rfl | decide +kernel)
set_option maxRecDepth 20000 in
theorem tw_156 : (Cond.methodLink RX3 (62 : Nat) yX3_known) ∈ tg := tg_at 190 (by first | rfl | decide +kernel) (by first | rfl | decide +kernel)
set_option maxRecDepth 20000 in
theorem tw_158 : (Cond.instanceMethod yX3_known) ∈ tg := tg_at 192 (by first | rfl | decide +kernel) (by first | rfl | decide +kernel)
set_option maxRecDepth 20000 in
theorem tw_159 : (Cond.code yX3_known cX3_known (2 : Nat) (Option.some (FieldType.object "PathSteps$Path"))) ∈ tg := tg_at 193 (by first | rfl | decide +kernel) (by first | rfl | decide +kernel)
set_option maxRecDepth 20000 in
theorem tw_160 : (Cond.methodLink RX3 (66 : Nat) yX3_keepOverTwo) ∈ tg := tg_at 194 (by first | rfl | decide +kernel) (by first | rfl | decide +kernel)
set_option maxRecDepth 20000 in
theorem tw_162 : (Cond.instanceMethod yX3_keepOverTwo) ∈ tg := tg_at 196 (by first | rfl | decide +kernel) (by first | rfl | decide +kernel)
set_option maxRecDepth 20000 in
theorem tw_163 : (Cond.code yX3_keepOverTwo cX3_keepOverTwo (4 : Nat) (Option.some FieldType.int)) ∈ tg := tg_at 197 (by first | rfl | decide +kernel) (by first | rfl | decide +kernel)
set_option maxRecDepth 20000 in
theorem tw_164 : (Cond.methodLink RX3 (70 : Nat) yX3_keepOverOne) ∈ tg := tg_at 198 (by first | rfl | decide +kernel) (by first | rfl | decide +kernel)
set_option maxRecDepth 20000 in
theorem tw_166 : (Cond.instanceMethod yX3_keepOverOne) ∈ tg := tg_at 200 (by first | rfl | decide +kernel) (by first | rfl | decide +kernel)
set_option maxRecDepth 20000 in
theorem tw_167 : (Cond.code yX3_keepOverOne cX3_keepOverOne (3 : Nat) (Option.some FieldType.int)) ∈ tg := tg_at 201 (by first | rfl | decide +kernel) (by first | rfl | decide +kernel)
set_option maxRecDepth 20000 in
theorem tw_168 : (Cond.methodLink RL (28 : Nat) yX3_from) ∈ tg := tg_at 202 (by first | rfl | decide +kernel) (by first | rfl | decide +kernel)
set_option maxRecDepth 20000 in
theorem tw_169 : (Cond.instanceMethod yX3_from) ∈ tg := tg_at 203 (by first | rfl | decide +kernel) (by first | rfl | decide +kernel)
set_option maxRecDepth 20000 in
theorem tw_170 : (Cond.selects RX3 yX3_from yX3_from) ∈ tg := tg_at 204 (by first | rfl | decide +kernel) (by first | rfl | decide +kernel)
set_option maxRecDepth 20000 in
theorem tw_171 : (Cond.code yX3_from cX3_from (2 : Nat) (Option.some FieldType.int)) ∈ tg := tg_at 205 (by first | rfl | decide +kernel) (by first | rfl | decide +kernel)
set_option maxRecDepth 20000 in
theorem tw_172 : (Cond.methodLink RX3 (74 : Nat) yX2_countFrom) ∈ tg := tg_at 206 (by first | rfl | decide +kernel) (by first | rfl | decide +kernel)
set_option maxRecDepth 20000 in
theorem tw_173 : (Cond.instanceMethod yX2_countFrom) ∈ tg := tg_at 207 (by first | rfl | decide +kernel) (by first | rfl | decide +kernel)
set_option maxRecDepth 20000 in
theorem tw_174 : (Cond.selects RX2 yX2_countFrom yX2_countFrom) ∈ tg := tg_at 208 (by first | rfl | decide +kernel) (by first | rfl | decide +kernel)
set_option maxRecDepth 20000 in
theorem tw_175 : (Cond.code yX2_countFrom cX2_countFrom (4 : Nat) (Option.some FieldType.int)) ∈ tg := tg_at 209 (by first | rfl | decide +kernel) (by first | rfl | decide +kernel)
set_option maxRecDepth 20000 in
theorem tw_176 : (Cond.methodLink RX2 (26 : Nat) yJ6_bitCount_0f7a4) ∈ tg := tg_at 210 (by first | rfl | decide +kernel) (by first | rfl | decide +kernel)
set_option maxRecDepth 20000 in
theorem tw_177 : (Cond.static yJ6_bitCount_0f7a4) ∈ tg := tg_at 211 (by first | rfl | decide +kernel) (by first | rfl | decide +kernel)
set_option maxRecDepth 20000 in
theorem tw_178 : (Cond.code yJ6_bitCount_0f7a4 cJ6_bitCount_0f7a4 (1 : Nat) (Option.some FieldType.int)) ∈ tg := tg_at 212 (by first | rfl | decide +kernel) (by first | rfl | decide +kernel)
set_option maxRecDepth 20000 in
theorem tw_179 : (Cond.constant RJ6 (265 : Nat) (1431655765 : Int32)) ∈ tg := tg_at 213 (by first | rfl | decide +kernel) (by first | rfl | decide +kernel)
set_option maxRecDepth 20000 in
theorem tw_180 : (Cond.constant RJ6 (266 : Nat) (858993459 : Int32)) ∈ tg := tg_at 214 (by first | rfl | decide +kernel) (by first | rfl | decide +kernel)
set_option maxRecDepth 20000 in
theorem tw_181 : (Cond.constant RJ6 (267 : Nat) (252645135 : Int32)) ∈ tg := tg_at 215 (by first | rfl | decide +kernel) (by first | rfl | decide +kernel)
set_option maxRecDepth 20000 in
theorem tw_182 : (Cond.methodLink RL (32 : Nat) yX3_run) ∈ tg := tg_at 216 (by first | rfl | decide +kernel) (by first | rfl | decide +kernel)
set_option maxRecDepth 20000 in
theorem tw_183 : (Cond.instanceMethod yX3_run) ∈ tg := tg_at 217 (by first | rfl | decide +kernel) (by first | rfl | decide +kernel)
set_option maxRecDepth 20000 in
theorem tw_184 : (Cond.selects RX3 yX3_run yX3_run) ∈ tg := tg_at 218 (by first | rfl | decide +kernel) (by first | rfl | decide +kernel)
set_option maxRecDepth 20000 in
theorem tw_185 : (Cond.code yX3_run cX3_run (6 : Nat) (Option.some FieldType.int)) ∈ tg := tg_at 219 (by first | rfl | decide +kernel) (by first | rfl | decide +kernel)
set_option maxRecDepth 20000 in
theorem tw_186 : (Cond.methodLink RX3 (78 : Nat) yX3_isEnd) ∈ tg := tg_at 220 (by first | rfl | decide +kernel) (by first | rfl | decide +kernel)
set_option maxRecDepth 20000 in
theorem tw_187 : (Cond.static yX3_isEnd) ∈ tg := tg_at 221 (by first | rfl | decide +kernel) (by first | rfl | decide +kernel)
set_option maxRecDepth 20000 in
theorem tw_188 : (Cond.code yX3_isEnd cX3_isEnd (1 : Nat) (Option.some FieldType.boolean)) ∈ tg := tg_at 222 (by first | rfl | decide +kernel) (by first | rfl | decide +kernel)
set_option maxRecDepth 20000 in
theorem tw_189 : (Cond.methodLink RX3 (81 : Nat) yX3_countParts) ∈ tg := tg_at 223 (by first | rfl | decide +kernel) (by first | rfl | decide +kernel)
set_option maxRecDepth 20000 in
theorem tw_191 : (Cond.instanceMethod yX3_countParts) ∈ tg := tg_at 225 (by first | rfl | decide +kernel) (by first | rfl | decide +kernel)
set_option maxRecDepth 20000 in
theorem tw_192 : (Cond.code yX3_countParts cX3_countParts (7 : Nat) (Option.none : Option FieldType)) ∈ tg := tg_at 226 (by first | rfl | decide +kernel) (by first | rfl | decide +kernel)
set_option maxRecDepth 20000 in
theorem tw_193 : (Cond.methodLink RX3 (125 : Nat) yX3_bitOf) ∈ tg := tg_at 227 (by first | rfl | decide +kernel) (by first | rfl | decide +kernel)
set_option maxRecDepth 20000 in
theorem tw_194 : (Cond.static yX3_bitOf) ∈ tg := tg_at 228 (by first | rfl | decide +kernel) (by first | rfl | decide +kernel)
set_option maxRecDepth 20000 in
theorem tw_195 : (Cond.code yX3_bitOf cX3_bitOf (1 : Nat) (Option.some FieldType.int)) ∈ tg := tg_at 229 (by first | rfl | decide +kernel) (by first | rfl | decide +kernel)
set_option maxRecDepth 20000 in
theorem tw_196 : (Cond.methodLink RX3 (131 : Nat) yX0_isMadeOf) ∈ tg := tg_at 230 (by first | rfl | decide +kernel) (by first | rfl | decide +kernel)
set_option maxRecDepth 20000 in
theorem tw_197 : (Cond.instanceMethod yX0_isMadeOf) ∈ tg := tg_at 231 (by first | rfl | decide +kernel) (by first | rfl | decide +kernel)
set_option maxRecDepth 20000 in
theorem tw_198 : (Cond.selects RX0 yX0_isMadeOf yX0_isMadeOf) ∈ tg := tg_at 232 (by first | rfl | decide +kernel) (by first | rfl | decide +kernel)
set_option maxRecDepth 20000 in
theorem tw_199 : (Cond.code yX0_isMadeOf cX0_isMadeOf (2 : Nat) (Option.some FieldType.boolean)) ∈ tg := tg_at 233 (by first | rfl | decide +kernel) (by first | rfl | decide +kernel)
set_option maxRecDepth 20000 in
theorem tw_200 : (Cond.methodLink RX3 (134 : Nat) yX0_countIn) ∈ tg := tg_at 234 (by first | rfl | decide +kernel) (by first | rfl | decide +kernel)
set_option maxRecDepth 20000 in
theorem tw_201 : (Cond.instanceMethod yX0_countIn) ∈ tg := tg_at 235 (by first | rfl | decide +kernel) (by first | rfl | decide +kernel)
set_option maxRecDepth 20000 in
theorem tw_202 : (Cond.selects RX0 yX0_countIn yX0_countIn) ∈ tg := tg_at 236 (by first | rfl | decide +kernel) (by first | rfl | decide +kernel)
set_option maxRecDepth 20000 in
theorem tw_203 : (Cond.code yX0_countIn cX0_countIn (3 : Nat) (Option.none : Option FieldType)) ∈ tg := tg_at 237 (by first | rfl | decide +kernel) (by first | rfl | decide +kernel)
set_option maxRecDepth 20000 in
theorem tw_204 : (Cond.methodLink RX0 (66 : Nat) yX0_forget) ∈ tg := tg_at 238 (by first | rfl | decide +kernel) (by first | rfl | decide +kernel)
set_option maxRecDepth 20000 in
theorem tw_206 : (Cond.instanceMethod yX0_forget) ∈ tg := tg_at 240 (by first | rfl | decide +kernel) (by first | rfl | decide +kernel)
set_option maxRecDepth 20000 in
theorem tw_207 : (Cond.code yX0_forget cX0_forget (2 : Nat) (Option.none : Option FieldType)) ∈ tg := tg_at 241 (by first | rfl | decide +kernel) (by first | rfl | decide +kernel)
set_option maxRecDepth 20000 in
theorem tw_208 : (Cond.methodLink RX0 (69 : Nat) yX0_countLinks) ∈ tg := tg_at 242 (by first | rfl | decide +kernel) (by first | rfl | decide +kernel)
set_option maxRecDepth 20000 in
theorem tw_210 : (Cond.instanceMethod yX0_countLinks) ∈ tg := tg_at 244 (by first | rfl | decide +kernel) (by first | rfl | decide +kernel)
set_option maxRecDepth 20000 in
theorem tw_211 : (Cond.code yX0_countLinks cX0_countLinks (4 : Nat) (Option.none : Option FieldType)) ∈ tg := tg_at 245 (by first | rfl | decide +kernel) (by first | rfl | decide +kernel)
set_option maxRecDepth 20000 in
theorem tw_212 : (Cond.methodLink RX0 (45 : Nat) yJ6_bitCount_0f7a4) ∈ tg := tg_at 246 (by first | rfl | decide +kernel) (by first | rfl | decide +kernel)
set_option maxRecDepth 20000 in
theorem tw_213 : (Cond.methodLink RX0 (91 : Nat) yX0_addTimes) ∈ tg := tg_at 247 (by first | rfl | decide +kernel) (by first | rfl | decide +kernel)
set_option maxRecDepth 20000 in
theorem tw_215 : (Cond.instanceMethod yX0_addTimes) ∈ tg := tg_at 249 (by first | rfl | decide +kernel) (by first | rfl | decide +kernel)
set_option maxRecDepth 20000 in
theorem tw_216 : (Cond.code yX0_addTimes cX0_addTimes (6 : Nat) (Option.none : Option FieldType)) ∈ tg := tg_at 250 (by first | rfl | decide +kernel) (by first | rfl | decide +kernel)
set_option maxRecDepth 20000 in
theorem tw_217 : (Cond.constantLong RX0 (81 : Nat) (1000000 : Int64)) ∈ tg := tg_at 251 (by first | rfl | decide +kernel) (by first | rfl | decide +kernel)
set_option maxRecDepth 20000 in
theorem tw_218 : (Cond.methodLink RX0 (83 : Nat) yJ9_min_f86c9) ∈ tg := tg_at 252 (by first | rfl | decide +kernel) (by first | rfl | decide +kernel)
set_option maxRecDepth 20000 in
theorem tw_219 : (Cond.static yJ9_min_f86c9) ∈ tg := tg_at 253 (by first | rfl | decide +kernel) (by first | rfl | decide +kernel)
set_option maxRecDepth 20000 in
theorem tw_220 : (Cond.code yJ9_min_f86c9 cJ9_min_f86c9 (4 : Nat) (Option.some FieldType.long)) ∈ tg := tg_at 254 (by first | rfl | decide +kernel) (by first | rfl | decide +kernel)
set_option maxRecDepth 20000 in
theorem tw_221 : (Cond.methodLink RX0 (73 : Nat) yX0_countOverOne) ∈ tg := tg_at 255 (by first | rfl | decide +kernel) (by first | rfl | decide +kernel)
set_option maxRecDepth 20000 in
theorem tw_223 : (Cond.instanceMethod yX0_countOverOne) ∈ tg := tg_at 257 (by first | rfl | decide +kernel) (by first | rfl | decide +kernel)
set_option maxRecDepth 20000 in
theorem tw_224 : (Cond.code yX0_countOverOne cX0_countOverOne (3 : Nat) (Option.none : Option FieldType)) ∈ tg := tg_at 258 (by first | rfl | decide +kernel) (by first | rfl | decide +kernel)
set_option maxRecDepth 20000 in
theorem tw_225 : (Cond.methodLink RX0 (95 : Nat) yX0_countTurned) ∈ tg := tg_at 259 (by first | rfl | decide +kernel) (by first | rfl | decide +kernel)
set_option maxRecDepth 20000 in
theorem tw_227 : (Cond.instanceMethod yX0_countTurned) ∈ tg := tg_at 261 (by first | rfl | decide +kernel) (by first | rfl | decide +kernel)
set_option maxRecDepth 20000 in
theorem tw_228 : (Cond.code yX0_countTurned cX0_countTurned (4 : Nat) (Option.none : Option FieldType)) ∈ tg := tg_at 262 (by first | rfl | decide +kernel) (by first | rfl | decide +kernel)
set_option maxRecDepth 20000 in
theorem tw_229 : (Cond.methodLink RX0 (57 : Nat) yX0_timesOf) ∈ tg := tg_at 263 (by first | rfl | decide +kernel) (by first | rfl | decide +kernel)
set_option maxRecDepth 20000 in
theorem tw_230 : (Cond.instanceMethod yX0_timesOf) ∈ tg := tg_at 264 (by first | rfl | decide +kernel) (by first | rfl | decide +kernel)
set_option maxRecDepth 20000 in
theorem tw_231 : (Cond.selects RX0 yX0_timesOf yX0_timesOf) ∈ tg := tg_at 265 (by first | rfl | decide +kernel) (by first | rfl | decide +kernel)
set_option maxRecDepth 20000 in
theorem tw_232 : (Cond.code yX0_timesOf cX0_timesOf (3 : Nat) (Option.some FieldType.int)) ∈ tg := tg_at 266 (by first | rfl | decide +kernel) (by first | rfl | decide +kernel)
set_option maxRecDepth 20000 in
theorem tw_233 : (Cond.methodLink RX0 (99 : Nat) yX0_joinByStep) ∈ tg := tg_at 267 (by first | rfl | decide +kernel) (by first | rfl | decide +kernel)
set_option maxRecDepth 20000 in
theorem tw_235 : (Cond.instanceMethod yX0_joinByStep) ∈ tg := tg_at 269 (by first | rfl | decide +kernel) (by first | rfl | decide +kernel)
set_option maxRecDepth 20000 in
theorem tw_236 : (Cond.code yX0_joinByStep cX0_joinByStep (4 : Nat) (Option.none : Option FieldType)) ∈ tg := tg_at 270 (by first | rfl | decide +kernel) (by first | rfl | decide +kernel)
set_option maxRecDepth 20000 in
theorem tw_237 : (Cond.methodLink RX0 (115 : Nat) yX0_walks) ∈ tg := tg_at 271 (by first | rfl | decide +kernel) (by first | rfl | decide +kernel)
set_option maxRecDepth 20000 in
theorem tw_238 : (Cond.instanceMethod yX0_walks) ∈ tg := tg_at 272 (by first | rfl | decide +kernel) (by first | rfl | decide +kernel)
set_option maxRecDepth 20000 in
theorem tw_239 : (Cond.selects RX0 yX0_walks yX0_walks) ∈ tg := tg_at 273 (by first | rfl | decide +kernel) (by first | rfl | decide +kernel)
set_option maxRecDepth 20000 in
theorem tw_240 : (Cond.code yX0_walks cX0_walks (1 : Nat) (Option.some FieldType.boolean)) ∈ tg := tg_at 274 (by first | rfl | decide +kernel) (by first | rfl | decide +kernel)
set_option maxRecDepth 20000 in
theorem tw_241 : (Cond.methodLink RX0 (119 : Nat) yX0_joinOnwards) ∈ tg := tg_at 275 (by first | rfl | decide +kernel) (by first | rfl | decide +kernel)
set_option maxRecDepth 20000 in
theorem tw_243 : (Cond.instanceMethod yX0_joinOnwards) ∈ tg := tg_at 277 (by first | rfl | decide +kernel) (by first | rfl | decide +kernel)
set_option maxRecDepth 20000 in
theorem tw_244 : (Cond.code yX0_joinOnwards cX0_joinOnwards (3 : Nat) (Option.none : Option FieldType)) ∈ tg := tg_at 278 (by first | rfl | decide +kernel) (by first | rfl | decide +kernel)
set_option maxRecDepth 20000 in
theorem tn_245 : (Cond.methodLinkNest RX0 (126 : Nat) yX3_holds "PathSteps") ∈ lw_tbl := List.mem_of_getElem? (i := 279) (by first | rfl | decide +kernel)
set_option maxRecDepth 20000 in
theorem tw_246 : (Cond.methodLink RX0 (122 : Nat) yX0_joinSelves) ∈ tg := tg_at 280 (by first | rfl | decide +kernel) (by first | rfl | decide +kernel)
set_option maxRecDepth 20000 in
theorem tw_248 : (Cond.instanceMethod yX0_joinSelves) ∈ tg := tg_at 282 (by first | rfl | decide +kernel) (by first | rfl | decide +kernel)
set_option maxRecDepth 20000 in
theorem tw_249 : (Cond.code yX0_joinSelves cX0_joinSelves (3 : Nat) (Option.none : Option FieldType)) ∈ tg := tg_at 283 (by first | rfl | decide +kernel) (by first | rfl | decide +kernel)
set_option maxRecDepth 20000 in
theorem tw_250 : (Cond.methodLink RX0 (102 : Nat) yX0_countJoinedOnce) ∈ tg := tg_at 284 (by first | rfl | decide +kernel) (by first | rfl | decide +kernel)
set_option maxRecDepth 20000 in
theorem tw_252 : (Cond.instanceMethod yX0_countJoinedOnce) ∈ tg := tg_at 286 (by first | rfl | decide +kernel) (by first | rfl | decide +kernel)
set_option maxRecDepth 20000 in
theorem tw_253 : (Cond.code yX0_countJoinedOnce cX0_countJoinedOnce (3 : Nat) (Option.none : Option FieldType)) ∈ tg := tg_at 287 (by first | rfl | decide +kernel) (by first | rfl | decide +kernel)
set_option maxRecDepth 20000 in
theorem tw_254 : (Cond.methodLink RX0 (77 : Nat) yX0_countOverTwo) ∈ tg := tg_at 288 (by first | rfl | decide +kernel) (by first | rfl | decide +kernel)
set_option maxRecDepth 20000 in
theorem tw_256 : (Cond.instanceMethod yX0_countOverTwo) ∈ tg := tg_at 290 (by first | rfl | decide +kernel) (by first | rfl | decide +kernel)
set_option maxRecDepth 20000 in
theorem tw_257 : (Cond.code yX0_countOverTwo cX0_countOverTwo (3 : Nat) (Option.none : Option FieldType)) ∈ tg := tg_at 291 (by first | rfl | decide +kernel) (by first | rfl | decide +kernel)
set_option maxRecDepth 20000 in
theorem tw_258 : (Cond.methodLink RX0 (105 : Nat) yX0_countAll) ∈ tg := tg_at 292 (by first | rfl | decide +kernel) (by first | rfl | decide +kernel)
set_option maxRecDepth 20000 in
theorem tw_260 : (Cond.instanceMethod yX0_countAll) ∈ tg := tg_at 294 (by first | rfl | decide +kernel) (by first | rfl | decide +kernel)
set_option maxRecDepth 20000 in
theorem tw_261 : (Cond.code yX0_countAll cX0_countAll (4 : Nat) (Option.none : Option FieldType)) ∈ tg := tg_at 295 (by first | rfl | decide +kernel) (by first | rfl | decide +kernel)
set_option maxRecDepth 20000 in
theorem tw_262 : (Cond.methodLink RX0 (108 : Nat) yX0_countBehind) ∈ tg := tg_at 296 (by first | rfl | decide +kernel) (by first | rfl | decide +kernel)
set_option maxRecDepth 20000 in
theorem tw_264 : (Cond.instanceMethod yX0_countBehind) ∈ tg := tg_at 298 (by first | rfl | decide +kernel) (by first | rfl | decide +kernel)
set_option maxRecDepth 20000 in
theorem tw_265 : (Cond.code yX0_countBehind cX0_countBehind (7 : Nat) (Option.none : Option FieldType)) ∈ tg := tg_at 299 (by first | rfl | decide +kernel) (by first | rfl | decide +kernel)
set_option maxRecDepth 20000 in
theorem tw_266 : (Cond.methodLink RX0 (111 : Nat) yX0_addBehind) ∈ tg := tg_at 300 (by first | rfl | decide +kernel) (by first | rfl | decide +kernel)
set_option maxRecDepth 20000 in
theorem tw_268 : (Cond.instanceMethod yX0_addBehind) ∈ tg := tg_at 302 (by first | rfl | decide +kernel) (by first | rfl | decide +kernel)
set_option maxRecDepth 20000 in
theorem tw_269 : (Cond.code yX0_addBehind cX0_addBehind (7 : Nat) (Option.none : Option FieldType)) ∈ tg := tg_at 303 (by first | rfl | decide +kernel) (by first | rfl | decide +kernel)
set_option maxRecDepth 20000 in
theorem tw_270 : (Cond.methodLink RX3 (85 : Nat) yX3_goesBeyond) ∈ tg := tg_at 304 (by first | rfl | decide +kernel) (by first | rfl | decide +kernel)
set_option maxRecDepth 20000 in
theorem tw_272 : (Cond.instanceMethod yX3_goesBeyond) ∈ tg := tg_at 306 (by first | rfl | decide +kernel) (by first | rfl | decide +kernel)
set_option maxRecDepth 20000 in
theorem tw_273 : (Cond.code yX3_goesBeyond cX3_goesBeyond (4 : Nat) (Option.some FieldType.boolean)) ∈ tg := tg_at 307 (by first | rfl | decide +kernel) (by first | rfl | decide +kernel)
set_option maxRecDepth 20000 in
theorem tw_274 : (Cond.methodLink RX3 (138 : Nat) yX0_walks) ∈ tg := tg_at 308 (by first | rfl | decide +kernel) (by first | rfl | decide +kernel)
set_option maxRecDepth 20000 in
theorem tw_275 : (Cond.methodLink RX3 (142 : Nat) yX0_pairs) ∈ tg := tg_at 309 (by first | rfl | decide +kernel) (by first | rfl | decide +kernel)
set_option maxRecDepth 20000 in
theorem tw_276 : (Cond.instanceMethod yX0_pairs) ∈ tg := tg_at 310 (by first | rfl | decide +kernel) (by first | rfl | decide +kernel)
set_option maxRecDepth 20000 in
theorem tw_277 : (Cond.selects RX0 yX0_pairs yX0_pairs) ∈ tg := tg_at 311 (by first | rfl | decide +kernel) (by first | rfl | decide +kernel)
set_option maxRecDepth 20000 in
theorem tw_278 : (Cond.code yX0_pairs cX0_pairs (3 : Nat) (Option.some FieldType.int)) ∈ tg := tg_at 312 (by first | rfl | decide +kernel) (by first | rfl | decide +kernel)
set_option maxRecDepth 20000 in
theorem tw_279 : (Cond.methodLink RX3 (89 : Nat) yX0_countBetween) ∈ tg := tg_at 313 (by first | rfl | decide +kernel) (by first | rfl | decide +kernel)
set_option maxRecDepth 20000 in
theorem tw_280 : (Cond.instanceMethod yX0_countBetween) ∈ tg := tg_at 314 (by first | rfl | decide +kernel) (by first | rfl | decide +kernel)
set_option maxRecDepth 20000 in
theorem tw_281 : (Cond.selects RX0 yX0_countBetween yX0_countBetween) ∈ tg := tg_at 315 (by first | rfl | decide +kernel) (by first | rfl | decide +kernel)
set_option maxRecDepth 20000 in
theorem tw_282 : (Cond.code yX0_countBetween cX0_countBetween (6 : Nat) (Option.some FieldType.int)) ∈ tg := tg_at 316 (by first | rfl | decide +kernel) (by first | rfl | decide +kernel)
set_option maxRecDepth 20000 in
theorem tn_283 : (Cond.methodLinkNest RX0 (51 : Nat) yX3_lowest "PathSteps") ∈ lw_tbl := List.mem_of_getElem? (i := 317) (by first | rfl | decide +kernel)
set_option maxRecDepth 20000 in
theorem tw_284 : (Cond.static yX3_lowest) ∈ tg := tg_at 318 (by first | rfl | decide +kernel) (by first | rfl | decide +kernel)
set_option maxRecDepth 20000 in
theorem tw_285 : (Cond.code yX3_lowest cX3_lowest (1 : Nat) (Option.some FieldType.int)) ∈ tg := tg_at 319 (by first | rfl | decide +kernel) (by first | rfl | decide +kernel)
set_option maxRecDepth 20000 in
theorem tn_286 : (Cond.methodLinkNest RX0 (54 : Nat) yX3_highest "PathSteps") ∈ lw_tbl := List.mem_of_getElem? (i := 320) (by first | rfl | decide +kernel)
set_option maxRecDepth 20000 in
theorem tw_287 : (Cond.static yX3_highest) ∈ tg := tg_at 321 (by first | rfl | decide +kernel) (by first | rfl | decide +kernel)
set_option maxRecDepth 20000 in
theorem tw_288 : (Cond.code yX3_highest cX3_highest (1 : Nat) (Option.some FieldType.int)) ∈ tg := tg_at 322 (by first | rfl | decide +kernel) (by first | rfl | decide +kernel)
set_option maxRecDepth 20000 in
theorem tw_289 : (Cond.methodLink RX3 (93 : Nat) yX3_keepRows) ∈ tg := tg_at 323 (by first | rfl | decide +kernel) (by first | rfl | decide +kernel)
set_option maxRecDepth 20000 in
theorem tw_291 : (Cond.instanceMethod yX3_keepRows) ∈ tg := tg_at 325 (by first | rfl | decide +kernel) (by first | rfl | decide +kernel)
set_option maxRecDepth 20000 in
theorem tw_292 : (Cond.code yX3_keepRows cX3_keepRows (6 : Nat) (Option.none : Option FieldType)) ∈ tg := tg_at 326 (by first | rfl | decide +kernel) (by first | rfl | decide +kernel)
set_option maxRecDepth 20000 in
theorem tw_293 : (Cond.methodLink RX3 (146 : Nat) yX1_begin) ∈ tg := tg_at 327 (by first | rfl | decide +kernel) (by first | rfl | decide +kernel)
set_option maxRecDepth 20000 in
theorem tw_294 : (Cond.instanceMethod yX1_begin) ∈ tg := tg_at 328 (by first | rfl | decide +kernel) (by first | rfl | decide +kernel)
set_option maxRecDepth 20000 in
theorem tw_295 : (Cond.selects RX1 yX1_begin yX1_begin) ∈ tg := tg_at 329 (by first | rfl | decide +kernel) (by first | rfl | decide +kernel)
set_option maxRecDepth 20000 in
theorem tw_296 : (Cond.code yX1_begin cX1_begin (1 : Nat) (Option.none : Option FieldType)) ∈ tg := tg_at 330 (by first | rfl | decide +kernel) (by first | rfl | decide +kernel)
set_option maxRecDepth 20000 in
theorem tw_297 : (Cond.methodLink RX3 (149 : Nat) yX3_lowest) ∈ tg := tg_at 331 (by first | rfl | decide +kernel) (by first | rfl | decide +kernel)
set_option maxRecDepth 20000 in
theorem tw_298 : (Cond.methodLink RX3 (152 : Nat) yX3_highest) ∈ tg := tg_at 332 (by first | rfl | decide +kernel) (by first | rfl | decide +kernel)
set_option maxRecDepth 20000 in
theorem tw_299 : (Cond.methodLink RX3 (158 : Nat) yX0_measure) ∈ tg := tg_at 333 (by first | rfl | decide +kernel) (by first | rfl | decide +kernel)
set_option maxRecDepth 20000 in
theorem tw_300 : (Cond.instanceMethod yX0_measure) ∈ tg := tg_at 334 (by first | rfl | decide +kernel) (by first | rfl | decide +kernel)
set_option maxRecDepth 20000 in
theorem tw_301 : (Cond.selects RX0 yX0_measure yX0_measure) ∈ tg := tg_at 335 (by first | rfl | decide +kernel) (by first | rfl | decide +kernel)
set_option maxRecDepth 20000 in
theorem tw_302 : (Cond.code yX0_measure cX0_measure (4 : Nat) (Option.none : Option FieldType)) ∈ tg := tg_at 336 (by first | rfl | decide +kernel) (by first | rfl | decide +kernel)
set_option maxRecDepth 20000 in
theorem tw_303 : (Cond.methodLink RX0 (130 : Nat) yX0_measureWalk) ∈ tg := tg_at 337 (by first | rfl | decide +kernel) (by first | rfl | decide +kernel)
set_option maxRecDepth 20000 in
theorem tw_304 : (Cond.static yX0_measureWalk) ∈ tg := tg_at 338 (by first | rfl | decide +kernel) (by first | rfl | decide +kernel)
set_option maxRecDepth 20000 in
theorem tw_305 : (Cond.code yX0_measureWalk cX0_measureWalk (8 : Nat) (Option.none : Option FieldType)) ∈ tg := tg_at 339 (by first | rfl | decide +kernel) (by first | rfl | decide +kernel)
set_option maxRecDepth 20000 in
theorem tw_306 : (Cond.methodLink RX3 (162 : Nat) yX0_timesOf) ∈ tg := tg_at 340 (by first | rfl | decide +kernel) (by first | rfl | decide +kernel)
set_option maxRecDepth 20000 in
theorem tw_307 : (Cond.methodLink RX3 (165 : Nat) yX1_add) ∈ tg := tg_at 341 (by first | rfl | decide +kernel) (by first | rfl | decide +kernel)
set_option maxRecDepth 20000 in
theorem tw_308 : (Cond.instanceMethod yX1_add) ∈ tg := tg_at 342 (by first | rfl | decide +kernel) (by first | rfl | decide +kernel)
set_option maxRecDepth 20000 in
theorem tw_309 : (Cond.selects RX1 yX1_add yX1_add) ∈ tg := tg_at 343 (by first | rfl | decide +kernel) (by first | rfl | decide +kernel)
set_option maxRecDepth 20000 in
theorem tw_310 : (Cond.code yX1_add cX1_add (6 : Nat) (Option.none : Option FieldType)) ∈ tg := tg_at 344 (by first | rfl | decide +kernel) (by first | rfl | decide +kernel)
set_option maxRecDepth 20000 in
theorem tw_311 : (Cond.methodLink RL (36 : Nat) yX3_at) ∈ tg := tg_at 345 (by first | rfl | decide +kernel) (by first | rfl | decide +kernel)
set_option maxRecDepth 20000 in
theorem tw_312 : (Cond.instanceMethod yX3_at) ∈ tg := tg_at 346 (by first | rfl | decide +kernel) (by first | rfl | decide +kernel)
set_option maxRecDepth 20000 in
theorem tw_313 : (Cond.selects RX3 yX3_at yX3_at) ∈ tg := tg_at 347 (by first | rfl | decide +kernel) (by first | rfl | decide +kernel)
set_option maxRecDepth 20000 in
theorem tw_314 : (Cond.code yX3_at cX3_at (3 : Nat) (Option.some FieldType.int)) ∈ tg := tg_at 348 (by first | rfl | decide +kernel) (by first | rfl | decide +kernel)
set_option maxRecDepth 20000 in
theorem tw_315 : (Cond.methodLink RX3 (100 : Nat) yX1_has) ∈ tg := tg_at 349 (by first | rfl | decide +kernel) (by first | rfl | decide +kernel)
set_option maxRecDepth 20000 in
theorem tw_316 : (Cond.instanceMethod yX1_has) ∈ tg := tg_at 350 (by first | rfl | decide +kernel) (by first | rfl | decide +kernel)
set_option maxRecDepth 20000 in
theorem tw_317 : (Cond.selects RX1 yX1_has yX1_has) ∈ tg := tg_at 351 (by first | rfl | decide +kernel) (by first | rfl | decide +kernel)
set_option maxRecDepth 20000 in
theorem tw_318 : (Cond.code yX1_has cX1_has (2 : Nat) (Option.some FieldType.boolean)) ∈ tg := tg_at 352 (by first | rfl | decide +kernel) (by first | rfl | decide +kernel)
set_option maxRecDepth 20000 in
theorem tw_319 : (Cond.methodLink RL (41 : Nat) yX3_plain) ∈ tg := tg_at 353 (by first | rfl | decide +kernel) (by first | rfl | decide +kernel)
set_option maxRecDepth 20000 in
theorem tw_320 : (Cond.instanceMethod yX3_plain) ∈ tg := tg_at 354 (by first | rfl | decide +kernel) (by first | rfl | decide +kernel)
set_option maxRecDepth 20000 in
theorem tw_321 : (Cond.selects RX3 yX3_plain yX3_plain) ∈ tg := tg_at 355 (by first | rfl | decide +kernel) (by first | rfl | decide +kernel)
set_option maxRecDepth 20000 in
theorem tw_322 : (Cond.code yX3_plain cX3_plain (5 : Nat) (Option.some FieldType.int)) ∈ tg := tg_at 356 (by first | rfl | decide +kernel) (by first | rfl | decide +kernel)
set_option maxRecDepth 20000 in
theorem tw_323 : (Cond.methodLink RL (45 : Nat) yX3_steps) ∈ tg := tg_at 357 (by first | rfl | decide +kernel) (by first | rfl | decide +kernel)
set_option maxRecDepth 20000 in
theorem tw_324 : (Cond.instanceMethod yX3_steps) ∈ tg := tg_at 358 (by first | rfl | decide +kernel) (by first | rfl | decide +kernel)
set_option maxRecDepth 20000 in
theorem tw_325 : (Cond.selects RX3 yX3_steps yX3_steps) ∈ tg := tg_at 359 (by first | rfl | decide +kernel) (by first | rfl | decide +kernel)
set_option maxRecDepth 20000 in
theorem tw_326 : (Cond.code yX3_steps cX3_steps (2 : Nat) (Option.some FieldType.int)) ∈ tg := tg_at 360 (by first | rfl | decide +kernel) (by first | rfl | decide +kernel)
set_option maxRecDepth 20000 in
theorem tw_327 : (Cond.methodLink RL (49 : Nat) yX3_cycle) ∈ tg := tg_at 361 (by first | rfl | decide +kernel) (by first | rfl | decide +kernel)
set_option maxRecDepth 20000 in
theorem tw_328 : (Cond.instanceMethod yX3_cycle) ∈ tg := tg_at 362 (by first | rfl | decide +kernel) (by first | rfl | decide +kernel)
set_option maxRecDepth 20000 in
theorem tw_329 : (Cond.selects RX3 yX3_cycle yX3_cycle) ∈ tg := tg_at 363 (by first | rfl | decide +kernel) (by first | rfl | decide +kernel)
set_option maxRecDepth 20000 in
theorem tw_330 : (Cond.code yX3_cycle cX3_cycle (2 : Nat) (Option.some FieldType.boolean)) ∈ tg := tg_at 364 (by first | rfl | decide +kernel) (by first | rfl | decide +kernel)
set_option maxRecDepth 20000 in
theorem tw_331 : (Cond.methodLink RL (64 : Nat) yX3_inverse) ∈ tg := tg_at 365 (by first | rfl | decide +kernel) (by first | rfl | decide +kernel)
set_option maxRecDepth 20000 in
theorem tw_332 : (Cond.instanceMethod yX3_inverse) ∈ tg := tg_at 366 (by first | rfl | decide +kernel) (by first | rfl | decide +kernel)
set_option maxRecDepth 20000 in
theorem tw_333 : (Cond.selects RX3 yX3_inverse yX3_inverse) ∈ tg := tg_at 367 (by first | rfl | decide +kernel) (by first | rfl | decide +kernel)
set_option maxRecDepth 20000 in
theorem tw_334 : (Cond.code yX3_inverse cX3_inverse (2 : Nat) (Option.some FieldType.int)) ∈ tg := tg_at 368 (by first | rfl | decide +kernel) (by first | rfl | decide +kernel)
set_option maxRecDepth 20000 in
theorem tw_335 : (Cond.methodLink RL (68 : Nat) yX3_negated) ∈ tg := tg_at 369 (by first | rfl | decide +kernel) (by first | rfl | decide +kernel)
set_option maxRecDepth 20000 in
theorem tw_336 : (Cond.instanceMethod yX3_negated) ∈ tg := tg_at 370 (by first | rfl | decide +kernel) (by first | rfl | decide +kernel)
set_option maxRecDepth 20000 in
theorem tw_337 : (Cond.selects RX3 yX3_negated yX3_negated) ∈ tg := tg_at 371 (by first | rfl | decide +kernel) (by first | rfl | decide +kernel)
set_option maxRecDepth 20000 in
theorem tw_338 : (Cond.code yX3_negated cX3_negated (4 : Nat) (Option.some FieldType.int)) ∈ tg := tg_at 372 (by first | rfl | decide +kernel) (by first | rfl | decide +kernel)
set_option maxRecDepth 20000 in
theorem tw_339 : (Cond.constant RX3 (118 : Nat) (65535 : Int32)) ∈ tg := tg_at 373 (by first | rfl | decide +kernel) (by first | rfl | decide +kernel)
set_option maxRecDepth 20000 in
theorem tw_340 : (Cond.methodLink RL (54 : Nat) yL_depth) ∈ tg := tg_at 374 (by first | rfl | decide +kernel) (by first | rfl | decide +kernel)
set_option maxRecDepth 20000 in
theorem tw_341 : (Cond.static yL_depth) ∈ tg := tg_at 375 (by first | rfl | decide +kernel) (by first | rfl | decide +kernel)
set_option maxRecDepth 20000 in
theorem tw_342 : (Cond.codeWith yL_depth cL_depth (4 : Nat) (Option.some FieldType.int) [((0 : Nat), (9 : Nat), (12 : Nat), (13 : Nat))]) ∈ tg := tg_at 376 (by first | rfl | decide +kernel) (by first | rfl | decide +kernel)
set_option maxRecDepth 20000 in
theorem tw_343 : (Cond.classLink RL (13 : Nat) RJx00060) ∈ tg := tg_at 377 (by first | rfl | decide +kernel) (by first | rfl | decide +kernel)
set_option maxRecDepth 20000 in
theorem tw_344 : (Cond.methodLink RL (7 : Nat) yX3_depth) ∈ tg := tg_at 378 (by first | rfl | decide +kernel) (by first | rfl | decide +kernel)
set_option maxRecDepth 20000 in
theorem tw_345 : (Cond.instanceMethod yX3_depth) ∈ tg := tg_at 379 (by first | rfl | decide +kernel) (by first | rfl | decide +kernel)
set_option maxRecDepth 20000 in
theorem tw_346 : (Cond.selects RX3 yX3_depth yX3_depth) ∈ tg := tg_at 380 (by first | rfl | decide +kernel) (by first | rfl | decide +kernel)
set_option maxRecDepth 20000 in
theorem tw_347 : (Cond.code yX3_depth cX3_depth (2 : Nat) (Option.some FieldType.int)) ∈ tg := tg_at 381 (by first | rfl | decide +kernel) (by first | rfl | decide +kernel)
set_option maxRecDepth 20000 in
theorem tw_348 : (Cond.classLink RX3 (108 : Nat) RJx00060) ∈ tg := tg_at 382 (by first | rfl | decide +kernel) (by first | rfl | decide +kernel)
set_option maxRecDepth 20000 in
theorem tw_349 : (Cond.instantiable RJx00060 (6 : Nat)) ∈ tg := tg_at 383 (by first | rfl | decide +kernel) (by first | rfl | decide +kernel)
set_option maxRecDepth 20000 in
theorem tn_350 : (Cond.castable "java/lang/ArrayIndexOutOfBoundsException" "java/lang/ArrayIndexOutOfBoundsException") ∈ lw_tbl := List.mem_of_getElem? (i := 384) (by first | rfl | decide +kernel)
set_option maxRecDepth 20000 in
theorem tn_351 : (Cond.declares (⟨"java/lang/IndexOutOfBoundsException", "<init>", "()V"⟩ : MethodName)) ∈ lw_tbl := List.mem_of_getElem? (i := 385) (by first | rfl | decide +kernel)
set_option maxRecDepth 20000 in
theorem tn_352 : (Cond.declares (⟨"java/lang/IndexOutOfBoundsException", "<init>", "(Ljava/lang/String;)V"⟩ : MethodName)) ∈ lw_tbl := List.mem_of_getElem? (i := 386) (by first | rfl | decide +kernel)
set_option maxRecDepth 20000 in
theorem tn_353 : (Cond.declares (⟨"java/lang/RuntimeException", "<init>", "()V"⟩ : MethodName)) ∈ lw_tbl := List.mem_of_getElem? (i := 387) (by first | rfl | decide +kernel)
set_option maxRecDepth 20000 in
theorem tn_354 : (Cond.declares (⟨"java/lang/RuntimeException", "<init>", "(Ljava/lang/String;)V"⟩ : MethodName)) ∈ lw_tbl := List.mem_of_getElem? (i := 388) (by first | rfl | decide +kernel)
set_option maxRecDepth 20000 in
theorem tn_355 : (Cond.declares (⟨"java/lang/Exception", "<init>", "()V"⟩ : MethodName)) ∈ lw_tbl := List.mem_of_getElem? (i := 389) (by first | rfl | decide +kernel)
set_option maxRecDepth 20000 in
theorem tn_356 : (Cond.declares (⟨"java/lang/Exception", "<init>", "(Ljava/lang/String;)V"⟩ : MethodName)) ∈ lw_tbl := List.mem_of_getElem? (i := 390) (by first | rfl | decide +kernel)
set_option maxRecDepth 20000 in
theorem tn_357 : (Cond.declares (⟨"java/lang/Throwable", "<init>", "()V"⟩ : MethodName)) ∈ lw_tbl := List.mem_of_getElem? (i := 391) (by first | rfl | decide +kernel)
set_option maxRecDepth 20000 in
theorem tn_358 : (Cond.declares (⟨"java/lang/Throwable", "<init>", "(Ljava/lang/String;)V"⟩ : MethodName)) ∈ lw_tbl := List.mem_of_getElem? (i := 392) (by first | rfl | decide +kernel)
set_option maxRecDepth 20000 in
theorem tw_359 : (Cond.selects RJx00060 (⟨"java/lang/Throwable", "fillInStackTrace", "(I)Ljava/lang/Throwable;"⟩ : MethodName) (⟨"java/lang/Throwable", "fillInStackTrace", "(I)Ljava/lang/Throwable;"⟩ : MethodName)) ∈ tg := tg_at 393 (by first | rfl | decide +kernel) (by first | rfl | decide +kernel)
set_option maxRecDepth 20000 in
theorem tw_360 : (Cond.selects RJx00060 (⟨"java/lang/Throwable", "fillInStackTrace", "()Ljava/lang/Throwable;"⟩ : MethodName) (⟨"java/lang/Throwable", "fillInStackTrace", "()Ljava/lang/Throwable;"⟩ : MethodName)) ∈ tg := tg_at 394 (by first | rfl | decide +kernel) (by first | rfl | decide +kernel)
set_option maxRecDepth 20000 in
theorem tw_361 : (Cond.lays RJx00060 "java/lang/Throwable" "cause" "Ljava/lang/Throwable;") ∈ tg := tg_at 395 (by first | rfl | decide +kernel) (by first | rfl | decide +kernel)
set_option maxRecDepth 20000 in
theorem tw_362 : (Cond.lays "java/lang/Throwable" "java/lang/Throwable" "cause" "Ljava/lang/Throwable;") ∈ tg := tg_at 396 (by first | rfl | decide +kernel) (by first | rfl | decide +kernel)
set_option maxRecDepth 20000 in
theorem tw_363 : (Cond.lays RJx00060 "java/lang/Throwable" "stackTrace" "[Ljava/lang/StackTraceElement;") ∈ tg := tg_at 397 (by first | rfl | decide +kernel) (by first | rfl | decide +kernel)
set_option maxRecDepth 20000 in
theorem tw_364 : (Cond.lays "java/lang/Throwable" "java/lang/Throwable" "stackTrace" "[Ljava/lang/StackTraceElement;") ∈ tg := tg_at 398 (by first | rfl | decide +kernel) (by first | rfl | decide +kernel)
set_option maxRecDepth 20000 in
theorem tw_365 : (Cond.lays RJx00060 "java/lang/Throwable" "suppressedExceptions" "Ljava/util/List;") ∈ tg := tg_at 399 (by first | rfl | decide +kernel) (by first | rfl | decide +kernel)
set_option maxRecDepth 20000 in
theorem tw_366 : (Cond.lays "java/lang/Throwable" "java/lang/Throwable" "suppressedExceptions" "Ljava/util/List;") ∈ tg := tg_at 400 (by first | rfl | decide +kernel) (by first | rfl | decide +kernel)
set_option maxRecDepth 20000 in
theorem tw_367 : (Cond.lays RJx00060 "java/lang/Throwable" "detailMessage" "Ljava/lang/String;") ∈ tg := tg_at 401 (by first | rfl | decide +kernel) (by first | rfl | decide +kernel)
set_option maxRecDepth 20000 in
theorem tw_368 : (Cond.lays "java/lang/Throwable" "java/lang/Throwable" "detailMessage" "Ljava/lang/String;") ∈ tg := tg_at 402 (by first | rfl | decide +kernel) (by first | rfl | decide +kernel)
set_option maxRecDepth 20000 in
theorem tw_369 : (Cond.lays RJx00060 "java/lang/Throwable" "backtrace" "Ljava/lang/Object;") ∈ tg := tg_at 403 (by first | rfl | decide +kernel) (by first | rfl | decide +kernel)
set_option maxRecDepth 20000 in
theorem tw_370 : (Cond.lays "java/lang/Throwable" "java/lang/Throwable" "backtrace" "Ljava/lang/Object;") ∈ tg := tg_at 404 (by first | rfl | decide +kernel) (by first | rfl | decide +kernel)
set_option maxRecDepth 20000 in
theorem tw_371 : (Cond.fieldLink "java/lang/Throwable" (198 : Nat) "java/lang/Throwable" "backtrace" "Ljava/lang/Object;") ∈ tg := tg_at 405 (by first | rfl | decide +kernel) (by first | rfl | decide +kernel)
set_option maxRecDepth 20000 in
theorem tw_372 : (Cond.superclass "java/lang/Throwable" "java/lang/Object") ∈ tg := tg_at 406 (by first | rfl | decide +kernel) (by first | rfl | decide +kernel)
set_option maxRecDepth 20000 in
theorem tw_373 : (Cond.instanceMethod (⟨"java/lang/Throwable", "<init>", "()V"⟩ : MethodName)) ∈ tg := tg_at 407 (by first | rfl | decide +kernel) (by first | rfl | decide +kernel)
set_option maxRecDepth 20000 in
theorem tw_374 : (Cond.code (⟨"java/lang/Throwable", "<init>", "()V"⟩ : MethodName) prog_14_method_1_code (1 : Nat) (Option.none : Option FieldType)) ∈ tg := tg_at 408 (by first | rfl | decide +kernel) (by first | rfl | decide +kernel)
set_option maxRecDepth 20000 in
theorem tw_375 : (Cond.methodLink "java/lang/Throwable" (1 : Nat) objectInit) ∈ tg := tg_at 409 (by first | rfl | decide +kernel) (by first | rfl | decide +kernel)
set_option maxRecDepth 20000 in
theorem tw_376 : (Cond.fieldLink "java/lang/Throwable" (13 : Nat) "java/lang/Throwable" "UNASSIGNED_STACK" "[Ljava/lang/StackTraceElement;") ∈ tg := tg_at 410 (by first | rfl | decide +kernel) (by first | rfl | decide +kernel)
set_option maxRecDepth 20000 in
theorem tn_377 : (Cond.laysStatic "java/lang/Throwable" "UNASSIGNED_STACK" "[Ljava/lang/StackTraceElement;") ∈ lw_tbl := List.mem_of_getElem? (i := 411) (by first | rfl | decide +kernel)
set_option maxRecDepth 20000 in
theorem tw_378 : (Cond.fieldLink "java/lang/Throwable" (20 : Nat) "java/lang/Throwable" "SUPPRESSED_SENTINEL" "Ljava/util/List;") ∈ tg := tg_at 412 (by first | rfl | decide +kernel) (by first | rfl | decide +kernel)
set_option maxRecDepth 20000 in
theorem tn_379 : (Cond.laysStatic "java/lang/Throwable" "SUPPRESSED_SENTINEL" "Ljava/util/List;") ∈ lw_tbl := List.mem_of_getElem? (i := 413) (by first | rfl | decide +kernel)
set_option maxRecDepth 20000 in
theorem tw_380 : (Cond.methodLink "java/lang/Throwable" (27 : Nat) (⟨"java/lang/Throwable", "fillInStackTrace", "()Ljava/lang/Throwable;"⟩ : MethodName)) ∈ tg := tg_at 414 (by first | rfl | decide +kernel) (by first | rfl | decide +kernel)
set_option maxRecDepth 20000 in
theorem tw_381 : (Cond.instanceMethod (⟨"java/lang/Throwable", "fillInStackTrace", "()Ljava/lang/Throwable;"⟩ : MethodName)) ∈ tg := tg_at 415 (by first | rfl | decide +kernel) (by first | rfl | decide +kernel)
set_option maxRecDepth 20000 in
theorem tw_382 : (Cond.sameMethod "java/lang/Throwable" "java/lang/Throwable" "fillInStackTrace" "()Ljava/lang/Throwable;") ∈ tg := tg_at 416 (by first | rfl | decide +kernel) (by first | rfl | decide +kernel)
set_option maxRecDepth 20000 in
theorem tw_383 : (Cond.codeSync (⟨"java/lang/Throwable", "fillInStackTrace", "()Ljava/lang/Throwable;"⟩ : MethodName) prog_14_method_18_code (1 : Nat) (Option.some (FieldType.object "java/lang/Throwable"))) ∈ tg := tg_at 417 (by first | rfl | decide +kernel) (by first | rfl | decide +kernel)
set_option maxRecDepth 20000 in
theorem tw_384 : (Cond.methodLink "java/lang/Throwable" (202 : Nat) (⟨"java/lang/Throwable", "fillInStackTrace", "(I)Ljava/lang/Throwable;"⟩ : MethodName)) ∈ tg := tg_at 418 (by first | rfl | decide +kernel) (by first | rfl | decide +kernel)
set_option maxRecDepth 20000 in
theorem tw_386 : (Cond.instanceMethod (⟨"java/lang/Throwable", "fillInStackTrace", "(I)Ljava/lang/Throwable;"⟩ : MethodName)) ∈ tg := tg_at 420 (by first | rfl | decide +kernel) (by first | rfl | decide +kernel)
set_option maxRecDepth 20000 in
theorem tw_387 : (Cond.instantiable "java/lang/Throwable" (6 : Nat)) ∈ tg := tg_at 421 (by first | rfl | decide +kernel) (by first | rfl | decide +kernel)
set_option maxRecDepth 20000 in
theorem tw_388 : (Cond.native (⟨"java/lang/Throwable", "fillInStackTrace", "(I)Ljava/lang/Throwable;"⟩ : MethodName)) ∈ tg := tg_at 422 (by first | rfl | decide +kernel) (by first | rfl | decide +kernel)
set_option maxRecDepth 20000 in
theorem tn_389 : (Cond.stringRef "PathSteps" (110 : Nat) "no such row") ∈ lw_tbl := List.mem_of_getElem? (i := 423) (by first | rfl | decide +kernel)
set_option maxRecDepth 20000 in
theorem tw_390 : (Cond.methodLink RX3 (112 : Nat) yJx00060_init_a7421) ∈ tg := tg_at 424 (by first | rfl | decide +kernel) (by first | rfl | decide +kernel)
set_option maxRecDepth 20000 in
theorem tw_391 : (Cond.instanceMethod yJx00060_init_a7421) ∈ tg := tg_at 425 (by first | rfl | decide +kernel) (by first | rfl | decide +kernel)
set_option maxRecDepth 20000 in
theorem tw_392 : (Cond.code yJx00060_init_a7421 cJx00060_init_a7421 (2 : Nat) (Option.none : Option FieldType)) ∈ tg := tg_at 426 (by first | rfl | decide +kernel) (by first | rfl | decide +kernel)
set_option maxRecDepth 20000 in
theorem tw_393 : (Cond.methodLink RJx00060 (7 : Nat) (⟨"java/lang/IndexOutOfBoundsException", "<init>", "(Ljava/lang/String;)V"⟩ : MethodName)) ∈ tg := tg_at 427 (by first | rfl | decide +kernel) (by first | rfl | decide +kernel)
set_option maxRecDepth 20000 in
theorem tw_394 : (Cond.instanceMethod (⟨"java/lang/IndexOutOfBoundsException", "<init>", "(Ljava/lang/String;)V"⟩ : MethodName)) ∈ tg := tg_at 428 (by first | rfl | decide +kernel) (by first | rfl | decide +kernel)
set_option maxRecDepth 20000 in
theorem tw_395 : (Cond.code (⟨"java/lang/IndexOutOfBoundsException", "<init>", "(Ljava/lang/String;)V"⟩ : MethodName) prog_9_method_2_code (2 : Nat) (Option.none : Option FieldType)) ∈ tg := tg_at 429 (by first | rfl | decide +kernel) (by first | rfl | decide +kernel)
set_option maxRecDepth 20000 in
theorem tw_396 : (Cond.methodLink "java/lang/IndexOutOfBoundsException" (7 : Nat) (⟨"java/lang/RuntimeException", "<init>", "(Ljava/lang/String;)V"⟩ : MethodName)) ∈ tg := tg_at 430 (by first | rfl | decide +kernel) (by first | rfl | decide +kernel)
set_option maxRecDepth 20000 in
theorem tw_397 : (Cond.instanceMethod (⟨"java/lang/RuntimeException", "<init>", "(Ljava/lang/String;)V"⟩ : MethodName)) ∈ tg := tg_at 431 (by first | rfl | decide +kernel) (by first | rfl | decide +kernel)
set_option maxRecDepth 20000 in
theorem tw_398 : (Cond.code (⟨"java/lang/RuntimeException", "<init>", "(Ljava/lang/String;)V"⟩ : MethodName) prog_12_method_2_code (2 : Nat) (Option.none : Option FieldType)) ∈ tg := tg_at 432 (by first | rfl | decide +kernel) (by first | rfl | decide +kernel)
set_option maxRecDepth 20000 in
theorem tw_399 : (Cond.methodLink "java/lang/RuntimeException" (7 : Nat) (⟨"java/lang/Exception", "<init>", "(Ljava/lang/String;)V"⟩ : MethodName)) ∈ tg := tg_at 433 (by first | rfl | decide +kernel) (by first | rfl | decide +kernel)
set_option maxRecDepth 20000 in
theorem tw_400 : (Cond.instanceMethod (⟨"java/lang/Exception", "<init>", "(Ljava/lang/String;)V"⟩ : MethodName)) ∈ tg := tg_at 434 (by first | rfl | decide +kernel) (by first | rfl | decide +kernel)
set_option maxRecDepth 20000 in
theorem tw_401 : (Cond.code (⟨"java/lang/Exception", "<init>", "(Ljava/lang/String;)V"⟩ : MethodName) prog_8_method_2_code (2 : Nat) (Option.none : Option FieldType)) ∈ tg := tg_at 435 (by first | rfl | decide +kernel) (by first | rfl | decide +kernel)
set_option maxRecDepth 20000 in
theorem tw_402 : (Cond.methodLink "java/lang/Exception" (7 : Nat) (⟨"java/lang/Throwable", "<init>", "(Ljava/lang/String;)V"⟩ : MethodName)) ∈ tg := tg_at 436 (by first | rfl | decide +kernel) (by first | rfl | decide +kernel)
set_option maxRecDepth 20000 in
theorem tw_403 : (Cond.instanceMethod (⟨"java/lang/Throwable", "<init>", "(Ljava/lang/String;)V"⟩ : MethodName)) ∈ tg := tg_at 437 (by first | rfl | decide +kernel) (by first | rfl | decide +kernel)
set_option maxRecDepth 20000 in
theorem tw_404 : (Cond.code (⟨"java/lang/Throwable", "<init>", "(Ljava/lang/String;)V"⟩ : MethodName) prog_14_method_2_code (2 : Nat) (Option.none : Option FieldType)) ∈ tg := tg_at 438 (by first | rfl | decide +kernel) (by first | rfl | decide +kernel)
set_option maxRecDepth 20000 in
theorem tw_405 : (Cond.fieldLink "java/lang/Throwable" (198 : Nat) "java/lang/Throwable" "backtrace" "Ljava/lang/Object;") ∈ tg := tg_at 439 (by first | rfl | decide +kernel) (by first | rfl | decide +kernel)
set_option maxRecDepth 20000 in
theorem tw_406 : (Cond.fieldLink "java/lang/Throwable" (31 : Nat) "java/lang/Throwable" "detailMessage" "Ljava/lang/String;") ∈ tg := tg_at 440 (by first | rfl | decide +kernel) (by first | rfl | decide +kernel)
set_option maxRecDepth 20000 in
theorem tw_407 : (Cond.fieldLink "java/lang/Throwable" (7 : Nat) "java/lang/Throwable" "cause" "Ljava/lang/Throwable;") ∈ tg := tg_at 441 (by first | rfl | decide +kernel) (by first | rfl | decide +kernel)
set_option maxRecDepth 20000 in
theorem tw_408 : (Cond.fieldLink "java/lang/Throwable" (17 : Nat) "java/lang/Throwable" "stackTrace" "[Ljava/lang/StackTraceElement;") ∈ tg := tg_at 442 (by first | rfl | decide +kernel) (by first | rfl | decide +kernel)
set_option maxRecDepth 20000 in
theorem tw_409 : (Cond.fieldLink "java/lang/Throwable" (24 : Nat) "java/lang/Throwable" "suppressedExceptions" "Ljava/util/List;") ∈ tg := tg_at 443 (by first | rfl | decide +kernel) (by first | rfl | decide +kernel)
set_option maxRecDepth 20000 in
theorem tw_414 : (Cond.lays RJx00060 "java/lang/Throwable" "depth" "I") ∈ tg := tg_at 448 (by first | rfl | decide +kernel) (by first | rfl | decide +kernel)
set_option maxRecDepth 20000 in
theorem tw_417 : (Cond.superclass "java/lang/ArrayIndexOutOfBoundsException" "java/lang/IndexOutOfBoundsException") ∈ tg := tg_at 451 (by first | rfl | decide +kernel) (by first | rfl | decide +kernel)
set_option maxRecDepth 20000 in
theorem tw_418 : (Cond.arrayClass FieldType.byte) ∈ tg := tg_at 452 (by first | rfl | decide +kernel) (by first | rfl | decide +kernel)
set_option maxRecDepth 20000 in
theorem tw_419 : (Cond.classLink RL (16 : Nat) RX4) ∈ tg := tg_at 453 (by first | rfl | decide +kernel) (by first | rfl | decide +kernel)
set_option maxRecDepth 20000 in
theorem tw_420 : (Cond.instantiable RX4 (21 : Nat)) ∈ tg := tg_at 454 (by first | rfl | decide +kernel) (by first | rfl | decide +kernel)
set_option maxRecDepth 20000 in
theorem tw_421 : (Cond.methodLink RL (18 : Nat) yX4_init) ∈ tg := tg_at 455 (by first | rfl | decide +kernel) (by first | rfl | decide +kernel)
set_option maxRecDepth 20000 in
theorem tw_422 : (Cond.instanceMethod yX4_init) ∈ tg := tg_at 456 (by first | rfl | decide +kernel) (by first | rfl | decide +kernel)
set_option maxRecDepth 20000 in
theorem tw_423 : (Cond.code yX4_init cX4_init (1 : Nat) (Option.none : Option FieldType)) ∈ tg := tg_at 457 (by first | rfl | decide +kernel) (by first | rfl | decide +kernel)
set_option maxRecDepth 20000 in
theorem tw_424 : (Cond.methodLink RX4 (1 : Nat) objectInit) ∈ tg := tg_at 458 (by first | rfl | decide +kernel) (by first | rfl | decide +kernel)
set_option maxRecDepth 20000 in
theorem tw_425 : (Cond.constant RX4 (32 : Nat) (41984 : Int32)) ∈ tg := tg_at 459 (by first | rfl | decide +kernel) (by first | rfl | decide +kernel)
set_option maxRecDepth 20000 in
theorem tw_426 : (Cond.fieldLink RX4 (58 : Nat) "PathStepsModel" "refusal" "I") ∈ tg := tg_at 460 (by first | rfl | decide +kernel) (by first | rfl | decide +kernel)
set_option maxRecDepth 20000 in
theorem tw_427 : (Cond.fieldLink RX4 (7 : Nat) "PathStepsModel" "subjects" "[I") ∈ tg := tg_at 461 (by first | rfl | decide +kernel) (by first | rfl | decide +kernel)
set_option maxRecDepth 20000 in
theorem tw_428 : (Cond.fieldLink RX4 (13 : Nat) "PathStepsModel" "predicates" "[I") ∈ tg := tg_at 462 (by first | rfl | decide +kernel) (by first | rfl | decide +kernel)
set_option maxRecDepth 20000 in
theorem tw_429 : (Cond.fieldLink RX4 (16 : Nat) "PathStepsModel" "objects" "[I") ∈ tg := tg_at 463 (by first | rfl | decide +kernel) (by first | rfl | decide +kernel)
set_option maxRecDepth 20000 in
theorem tw_430 : (Cond.fieldLink RX4 (72 : Nat) "PathStepsModel" "triples" "I") ∈ tg := tg_at 464 (by first | rfl | decide +kernel) (by first | rfl | decide +kernel)
set_option maxRecDepth 20000 in
theorem tw_431 : (Cond.fieldLink RX4 (19 : Nat) "PathStepsModel" "kinds" "[I") ∈ tg := tg_at 465 (by first | rfl | decide +kernel) (by first | rfl | decide +kernel)
set_option maxRecDepth 20000 in
theorem tw_432 : (Cond.fieldLink RX4 (22 : Nat) "PathStepsModel" "first" "[I") ∈ tg := tg_at 466 (by first | rfl | decide +kernel) (by first | rfl | decide +kernel)
set_option maxRecDepth 20000 in
theorem tw_433 : (Cond.fieldLink RX4 (25 : Nat) "PathStepsModel" "second" "[I") ∈ tg := tg_at 467 (by first | rfl | decide +kernel) (by first | rfl | decide +kernel)
set_option maxRecDepth 20000 in
theorem tw_434 : (Cond.fieldLink RX4 (65 : Nat) "PathStepsModel" "paths" "I") ∈ tg := tg_at 468 (by first | rfl | decide +kernel) (by first | rfl | decide +kernel)
set_option maxRecDepth 20000 in
theorem tw_435 : (Cond.fieldLink RX4 (28 : Nat) "PathStepsModel" "most" "I") ∈ tg := tg_at 469 (by first | rfl | decide +kernel) (by first | rfl | decide +kernel)
set_option maxRecDepth 20000 in
theorem tw_436 : (Cond.fieldLink RX4 (33 : Nat) "PathStepsModel" "table" "[I") ∈ tg := tg_at 470 (by first | rfl | decide +kernel) (by first | rfl | decide +kernel)
set_option maxRecDepth 20000 in
theorem tw_437 : (Cond.fieldLink RX4 (36 : Nat) "PathStepsModel" "isNeeded" "[Z") ∈ tg := tg_at 471 (by first | rfl | decide +kernel) (by first | rfl | decide +kernel)
set_option maxRecDepth 20000 in
theorem tw_438 : (Cond.fieldLink RX4 (40 : Nat) "PathStepsModel" "isIn" "[Z") ∈ tg := tg_at 472 (by first | rfl | decide +kernel) (by first | rfl | decide +kernel)
set_option maxRecDepth 20000 in
theorem tw_439 : (Cond.fieldLink RX4 (95 : Nat) "PathStepsModel" "goesBeyond" "Z") ∈ tg := tg_at 473 (by first | rfl | decide +kernel) (by first | rfl | decide +kernel)
set_option maxRecDepth 20000 in
theorem tw_440 : (Cond.fieldLink RX4 (43 : Nat) "PathStepsModel" "steps" "[I") ∈ tg := tg_at 474 (by first | rfl | decide +kernel) (by first | rfl | decide +kernel)
set_option maxRecDepth 20000 in
theorem tw_441 : (Cond.fieldLink RX4 (46 : Nat) "PathStepsModel" "queue" "[I") ∈ tg := tg_at 475 (by first | rfl | decide +kernel) (by first | rfl | decide +kernel)
set_option maxRecDepth 20000 in
theorem tw_442 : (Cond.fieldLink RX4 (129 : Nat) "PathStepsModel" "wasRun" "Z") ∈ tg := tg_at 476 (by first | rfl | decide +kernel) (by first | rfl | decide +kernel)
set_option maxRecDepth 20000 in
theorem tw_443 : (Cond.fieldLink RX4 (132 : Nat) "PathStepsModel" "rows" "I") ∈ tg := tg_at 477 (by first | rfl | decide +kernel) (by first | rfl | decide +kernel)
set_option maxRecDepth 20000 in
theorem tw_444 : (Cond.fieldLink RX4 (49 : Nat) "PathStepsModel" "rowFrom" "[I") ∈ tg := tg_at 478 (by first | rfl | decide +kernel) (by first | rfl | decide +kernel)
set_option maxRecDepth 20000 in
theorem tw_445 : (Cond.fieldLink RX4 (52 : Nat) "PathStepsModel" "rowTo" "[I") ∈ tg := tg_at 479 (by first | rfl | decide +kernel) (by first | rfl | decide +kernel)
set_option maxRecDepth 20000 in
theorem tw_446 : (Cond.fieldLink RX4 (55 : Nat) "PathStepsModel" "rowDepth" "[I") ∈ tg := tg_at 480 (by first | rfl | decide +kernel) (by first | rfl | decide +kernel)
set_option maxRecDepth 20000 in
theorem tw_447 : (Cond.lays RX4 "PathStepsModel" "refusal" "I") ∈ tg := tg_at 481 (by first | rfl | decide +kernel) (by first | rfl | decide +kernel)
set_option maxRecDepth 20000 in
theorem tw_449 : (Cond.laysFinal RX4 "PathStepsModel" "subjects" "[I") ∈ tg := tg_at 483 (by first | rfl | decide +kernel) (by first | rfl | decide +kernel)
set_option maxRecDepth 20000 in
theorem tw_451 : (Cond.laysFinal RX4 "PathStepsModel" "predicates" "[I") ∈ tg := tg_at 485 (by first | rfl | decide +kernel) (by first | rfl | decide +kernel)
set_option maxRecDepth 20000 in
theorem tw_453 : (Cond.laysFinal RX4 "PathStepsModel" "objects" "[I") ∈ tg := tg_at 487 (by first | rfl | decide +kernel) (by first | rfl | decide +kernel)
set_option maxRecDepth 20000 in
theorem tw_455 : (Cond.lays RX4 "PathStepsModel" "triples" "I") ∈ tg := tg_at 489 (by first | rfl | decide +kernel) (by first | rfl | decide +kernel)
set_option maxRecDepth 20000 in
theorem tw_457 : (Cond.laysFinal RX4 "PathStepsModel" "kinds" "[I") ∈ tg := tg_at 491 (by first | rfl | decide +kernel) (by first | rfl | decide +kernel)
set_option maxRecDepth 20000 in
theorem tw_459 : (Cond.laysFinal RX4 "PathStepsModel" "first" "[I") ∈ tg := tg_at 493 (by first | rfl | decide +kernel) (by first | rfl | decide +kernel)
set_option maxRecDepth 20000 in
theorem tw_461 : (Cond.laysFinal RX4 "PathStepsModel" "second" "[I") ∈ tg := tg_at 495 (by first | rfl | decide +kernel) (by first | rfl | decide +kernel)
set_option maxRecDepth 20000 in
theorem tw_463 : (Cond.lays RX4 "PathStepsModel" "paths" "I") ∈ tg := tg_at 497 (by first | rfl | decide +kernel) (by first | rfl | decide +kernel)
set_option maxRecDepth 20000 in
theorem tw_465 : (Cond.lays RX4 "PathStepsModel" "most" "I") ∈ tg := tg_at 499 (by first | rfl | decide +kernel) (by first | rfl | decide +kernel)
set_option maxRecDepth 20000 in
theorem tw_467 : (Cond.laysFinal RX4 "PathStepsModel" "table" "[I") ∈ tg := tg_at 501 (by first | rfl | decide +kernel) (by first | rfl | decide +kernel)
set_option maxRecDepth 20000 in
theorem tw_469 : (Cond.laysFinal RX4 "PathStepsModel" "isNeeded" "[Z") ∈ tg := tg_at 503 (by first | rfl | decide +kernel) (by first | rfl | decide +kernel)
set_option maxRecDepth 20000 in
theorem tw_471 : (Cond.laysFinal RX4 "PathStepsModel" "isIn" "[Z") ∈ tg := tg_at 505 (by first | rfl | decide +kernel) (by first | rfl | decide +kernel)
set_option maxRecDepth 20000 in
theorem tw_473 : (Cond.lays RX4 "PathStepsModel" "goesBeyond" "Z") ∈ tg := tg_at 507 (by first | rfl | decide +kernel) (by first | rfl | decide +kernel)
set_option maxRecDepth 20000 in
theorem tw_475 : (Cond.laysFinal RX4 "PathStepsModel" "steps" "[I") ∈ tg := tg_at 509 (by first | rfl | decide +kernel) (by first | rfl | decide +kernel)
set_option maxRecDepth 20000 in
theorem tw_477 : (Cond.laysFinal RX4 "PathStepsModel" "queue" "[I") ∈ tg := tg_at 511 (by first | rfl | decide +kernel) (by first | rfl | decide +kernel)
set_option maxRecDepth 20000 in
theorem tw_479 : (Cond.lays RX4 "PathStepsModel" "wasRun" "Z") ∈ tg := tg_at 513 (by first | rfl | decide +kernel) (by first | rfl | decide +kernel)
set_option maxRecDepth 20000 in
theorem tw_481 : (Cond.lays RX4 "PathStepsModel" "rows" "I") ∈ tg := tg_at 515 (by first | rfl | decide +kernel) (by first | rfl | decide +kernel)
set_option maxRecDepth 20000 in
theorem tw_483 : (Cond.laysFinal RX4 "PathStepsModel" "rowFrom" "[I") ∈ tg := tg_at 517 (by first | rfl | decide +kernel) (by first | rfl | decide +kernel)
set_option maxRecDepth 20000 in
theorem tw_485 : (Cond.laysFinal RX4 "PathStepsModel" "rowTo" "[I") ∈ tg := tg_at 519 (by first | rfl | decide +kernel) (by first | rfl | decide +kernel)
set_option maxRecDepth 20000 in
theorem tw_487 : (Cond.laysFinal RX4 "PathStepsModel" "rowDepth" "[I") ∈ tg := tg_at 521 (by first | rfl | decide +kernel) (by first | rfl | decide +kernel)
set_option maxRecDepth 20000 in
theorem tw_489 : (Cond.superclass "PathStepsModel" "java/lang/Object") ∈ tg := tg_at 523 (by first | rfl | decide +kernel) (by first | rfl | decide +kernel)
set_option maxRecDepth 20000 in
theorem tw_490 : (Cond.arrayClass FieldType.boolean) ∈ tg := tg_at 524 (by first | rfl | decide +kernel) (by first | rfl | decide +kernel)
set_option maxRecDepth 20000 in
theorem tw_491 : (Cond.methodLink RL (60 : Nat) yX4_thrown) ∈ tg := tg_at 525 (by first | rfl | decide +kernel) (by first | rfl | decide +kernel)
set_option maxRecDepth 20000 in
theorem tw_492 : (Cond.instanceMethod yX4_thrown) ∈ tg := tg_at 526 (by first | rfl | decide +kernel) (by first | rfl | decide +kernel)
set_option maxRecDepth 20000 in
theorem tw_493 : (Cond.selects RX4 yX4_thrown yX4_thrown) ∈ tg := tg_at 527 (by first | rfl | decide +kernel) (by first | rfl | decide +kernel)
set_option maxRecDepth 20000 in
theorem tw_494 : (Cond.code yX4_thrown cX4_thrown (1 : Nat) (Option.some FieldType.int)) ∈ tg := tg_at 528 (by first | rfl | decide +kernel) (by first | rfl | decide +kernel)
set_option maxRecDepth 20000 in
theorem tw_495 : (Cond.methodLink RL (23 : Nat) yX4_triple) ∈ tg := tg_at 529 (by first | rfl | decide +kernel) (by first | rfl | decide +kernel)
set_option maxRecDepth 20000 in
theorem tw_496 : (Cond.instanceMethod yX4_triple) ∈ tg := tg_at 530 (by first | rfl | decide +kernel) (by first | rfl | decide +kernel)
set_option maxRecDepth 20000 in
theorem tw_497 : (Cond.selects RX4 yX4_triple yX4_triple) ∈ tg := tg_at 531 (by first | rfl | decide +kernel) (by first | rfl | decide +kernel)
set_option maxRecDepth 20000 in
theorem tw_498 : (Cond.code yX4_triple cX4_triple (5 : Nat) (Option.some FieldType.int)) ∈ tg := tg_at 532 (by first | rfl | decide +kernel) (by first | rfl | decide +kernel)
set_option maxRecDepth 20000 in
theorem tw_499 : (Cond.methodLink RX4 (68 : Nat) yX4_isNode) ∈ tg := tg_at 533 (by first | rfl | decide +kernel) (by first | rfl | decide +kernel)
set_option maxRecDepth 20000 in
theorem tw_500 : (Cond.static yX4_isNode) ∈ tg := tg_at 534 (by first | rfl | decide +kernel) (by first | rfl | decide +kernel)
set_option maxRecDepth 20000 in
theorem tw_501 : (Cond.code yX4_isNode cX4_isNode (1 : Nat) (Option.some FieldType.boolean)) ∈ tg := tg_at 535 (by first | rfl | decide +kernel) (by first | rfl | decide +kernel)
set_option maxRecDepth 20000 in
theorem tw_502 : (Cond.methodLink RX4 (61 : Nat) yX4_isBetween) ∈ tg := tg_at 536 (by first | rfl | decide +kernel) (by first | rfl | decide +kernel)
set_option maxRecDepth 20000 in
theorem tw_503 : (Cond.static yX4_isBetween) ∈ tg := tg_at 537 (by first | rfl | decide +kernel) (by first | rfl | decide +kernel)
set_option maxRecDepth 20000 in
theorem tw_504 : (Cond.code yX4_isBetween cX4_isBetween (3 : Nat) (Option.some FieldType.boolean)) ∈ tg := tg_at 538 (by first | rfl | decide +kernel) (by first | rfl | decide +kernel)
set_option maxRecDepth 20000 in
theorem tw_505 : (Cond.methodLink RL (27 : Nat) yX4_path) ∈ tg := tg_at 539 (by first | rfl | decide +kernel) (by first | rfl | decide +kernel)
set_option maxRecDepth 20000 in
theorem tw_506 : (Cond.instanceMethod yX4_path) ∈ tg := tg_at 540 (by first | rfl | decide +kernel) (by first | rfl | decide +kernel)
set_option maxRecDepth 20000 in
theorem tw_507 : (Cond.selects RX4 yX4_path yX4_path) ∈ tg := tg_at 541 (by first | rfl | decide +kernel) (by first | rfl | decide +kernel)
set_option maxRecDepth 20000 in
theorem tw_508 : (Cond.code yX4_path cX4_path (4 : Nat) (Option.some FieldType.int)) ∈ tg := tg_at 542 (by first | rfl | decide +kernel) (by first | rfl | decide +kernel)
set_option maxRecDepth 20000 in
theorem tw_509 : (Cond.methodLink RX4 (75 : Nat) yX4_isPath) ∈ tg := tg_at 543 (by first | rfl | decide +kernel) (by first | rfl | decide +kernel)
set_option maxRecDepth 20000 in
theorem tw_511 : (Cond.instanceMethod yX4_isPath) ∈ tg := tg_at 545 (by first | rfl | decide +kernel) (by first | rfl | decide +kernel)
set_option maxRecDepth 20000 in
theorem tw_512 : (Cond.code yX4_isPath cX4_isPath (2 : Nat) (Option.some FieldType.boolean)) ∈ tg := tg_at 546 (by first | rfl | decide +kernel) (by first | rfl | decide +kernel)
set_option maxRecDepth 20000 in
theorem tw_513 : (Cond.methodLink RX4 (78 : Nat) yX4_made) ∈ tg := tg_at 547 (by first | rfl | decide +kernel) (by first | rfl | decide +kernel)
set_option maxRecDepth 20000 in
theorem tw_515 : (Cond.instanceMethod yX4_made) ∈ tg := tg_at 549 (by first | rfl | decide +kernel) (by first | rfl | decide +kernel)
set_option maxRecDepth 20000 in
theorem tw_516 : (Cond.code yX4_made cX4_made (4 : Nat) (Option.some FieldType.int)) ∈ tg := tg_at 550 (by first | rfl | decide +kernel) (by first | rfl | decide +kernel)
set_option maxRecDepth 20000 in
theorem tw_517 : (Cond.methodLink RL (67 : Nat) yX4_inverse) ∈ tg := tg_at 551 (by first | rfl | decide +kernel) (by first | rfl | decide +kernel)
set_option maxRecDepth 20000 in
theorem tw_518 : (Cond.instanceMethod yX4_inverse) ∈ tg := tg_at 552 (by first | rfl | decide +kernel) (by first | rfl | decide +kernel)
set_option maxRecDepth 20000 in
theorem tw_519 : (Cond.selects RX4 yX4_inverse yX4_inverse) ∈ tg := tg_at 553 (by first | rfl | decide +kernel) (by first | rfl | decide +kernel)
set_option maxRecDepth 20000 in
theorem tw_520 : (Cond.code yX4_inverse cX4_inverse (2 : Nat) (Option.some FieldType.int)) ∈ tg := tg_at 554 (by first | rfl | decide +kernel) (by first | rfl | decide +kernel)
set_option maxRecDepth 20000 in
theorem tw_521 : (Cond.methodLink RL (71 : Nat) yX4_negated) ∈ tg := tg_at 555 (by first | rfl | decide +kernel) (by first | rfl | decide +kernel)
set_option maxRecDepth 20000 in
theorem tw_522 : (Cond.instanceMethod yX4_negated) ∈ tg := tg_at 556 (by first | rfl | decide +kernel) (by first | rfl | decide +kernel)
set_option maxRecDepth 20000 in
theorem tw_523 : (Cond.selects RX4 yX4_negated yX4_negated) ∈ tg := tg_at 557 (by first | rfl | decide +kernel) (by first | rfl | decide +kernel)
set_option maxRecDepth 20000 in
theorem tw_524 : (Cond.code yX4_negated cX4_negated (3 : Nat) (Option.some FieldType.int)) ∈ tg := tg_at 558 (by first | rfl | decide +kernel) (by first | rfl | decide +kernel)
set_option maxRecDepth 20000 in
theorem tw_525 : (Cond.methodLink RL (31 : Nat) yX4_from) ∈ tg := tg_at 559 (by first | rfl | decide +kernel) (by first | rfl | decide +kernel)
set_option maxRecDepth 20000 in
theorem tw_526 : (Cond.instanceMethod yX4_from) ∈ tg := tg_at 560 (by first | rfl | decide +kernel) (by first | rfl | decide +kernel)
set_option maxRecDepth 20000 in
theorem tw_527 : (Cond.selects RX4 yX4_from yX4_from) ∈ tg := tg_at 561 (by first | rfl | decide +kernel) (by first | rfl | decide +kernel)
set_option maxRecDepth 20000 in
theorem tw_528 : (Cond.code yX4_from cX4_from (4 : Nat) (Option.some FieldType.int)) ∈ tg := tg_at 562 (by first | rfl | decide +kernel) (by first | rfl | decide +kernel)
set_option maxRecDepth 20000 in
theorem tw_529 : (Cond.methodLink RL (48 : Nat) yX4_steps) ∈ tg := tg_at 563 (by first | rfl | decide +kernel) (by first | rfl | decide +kernel)
set_option maxRecDepth 20000 in
theorem tw_530 : (Cond.instanceMethod yX4_steps) ∈ tg := tg_at 564 (by first | rfl | decide +kernel) (by first | rfl | decide +kernel)
set_option maxRecDepth 20000 in
theorem tw_531 : (Cond.selects RX4 yX4_steps yX4_steps) ∈ tg := tg_at 565 (by first | rfl | decide +kernel) (by first | rfl | decide +kernel)
set_option maxRecDepth 20000 in
theorem tw_532 : (Cond.code yX4_steps cX4_steps (2 : Nat) (Option.some FieldType.int)) ∈ tg := tg_at 566 (by first | rfl | decide +kernel) (by first | rfl | decide +kernel)
set_option maxRecDepth 20000 in
theorem tw_533 : (Cond.methodLink RL (35 : Nat) yX4_run) ∈ tg := tg_at 567 (by first | rfl | decide +kernel) (by first | rfl | decide +kernel)
set_option maxRecDepth 20000 in
theorem tw_534 : (Cond.instanceMethod yX4_run) ∈ tg := tg_at 568 (by first | rfl | decide +kernel) (by first | rfl | decide +kernel)
set_option maxRecDepth 20000 in
theorem tw_535 : (Cond.selects RX4 yX4_run yX4_run) ∈ tg := tg_at 569 (by first | rfl | decide +kernel) (by first | rfl | decide +kernel)
set_option maxRecDepth 20000 in
theorem tw_536 : (Cond.code yX4_run cX4_run (11 : Nat) (Option.some FieldType.int)) ∈ tg := tg_at 570 (by first | rfl | decide +kernel) (by first | rfl | decide +kernel)
set_option maxRecDepth 20000 in
theorem tw_537 : (Cond.methodLink RX4 (123 : Nat) yX4_isEnd) ∈ tg := tg_at 571 (by first | rfl | decide +kernel) (by first | rfl | decide +kernel)
set_option maxRecDepth 20000 in
theorem tw_538 : (Cond.static yX4_isEnd) ∈ tg := tg_at 572 (by first | rfl | decide +kernel) (by first | rfl | decide +kernel)
set_option maxRecDepth 20000 in
theorem tw_539 : (Cond.code yX4_isEnd cX4_isEnd (1 : Nat) (Option.some FieldType.boolean)) ∈ tg := tg_at 573 (by first | rfl | decide +kernel) (by first | rfl | decide +kernel)
set_option maxRecDepth 20000 in
theorem tw_540 : (Cond.methodLink RX4 (126 : Nat) yX4_prepare) ∈ tg := tg_at 574 (by first | rfl | decide +kernel) (by first | rfl | decide +kernel)
set_option maxRecDepth 20000 in
theorem tw_542 : (Cond.instanceMethod yX4_prepare) ∈ tg := tg_at 576 (by first | rfl | decide +kernel) (by first | rfl | decide +kernel)
set_option maxRecDepth 20000 in
theorem tw_543 : (Cond.code yX4_prepare cX4_prepare (7 : Nat) (Option.some FieldType.int)) ∈ tg := tg_at 577 (by first | rfl | decide +kernel) (by first | rfl | decide +kernel)
set_option maxRecDepth 20000 in
theorem tw_544 : (Cond.methodLink RX4 (110 : Nat) yX4_findNeeded) ∈ tg := tg_at 578 (by first | rfl | decide +kernel) (by first | rfl | decide +kernel)
set_option maxRecDepth 20000 in
theorem tw_546 : (Cond.instanceMethod yX4_findNeeded) ∈ tg := tg_at 580 (by first | rfl | decide +kernel) (by first | rfl | decide +kernel)
set_option maxRecDepth 20000 in
theorem tw_547 : (Cond.code yX4_findNeeded cX4_findNeeded (3 : Nat) (Option.none : Option FieldType)) ∈ tg := tg_at 581 (by first | rfl | decide +kernel) (by first | rfl | decide +kernel)
set_option maxRecDepth 20000 in
theorem tw_548 : (Cond.methodLink RX4 (113 : Nat) yX4_findGraph) ∈ tg := tg_at 582 (by first | rfl | decide +kernel) (by first | rfl | decide +kernel)
set_option maxRecDepth 20000 in
theorem tw_550 : (Cond.instanceMethod yX4_findGraph) ∈ tg := tg_at 584 (by first | rfl | decide +kernel) (by first | rfl | decide +kernel)
set_option maxRecDepth 20000 in
theorem tw_551 : (Cond.code yX4_findGraph cX4_findGraph (4 : Nat) (Option.none : Option FieldType)) ∈ tg := tg_at 585 (by first | rfl | decide +kernel) (by first | rfl | decide +kernel)
set_option maxRecDepth 20000 in
theorem tw_552 : (Cond.methodLink RX4 (116 : Nat) yX4_makeTable) ∈ tg := tg_at 586 (by first | rfl | decide +kernel) (by first | rfl | decide +kernel)
set_option maxRecDepth 20000 in
theorem tw_554 : (Cond.instanceMethod yX4_makeTable) ∈ tg := tg_at 588 (by first | rfl | decide +kernel) (by first | rfl | decide +kernel)
set_option maxRecDepth 20000 in
theorem tw_555 : (Cond.code yX4_makeTable cX4_makeTable (4 : Nat) (Option.none : Option FieldType)) ∈ tg := tg_at 589 (by first | rfl | decide +kernel) (by first | rfl | decide +kernel)
set_option maxRecDepth 20000 in
theorem tw_556 : (Cond.methodLink RX4 (99 : Nat) yX4_makeLinks) ∈ tg := tg_at 590 (by first | rfl | decide +kernel) (by first | rfl | decide +kernel)
set_option maxRecDepth 20000 in
theorem tw_558 : (Cond.instanceMethod yX4_makeLinks) ∈ tg := tg_at 592 (by first | rfl | decide +kernel) (by first | rfl | decide +kernel)
set_option maxRecDepth 20000 in
theorem tw_559 : (Cond.code yX4_makeLinks cX4_makeLinks (5 : Nat) (Option.none : Option FieldType)) ∈ tg := tg_at 593 (by first | rfl | decide +kernel) (by first | rfl | decide +kernel)
set_option maxRecDepth 20000 in
theorem tw_560 : (Cond.methodLink RX4 (84 : Nat) yX4_cell) ∈ tg := tg_at 594 (by first | rfl | decide +kernel) (by first | rfl | decide +kernel)
set_option maxRecDepth 20000 in
theorem tw_562 : (Cond.instanceMethod yX4_cell) ∈ tg := tg_at 596 (by first | rfl | decide +kernel) (by first | rfl | decide +kernel)
set_option maxRecDepth 20000 in
theorem tw_563 : (Cond.code yX4_cell cX4_cell (4 : Nat) (Option.some FieldType.int)) ∈ tg := tg_at 597 (by first | rfl | decide +kernel) (by first | rfl | decide +kernel)
set_option maxRecDepth 20000 in
theorem tw_564 : (Cond.methodLink RX4 (87 : Nat) yX4_put) ∈ tg := tg_at 598 (by first | rfl | decide +kernel) (by first | rfl | decide +kernel)
set_option maxRecDepth 20000 in
theorem tw_566 : (Cond.instanceMethod yX4_put) ∈ tg := tg_at 600 (by first | rfl | decide +kernel) (by first | rfl | decide +kernel)
set_option maxRecDepth 20000 in
theorem tw_567 : (Cond.code yX4_put cX4_put (6 : Nat) (Option.none : Option FieldType)) ∈ tg := tg_at 601 (by first | rfl | decide +kernel) (by first | rfl | decide +kernel)
set_option maxRecDepth 20000 in
theorem tw_568 : (Cond.constantLong RX4 (82 : Nat) (1000000 : Int64)) ∈ tg := tg_at 602 (by first | rfl | decide +kernel) (by first | rfl | decide +kernel)
set_option maxRecDepth 20000 in
theorem tw_569 : (Cond.methodLink RX4 (103 : Nat) yX4_makeWalks) ∈ tg := tg_at 603 (by first | rfl | decide +kernel) (by first | rfl | decide +kernel)
set_option maxRecDepth 20000 in
theorem tw_571 : (Cond.instanceMethod yX4_makeWalks) ∈ tg := tg_at 605 (by first | rfl | decide +kernel) (by first | rfl | decide +kernel)
set_option maxRecDepth 20000 in
theorem tw_572 : (Cond.code yX4_makeWalks cX4_makeWalks (6 : Nat) (Option.none : Option FieldType)) ∈ tg := tg_at 606 (by first | rfl | decide +kernel) (by first | rfl | decide +kernel)
set_option maxRecDepth 20000 in
theorem tw_573 : (Cond.methodLink RX4 (91 : Nat) yX4_walk) ∈ tg := tg_at 607 (by first | rfl | decide +kernel) (by first | rfl | decide +kernel)
set_option maxRecDepth 20000 in
theorem tw_575 : (Cond.instanceMethod yX4_walk) ∈ tg := tg_at 609 (by first | rfl | decide +kernel) (by first | rfl | decide +kernel)
set_option maxRecDepth 20000 in
theorem tw_576 : (Cond.code yX4_walk cX4_walk (7 : Nat) (Option.none : Option FieldType)) ∈ tg := tg_at 610 (by first | rfl | decide +kernel) (by first | rfl | decide +kernel)
set_option maxRecDepth 20000 in
theorem tw_577 : (Cond.methodLink RX4 (106 : Nat) yX4_joined) ∈ tg := tg_at 611 (by first | rfl | decide +kernel) (by first | rfl | decide +kernel)
set_option maxRecDepth 20000 in
theorem tw_579 : (Cond.instanceMethod yX4_joined) ∈ tg := tg_at 613 (by first | rfl | decide +kernel) (by first | rfl | decide +kernel)
set_option maxRecDepth 20000 in
theorem tw_580 : (Cond.code yX4_joined cX4_joined (9 : Nat) (Option.some FieldType.long)) ∈ tg := tg_at 614 (by first | rfl | decide +kernel) (by first | rfl | decide +kernel)
set_option maxRecDepth 20000 in
theorem tw_581 : (Cond.methodLink RX4 (119 : Nat) yX4_fits) ∈ tg := tg_at 615 (by first | rfl | decide +kernel) (by first | rfl | decide +kernel)
set_option maxRecDepth 20000 in
theorem tw_582 : (Cond.static yX4_fits) ∈ tg := tg_at 616 (by first | rfl | decide +kernel) (by first | rfl | decide +kernel)
set_option maxRecDepth 20000 in
theorem tw_583 : (Cond.code yX4_fits cX4_fits (4 : Nat) (Option.some FieldType.boolean)) ∈ tg := tg_at 617 (by first | rfl | decide +kernel) (by first | rfl | decide +kernel)
set_option maxRecDepth 20000 in
theorem tw_584 : (Cond.methodLink RL (44 : Nat) yX4_plain) ∈ tg := tg_at 618 (by first | rfl | decide +kernel) (by first | rfl | decide +kernel)
set_option maxRecDepth 20000 in
theorem tw_585 : (Cond.instanceMethod yX4_plain) ∈ tg := tg_at 619 (by first | rfl | decide +kernel) (by first | rfl | decide +kernel)
set_option maxRecDepth 20000 in
theorem tw_586 : (Cond.selects RX4 yX4_plain yX4_plain) ∈ tg := tg_at 620 (by first | rfl | decide +kernel) (by first | rfl | decide +kernel)
set_option maxRecDepth 20000 in
theorem tw_587 : (Cond.code yX4_plain cX4_plain (4 : Nat) (Option.some FieldType.int)) ∈ tg := tg_at 621 (by first | rfl | decide +kernel) (by first | rfl | decide +kernel)
set_option maxRecDepth 20000 in
theorem tw_588 : (Cond.methodLink RL (40 : Nat) yX4_at) ∈ tg := tg_at 622 (by first | rfl | decide +kernel) (by first | rfl | decide +kernel)
set_option maxRecDepth 20000 in
theorem tw_589 : (Cond.instanceMethod yX4_at) ∈ tg := tg_at 623 (by first | rfl | decide +kernel) (by first | rfl | decide +kernel)
set_option maxRecDepth 20000 in
theorem tw_590 : (Cond.selects RX4 yX4_at yX4_at) ∈ tg := tg_at 624 (by first | rfl | decide +kernel) (by first | rfl | decide +kernel)
set_option maxRecDepth 20000 in
theorem tw_591 : (Cond.code yX4_at cX4_at (3 : Nat) (Option.some FieldType.int)) ∈ tg := tg_at 625 (by first | rfl | decide +kernel) (by first | rfl | decide +kernel)
set_option maxRecDepth 20000 in
theorem tw_592 : (Cond.methodLink RX4 (135 : Nat) yX4_isRow) ∈ tg := tg_at 626 (by first | rfl | decide +kernel) (by first | rfl | decide +kernel)
set_option maxRecDepth 20000 in
theorem tw_594 : (Cond.instanceMethod yX4_isRow) ∈ tg := tg_at 628 (by first | rfl | decide +kernel) (by first | rfl | decide +kernel)
set_option maxRecDepth 20000 in
theorem tw_595 : (Cond.code yX4_isRow cX4_isRow (2 : Nat) (Option.some FieldType.boolean)) ∈ tg := tg_at 629 (by first | rfl | decide +kernel) (by first | rfl | decide +kernel)
set_option maxRecDepth 20000 in
theorem tw_596 : (Cond.methodLink RL (53 : Nat) yX4_cycle) ∈ tg := tg_at 630 (by first | rfl | decide +kernel) (by first | rfl | decide +kernel)
set_option maxRecDepth 20000 in
theorem tw_597 : (Cond.instanceMethod yX4_cycle) ∈ tg := tg_at 631 (by first | rfl | decide +kernel) (by first | rfl | decide +kernel)
set_option maxRecDepth 20000 in
theorem tw_598 : (Cond.selects RX4 yX4_cycle yX4_cycle) ∈ tg := tg_at 632 (by first | rfl | decide +kernel) (by first | rfl | decide +kernel)
set_option maxRecDepth 20000 in
theorem tw_599 : (Cond.code yX4_cycle cX4_cycle (2 : Nat) (Option.some FieldType.boolean)) ∈ tg := tg_at 633 (by first | rfl | decide +kernel) (by first | rfl | decide +kernel)
set_option maxRecDepth 20000 in
theorem tw_600 : (Cond.methodLink RL (59 : Nat) yX4_depth) ∈ tg := tg_at 634 (by first | rfl | decide +kernel) (by first | rfl | decide +kernel)
set_option maxRecDepth 20000 in
theorem tw_601 : (Cond.instanceMethod yX4_depth) ∈ tg := tg_at 635 (by first | rfl | decide +kernel) (by first | rfl | decide +kernel)
set_option maxRecDepth 20000 in
theorem tw_602 : (Cond.selects RX4 yX4_depth yX4_depth) ∈ tg := tg_at 636 (by first | rfl | decide +kernel) (by first | rfl | decide +kernel)
set_option maxRecDepth 20000 in
theorem tw_603 : (Cond.code yX4_depth cX4_depth (2 : Nat) (Option.some FieldType.int)) ∈ tg := tg_at 637 (by first | rfl | decide +kernel) (by first | rfl | decide +kernel)
set_option maxRecDepth 20000 in
theorem tw_604 : (Cond.arrayClass FieldType.long) ∈ tg := tg_at 638 (by first | rfl | decide +kernel) (by first | rfl | decide +kernel)
set_option maxRecDepth 20000 in
theorem tw_605 : (Cond.sameMethod "java/lang/Throwable" "java/lang/Throwable" "fillInStackTrace" "(I)Ljava/lang/Throwable;") ∈ tg := tg_at 639 (by first | rfl | decide +kernel) (by first | rfl | decide +kernel)
theorem tp_0 : Cond.selects RX3 yX3_keepPath yX3_keepPath ∈ tg := tg_at 0 (by first | rfl | decide +kernel) (by first | rfl | decide +kernel)
theorem tp_1 : Cond.selects RX3 yX3_known yX3_known ∈ tg := tg_at 1 (by first | rfl | decide +kernel) (by first | rfl | decide +kernel)
theorem tp_2 : Cond.selects RX3 yX3_keepOverTwo yX3_keepOverTwo ∈ tg := tg_at 2 (by first | rfl | decide +kernel) (by first | rfl | decide +kernel)
theorem tp_3 : Cond.selects RX3 yX3_keepOverOne yX3_keepOverOne ∈ tg := tg_at 3 (by first | rfl | decide +kernel) (by first | rfl | decide +kernel)
theorem tp_4 : Cond.selects RX3 yX3_countParts yX3_countParts ∈ tg := tg_at 4 (by first | rfl | decide +kernel) (by first | rfl | decide +kernel)
theorem tp_5 : Cond.selects RX0 yX0_forget yX0_forget ∈ tg := tg_at 5 (by first | rfl | decide +kernel) (by first | rfl | decide +kernel)
theorem tp_6 : Cond.selects RX0 yX0_countLinks yX0_countLinks ∈ tg := tg_at 6 (by first | rfl | decide +kernel) (by first | rfl | decide +kernel)
theorem tp_7 : Cond.selects RX0 yX0_addTimes yX0_addTimes ∈ tg := tg_at 7 (by first | rfl | decide +kernel) (by first | rfl | decide +kernel)
theorem tp_8 : Cond.selects RX0 yX0_countOverOne yX0_countOverOne ∈ tg := tg_at 8 (by first | rfl | decide +kernel) (by first | rfl | decide +kernel)
theorem tp_9 : Cond.selects RX0 yX0_countTurned yX0_countTurned ∈ tg := tg_at 9 (by first | rfl | decide +kernel) (by first | rfl | decide +kernel)
theorem tp_10 : Cond.selects RX0 yX0_joinByStep yX0_joinByStep ∈ tg := tg_at 10 (by first | rfl | decide +kernel) (by first | rfl | decide +kernel)
theorem tp_11 : Cond.selects RX0 yX0_joinOnwards yX0_joinOnwards ∈ tg := tg_at 11 (by first | rfl | decide +kernel) (by first | rfl | decide +kernel)
theorem tp_12 : Cond.selects RX0 yX0_joinSelves yX0_joinSelves ∈ tg := tg_at 12 (by first | rfl | decide +kernel) (by first | rfl | decide +kernel)
theorem tp_13 : Cond.selects RX0 yX0_countJoinedOnce yX0_countJoinedOnce ∈ tg := tg_at 13 (by first | rfl | decide +kernel) (by first | rfl | decide +kernel)
theorem tp_14 : Cond.selects RX0 yX0_countOverTwo yX0_countOverTwo ∈ tg := tg_at 14 (by first | rfl | decide +kernel) (by first | rfl | decide +kernel)
theorem tp_15 : Cond.selects RX0 yX0_countAll yX0_countAll ∈ tg := tg_at 15 (by first | rfl | decide +kernel) (by first | rfl | decide +kernel)
theorem tp_16 : Cond.selects RX0 yX0_countBehind yX0_countBehind ∈ tg := tg_at 16 (by first | rfl | decide +kernel) (by first | rfl | decide +kernel)
theorem tp_17 : Cond.selects RX0 yX0_addBehind yX0_addBehind ∈ tg := tg_at 17 (by first | rfl | decide +kernel) (by first | rfl | decide +kernel)
theorem tp_18 : Cond.selects RX3 yX3_goesBeyond yX3_goesBeyond ∈ tg := tg_at 18 (by first | rfl | decide +kernel) (by first | rfl | decide +kernel)
theorem tp_19 : Cond.selects RX3 yX3_keepRows yX3_keepRows ∈ tg := tg_at 19 (by first | rfl | decide +kernel) (by first | rfl | decide +kernel)
theorem tp_20 : Cond.selects "java/lang/Throwable" (⟨"java/lang/Throwable", "fillInStackTrace", "(I)Ljava/lang/Throwable;"⟩ : MethodName) (⟨"java/lang/Throwable", "fillInStackTrace", "(I)Ljava/lang/Throwable;"⟩ : MethodName) ∈ tg := tg_at 20 (by first | rfl | decide +kernel) (by first | rfl | decide +kernel)
theorem tp_21 : Cond.selects RX4 yX4_isPath yX4_isPath ∈ tg := tg_at 21 (by first | rfl | decide +kernel) (by first | rfl | decide +kernel)
theorem tp_22 : Cond.selects RX4 yX4_made yX4_made ∈ tg := tg_at 22 (by first | rfl | decide +kernel) (by first | rfl | decide +kernel)
theorem tp_23 : Cond.selects RX4 yX4_prepare yX4_prepare ∈ tg := tg_at 23 (by first | rfl | decide +kernel) (by first | rfl | decide +kernel)
theorem tp_24 : Cond.selects RX4 yX4_findNeeded yX4_findNeeded ∈ tg := tg_at 24 (by first | rfl | decide +kernel) (by first | rfl | decide +kernel)
theorem tp_25 : Cond.selects RX4 yX4_findGraph yX4_findGraph ∈ tg := tg_at 25 (by first | rfl | decide +kernel) (by first | rfl | decide +kernel)
theorem tp_26 : Cond.selects RX4 yX4_makeTable yX4_makeTable ∈ tg := tg_at 26 (by first | rfl | decide +kernel) (by first | rfl | decide +kernel)
theorem tp_27 : Cond.selects RX4 yX4_makeLinks yX4_makeLinks ∈ tg := tg_at 27 (by first | rfl | decide +kernel) (by first | rfl | decide +kernel)
theorem tp_28 : Cond.selects RX4 yX4_cell yX4_cell ∈ tg := tg_at 28 (by first | rfl | decide +kernel) (by first | rfl | decide +kernel)
theorem tp_29 : Cond.selects RX4 yX4_put yX4_put ∈ tg := tg_at 29 (by first | rfl | decide +kernel) (by first | rfl | decide +kernel)
theorem tp_30 : Cond.selects RX4 yX4_makeWalks yX4_makeWalks ∈ tg := tg_at 30 (by first | rfl | decide +kernel) (by first | rfl | decide +kernel)
theorem tp_31 : Cond.selects RX4 yX4_walk yX4_walk ∈ tg := tg_at 31 (by first | rfl | decide +kernel) (by first | rfl | decide +kernel)
theorem tp_32 : Cond.selects RX4 yX4_joined yX4_joined ∈ tg := tg_at 32 (by first | rfl | decide +kernel) (by first | rfl | decide +kernel)
theorem tp_33 : Cond.selects RX4 yX4_isRow yX4_isRow ∈ tg := tg_at 33 (by first | rfl | decide +kernel) (by first | rfl | decide +kernel)
