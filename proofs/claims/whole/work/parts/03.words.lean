def tg : List Cond := lw_tbl.filter goodWord
theorem tg_at {w : Cond} (i : Nat) (h : lw_tbl[i]? = some w) (hg : goodWord w = true) : w ∈ tg := List.mem_filter.mpr ⟨List.mem_of_getElem? h, hg⟩
theorem tg_in : ∀ w ∈ tg, w ∈ lw_tbl := fun w h => (List.mem_filter.mp h).1
/-- every word list that is a method's code and tg: good among any other such -/
theorem tg_good {x w : Cond} (h : w ∈ tg) : GoodIn (x :: tg) (w :: tg) := fun v hv => (List.mem_cons.mp hv).elim (fun e => by rw [e]; exact ⟨List.mem_cons_of_mem _ h, good_of_word (List.mem_filter.mp h).2⟩) (fun e => ⟨List.mem_cons_of_mem _ e, good_of_word (List.mem_filter.mp e).2⟩)
theorem tg_law {w : Cond} (h : w ∈ tg) : GoodIn lw_tbl (w :: tg) := fun v hv => (List.mem_cons.mp hv).elim (fun e => by rw [e]; exact ⟨tg_in _ h, good_of_word (List.mem_filter.mp h).2⟩) (fun e => ⟨tg_in _ e, good_of_word (List.mem_filter.mp e).2⟩)
set_option maxRecDepth 20000 in
theorem tw_0 : (Cond.initialized RL) ∈ tg := tg_at 34 (by first | rfl | decide +kernel) (by first | rfl | decide +kernel)
set_option maxRecDepth 20000 in
theorem tw_1 : (Cond.initialized RX3) ∈ tg := tg_at 35 (by first | rfl | decide +kernel) (by first | rfl | decide +kernel)
set_option maxRecDepth 20000 in
theorem tw_2 : (Cond.initialized RX2) ∈ tg := tg_at 36 (by first | rfl | decide +kernel) (by first | rfl | decide +kernel)
set_option maxRecDepth 20000 in
theorem tw_3 : (Cond.initialized RX1) ∈ tg := tg_at 37 (by first | rfl | decide +kernel) (by first | rfl | decide +kernel)
set_option maxRecDepth 20000 in
theorem tw_4 : (Cond.initialized RX4) ∈ tg := tg_at 38 (by first | rfl | decide +kernel) (by first | rfl | decide +kernel)
set_option maxRecDepth 20000 in
theorem tw_5 : (Cond.initialized RX0) ∈ tg := tg_at 39 (by first | rfl | decide +kernel) (by first | rfl | decide +kernel)
set_option maxRecDepth 20000 in
theorem tw_6 : (Cond.initialized RJ6) ∈ tg := tg_at 40 (by first | rfl | decide +kernel) (by first | rfl | decide +kernel)
set_option maxRecDepth 20000 in
theorem tw_7 : (Cond.initialized "java/lang/Throwable") ∈ tg := tg_at 41 (by first | rfl | decide +kernel) (by first | rfl | decide +kernel)
set_option maxRecDepth 20000 in
theorem tw_8 : (Cond.initialized "java/lang/Exception") ∈ tg := tg_at 42 (by first | rfl | decide +kernel) (by first | rfl | decide +kernel)
set_option maxRecDepth 20000 in
theorem tw_9 : (Cond.initialized "java/lang/RuntimeException") ∈ tg := tg_at 43 (by first | rfl | decide +kernel) (by first | rfl | decide +kernel)
set_option maxRecDepth 20000 in
theorem tw_10 : (Cond.initialized "java/lang/IndexOutOfBoundsException") ∈ tg := tg_at 44 (by first | rfl | decide +kernel) (by first | rfl | decide +kernel)
set_option maxRecDepth 20000 in
theorem tw_11 : (Cond.initialized RJx00060) ∈ tg := tg_at 45 (by first | rfl | decide +kernel) (by first | rfl | decide +kernel)
set_option maxRecDepth 20000 in
theorem tw_12 : (Cond.classLink RL (8 : Nat) RX3) ∈ tg := tg_at 46 (by first | rfl | decide +kernel) (by first | rfl | decide +kernel)
set_option maxRecDepth 20000 in
theorem tw_13 : (Cond.instantiable RX3 (6 : Nat)) ∈ tg := tg_at 47 (by first | rfl | decide +kernel) (by first | rfl | decide +kernel)
set_option maxRecDepth 20000 in
theorem tw_14 : (Cond.methodLink RL (15 : Nat) yX3_init) ∈ tg := tg_at 48 (by first | rfl | decide +kernel) (by first | rfl | decide +kernel)
set_option maxRecDepth 20000 in
theorem tw_15 : (Cond.instanceMethod yX3_init) ∈ tg := tg_at 49 (by first | rfl | decide +kernel) (by first | rfl | decide +kernel)
set_option maxRecDepth 20000 in
theorem tw_16 : (Cond.code yX3_init cX3_init (1 : Nat) (Option.none : Option FieldType)) ∈ tg := tg_at 50 (by first | rfl | decide +kernel) (by first | rfl | decide +kernel)
set_option maxRecDepth 20000 in
theorem tw_17 : (Cond.methodLink RX3 (3 : Nat) objectInit) ∈ tg := tg_at 51 (by first | rfl | decide +kernel) (by first | rfl | decide +kernel)
set_option maxRecDepth 20000 in
theorem tw_18 : (Cond.instanceMethod objectInit) ∈ tg := tg_at 52 (by first | rfl | decide +kernel) (by first | rfl | decide +kernel)
set_option maxRecDepth 20000 in
theorem tw_19 : (Cond.code objectInit object_method_1_code (1 : Nat) (Option.none : Option FieldType)) ∈ tg := tg_at 53 (by first | rfl | decide +kernel) (by first | rfl | decide +kernel)
set_option maxRecDepth 20000 in
theorem tw_20 : (Cond.classLink RX3 (9 : Nat) RX2) ∈ tg := tg_at 54 (by first | rfl | decide +kernel) (by first | rfl | decide +kernel)
set_option maxRecDepth 20000 in
theorem tw_21 : (Cond.instantiable RX2 (3 : Nat)) ∈ tg := tg_at 55 (by first | rfl | decide +kernel) (by first | rfl | decide +kernel)
set_option maxRecDepth 20000 in
theorem tw_22 : (Cond.methodLink RX3 (11 : Nat) yX2_init) ∈ tg := tg_at 56 (by first | rfl | decide +kernel) (by first | rfl | decide +kernel)
set_option maxRecDepth 20000 in
theorem tw_23 : (Cond.instanceMethod yX2_init) ∈ tg := tg_at 57 (by first | rfl | decide +kernel) (by first | rfl | decide +kernel)
set_option maxRecDepth 20000 in
theorem tw_24 : (Cond.code yX2_init cX2_init (1 : Nat) (Option.none : Option FieldType)) ∈ tg := tg_at 58 (by first | rfl | decide +kernel) (by first | rfl | decide +kernel)
set_option maxRecDepth 20000 in
theorem tw_25 : (Cond.methodLink RX2 (3 : Nat) objectInit) ∈ tg := tg_at 59 (by first | rfl | decide +kernel) (by first | rfl | decide +kernel)
set_option maxRecDepth 20000 in
theorem tw_26 : (Cond.fieldLink RX2 (9 : Nat) "PathSteps$Triples" "links" "[I") ∈ tg := tg_at 60 (by first | rfl | decide +kernel) (by first | rfl | decide +kernel)
set_option maxRecDepth 20000 in
theorem tw_27 : (Cond.fieldLink RX0 (84 : Nat) "PathSteps$Triples" "links" "[I") ∈ tg := tg_at 61 (by first | rfl | decide +kernel) (by first | rfl | decide +kernel)
set_option maxRecDepth 20000 in
theorem tw_28 : (Cond.fieldLink RX2 (15 : Nat) "PathSteps$Triples" "nodes" "I") ∈ tg := tg_at 62 (by first | rfl | decide +kernel) (by first | rfl | decide +kernel)
set_option maxRecDepth 20000 in
theorem tw_29 : (Cond.fieldLink RX3 (122 : Nat) "PathSteps$Triples" "nodes" "I") ∈ tg := tg_at 63 (by first | rfl | decide +kernel) (by first | rfl | decide +kernel)
set_option maxRecDepth 20000 in
theorem tw_30 : (Cond.fieldLink RX2 (19 : Nat) "PathSteps$Triples" "size" "I") ∈ tg := tg_at 64 (by first | rfl | decide +kernel) (by first | rfl | decide +kernel)
set_option maxRecDepth 20000 in
theorem tw_31 : (Cond.fieldLink RX3 (51 : Nat) "PathSteps$Triples" "size" "I") ∈ tg := tg_at 65 (by first | rfl | decide +kernel) (by first | rfl | decide +kernel)
set_option maxRecDepth 20000 in
theorem tw_32 : (Cond.fieldLink RX0 (61 : Nat) "PathSteps$Triples" "size" "I") ∈ tg := tg_at 66 (by first | rfl | decide +kernel) (by first | rfl | decide +kernel)
set_option maxRecDepth 20000 in
theorem tw_33 : (Cond.laysFinal RX2 "PathSteps$Triples" "links" "[I") ∈ tg := tg_at 67 (by first | rfl | decide +kernel) (by first | rfl | decide +kernel)
set_option maxRecDepth 20000 in
theorem tw_35 : (Cond.lays RX2 "PathSteps$Triples" "nodes" "I") ∈ tg := tg_at 69 (by first | rfl | decide +kernel) (by first | rfl | decide +kernel)
set_option maxRecDepth 20000 in
theorem tw_37 : (Cond.lays RX2 "PathSteps$Triples" "size" "I") ∈ tg := tg_at 71 (by first | rfl | decide +kernel) (by first | rfl | decide +kernel)
set_option maxRecDepth 20000 in
theorem tw_39 : (Cond.superclass "PathSteps$Triples" "java/lang/Object") ∈ tg := tg_at 73 (by first | rfl | decide +kernel) (by first | rfl | decide +kernel)
set_option maxRecDepth 20000 in
theorem tw_40 : (Cond.arrayClass FieldType.int) ∈ tg := tg_at 74 (by first | rfl | decide +kernel) (by first | rfl | decide +kernel)
set_option maxRecDepth 20000 in
theorem tw_41 : (Cond.classLink RX3 (16 : Nat) RX0) ∈ tg := tg_at 75 (by first | rfl | decide +kernel) (by first | rfl | decide +kernel)
set_option maxRecDepth 20000 in
theorem tn_42 : (Cond.arrayOver (FieldType.object "PathSteps$Path")) ∈ lw_tbl := List.mem_of_getElem? (i := 76) (by first | rfl | decide +kernel)
set_option maxRecDepth 20000 in
theorem tw_43 : (Cond.classLink RX3 (22 : Nat) RX1) ∈ tg := tg_at 77 (by first | rfl | decide +kernel) (by first | rfl | decide +kernel)
set_option maxRecDepth 20000 in
theorem tw_44 : (Cond.instantiable RX1 (5 : Nat)) ∈ tg := tg_at 78 (by first | rfl | decide +kernel) (by first | rfl | decide +kernel)
set_option maxRecDepth 20000 in
theorem tw_45 : (Cond.methodLink RX3 (24 : Nat) yX1_init) ∈ tg := tg_at 79 (by first | rfl | decide +kernel) (by first | rfl | decide +kernel)
set_option maxRecDepth 20000 in
theorem tw_46 : (Cond.instanceMethod yX1_init) ∈ tg := tg_at 80 (by first | rfl | decide +kernel) (by first | rfl | decide +kernel)
set_option maxRecDepth 20000 in
theorem tw_47 : (Cond.code yX1_init cX1_init (1 : Nat) (Option.none : Option FieldType)) ∈ tg := tg_at 81 (by first | rfl | decide +kernel) (by first | rfl | decide +kernel)
set_option maxRecDepth 20000 in
theorem tw_48 : (Cond.methodLink RX1 (3 : Nat) objectInit) ∈ tg := tg_at 82 (by first | rfl | decide +kernel) (by first | rfl | decide +kernel)
set_option maxRecDepth 20000 in
theorem tw_49 : (Cond.fieldLink RX1 (9 : Nat) "PathSteps$Rows" "firsts" "[I") ∈ tg := tg_at 83 (by first | rfl | decide +kernel) (by first | rfl | decide +kernel)
set_option maxRecDepth 20000 in
theorem tw_50 : (Cond.fieldLink RX3 (102 : Nat) "PathSteps$Rows" "firsts" "[I") ∈ tg := tg_at 84 (by first | rfl | decide +kernel) (by first | rfl | decide +kernel)
set_option maxRecDepth 20000 in
theorem tw_51 : (Cond.fieldLink RX1 (15 : Nat) "PathSteps$Rows" "seconds" "[I") ∈ tg := tg_at 85 (by first | rfl | decide +kernel) (by first | rfl | decide +kernel)
set_option maxRecDepth 20000 in
theorem tw_52 : (Cond.fieldLink RX3 (105 : Nat) "PathSteps$Rows" "seconds" "[I") ∈ tg := tg_at 86 (by first | rfl | decide +kernel) (by first | rfl | decide +kernel)
set_option maxRecDepth 20000 in
theorem tw_53 : (Cond.fieldLink RX1 (18 : Nat) "PathSteps$Rows" "depths" "[I") ∈ tg := tg_at 87 (by first | rfl | decide +kernel) (by first | rfl | decide +kernel)
set_option maxRecDepth 20000 in
theorem tw_54 : (Cond.fieldLink RX3 (115 : Nat) "PathSteps$Rows" "depths" "[I") ∈ tg := tg_at 88 (by first | rfl | decide +kernel) (by first | rfl | decide +kernel)
set_option maxRecDepth 20000 in
theorem tw_55 : (Cond.fieldLink RX1 (21 : Nat) "PathSteps$Rows" "size" "I") ∈ tg := tg_at 89 (by first | rfl | decide +kernel) (by first | rfl | decide +kernel)
set_option maxRecDepth 20000 in
theorem tw_56 : (Cond.fieldLink RX1 (25 : Nat) "PathSteps$Rows" "wereRun" "Z") ∈ tg := tg_at 90 (by first | rfl | decide +kernel) (by first | rfl | decide +kernel)
set_option maxRecDepth 20000 in
theorem tw_57 : (Cond.fieldLink RX3 (96 : Nat) "PathSteps$Rows" "wereRun" "Z") ∈ tg := tg_at 91 (by first | rfl | decide +kernel) (by first | rfl | decide +kernel)
set_option maxRecDepth 20000 in
theorem tw_58 : (Cond.laysFinal RX1 "PathSteps$Rows" "firsts" "[I") ∈ tg := tg_at 92 (by first | rfl | decide +kernel) (by first | rfl | decide +kernel)
set_option maxRecDepth 20000 in
theorem tw_60 : (Cond.laysFinal RX1 "PathSteps$Rows" "seconds" "[I") ∈ tg := tg_at 94 (by first | rfl | decide +kernel) (by first | rfl | decide +kernel)
set_option maxRecDepth 20000 in
theorem tw_62 : (Cond.laysFinal RX1 "PathSteps$Rows" "depths" "[I") ∈ tg := tg_at 96 (by first | rfl | decide +kernel) (by first | rfl | decide +kernel)
set_option maxRecDepth 20000 in
theorem tw_64 : (Cond.lays RX1 "PathSteps$Rows" "size" "I") ∈ tg := tg_at 98 (by first | rfl | decide +kernel) (by first | rfl | decide +kernel)
set_option maxRecDepth 20000 in
theorem tw_66 : (Cond.lays RX1 "PathSteps$Rows" "wereRun" "Z") ∈ tg := tg_at 100 (by first | rfl | decide +kernel) (by first | rfl | decide +kernel)
set_option maxRecDepth 20000 in
theorem tw_68 : (Cond.superclass "PathSteps$Rows" "java/lang/Object") ∈ tg := tg_at 102 (by first | rfl | decide +kernel) (by first | rfl | decide +kernel)
set_option maxRecDepth 20000 in
theorem tw_69 : (Cond.fieldLink RX3 (12 : Nat) "PathSteps" "triples" "LPathSteps$Triples;") ∈ tg := tg_at 103 (by first | rfl | decide +kernel) (by first | rfl | decide +kernel)
set_option maxRecDepth 20000 in
theorem tw_70 : (Cond.fieldLink RX3 (18 : Nat) "PathSteps" "paths" "[LPathSteps$Path;") ∈ tg := tg_at 104 (by first | rfl | decide +kernel) (by first | rfl | decide +kernel)
set_option maxRecDepth 20000 in
theorem tw_71 : (Cond.fieldLink RX3 (25 : Nat) "PathSteps" "rows" "LPathSteps$Rows;") ∈ tg := tg_at 105 (by first | rfl | decide +kernel) (by first | rfl | decide +kernel)
set_option maxRecDepth 20000 in
theorem tw_72 : (Cond.fieldLink RX3 (29 : Nat) "PathSteps" "levels" "[I") ∈ tg := tg_at 106 (by first | rfl | decide +kernel) (by first | rfl | decide +kernel)
set_option maxRecDepth 20000 in
theorem tw_73 : (Cond.fieldLink RX3 (33 : Nat) "PathSteps" "pathCount" "I") ∈ tg := tg_at 107 (by first | rfl | decide +kernel) (by first | rfl | decide +kernel)
set_option maxRecDepth 20000 in
theorem tw_74 : (Cond.fieldLink RX3 (37 : Nat) "PathSteps" "most" "I") ∈ tg := tg_at 108 (by first | rfl | decide +kernel) (by first | rfl | decide +kernel)
set_option maxRecDepth 20000 in
theorem tw_75 : (Cond.laysFinal RX3 "PathSteps" "triples" "LPathSteps$Triples;") ∈ tg := tg_at 109 (by first | rfl | decide +kernel) (by first | rfl | decide +kernel)
set_option maxRecDepth 20000 in
theorem tw_77 : (Cond.laysFinal RX3 "PathSteps" "paths" "[LPathSteps$Path;") ∈ tg := tg_at 111 (by first | rfl | decide +kernel) (by first | rfl | decide +kernel)
set_option maxRecDepth 20000 in
theorem tw_79 : (Cond.laysFinal RX3 "PathSteps" "rows" "LPathSteps$Rows;") ∈ tg := tg_at 113 (by first | rfl | decide +kernel) (by first | rfl | decide +kernel)
set_option maxRecDepth 20000 in
theorem tw_81 : (Cond.laysFinal RX3 "PathSteps" "levels" "[I") ∈ tg := tg_at 115 (by first | rfl | decide +kernel) (by first | rfl | decide +kernel)
set_option maxRecDepth 20000 in
theorem tw_83 : (Cond.lays RX3 "PathSteps" "pathCount" "I") ∈ tg := tg_at 117 (by first | rfl | decide +kernel) (by first | rfl | decide +kernel)
set_option maxRecDepth 20000 in
theorem tw_85 : (Cond.lays RX3 "PathSteps" "most" "I") ∈ tg := tg_at 119 (by first | rfl | decide +kernel) (by first | rfl | decide +kernel)
set_option maxRecDepth 20000 in
theorem tw_87 : (Cond.superclass "PathSteps" "java/lang/Object") ∈ tg := tg_at 121 (by first | rfl | decide +kernel) (by first | rfl | decide +kernel)
set_option maxRecDepth 20000 in
theorem tw_88 : (Cond.methodLink RL (19 : Nat) yX3_triple) ∈ tg := tg_at 122 (by first | rfl | decide +kernel) (by first | rfl | decide +kernel)
set_option maxRecDepth 20000 in
theorem tw_89 : (Cond.instanceMethod yX3_triple) ∈ tg := tg_at 123 (by first | rfl | decide +kernel) (by first | rfl | decide +kernel)
set_option maxRecDepth 20000 in
theorem tw_90 : (Cond.selects RX3 yX3_triple yX3_triple) ∈ tg := tg_at 124 (by first | rfl | decide +kernel) (by first | rfl | decide +kernel)
set_option maxRecDepth 20000 in
theorem tw_91 : (Cond.code yX3_triple cX3_triple (4 : Nat) (Option.some FieldType.int)) ∈ tg := tg_at 125 (by first | rfl | decide +kernel) (by first | rfl | decide +kernel)
set_option maxRecDepth 20000 in
theorem tw_92 : (Cond.methodLink RX3 (40 : Nat) yX3_isNode) ∈ tg := tg_at 126 (by first | rfl | decide +kernel) (by first | rfl | decide +kernel)
set_option maxRecDepth 20000 in
theorem tw_93 : (Cond.static yX3_isNode) ∈ tg := tg_at 127 (by first | rfl | decide +kernel) (by first | rfl | decide +kernel)
set_option maxRecDepth 20000 in
theorem tw_94 : (Cond.code yX3_isNode cX3_isNode (1 : Nat) (Option.some FieldType.boolean)) ∈ tg := tg_at 128 (by first | rfl | decide +kernel) (by first | rfl | decide +kernel)
set_option maxRecDepth 20000 in
theorem tw_95 : (Cond.methodLink RX3 (44 : Nat) yX3_isPredicate) ∈ tg := tg_at 129 (by first | rfl | decide +kernel) (by first | rfl | decide +kernel)
set_option maxRecDepth 20000 in
theorem tw_96 : (Cond.static yX3_isPredicate) ∈ tg := tg_at 130 (by first | rfl | decide +kernel) (by first | rfl | decide +kernel)
set_option maxRecDepth 20000 in
theorem tw_97 : (Cond.code yX3_isPredicate cX3_isPredicate (1 : Nat) (Option.some FieldType.boolean)) ∈ tg := tg_at 131 (by first | rfl | decide +kernel) (by first | rfl | decide +kernel)
set_option maxRecDepth 20000 in
theorem tw_98 : (Cond.methodLink RX3 (47 : Nat) yX2_has) ∈ tg := tg_at 132 (by first | rfl | decide +kernel) (by first | rfl | decide +kernel)
set_option maxRecDepth 20000 in
theorem tw_99 : (Cond.instanceMethod yX2_has) ∈ tg := tg_at 133 (by first | rfl | decide +kernel) (by first | rfl | decide +kernel)
set_option maxRecDepth 20000 in
theorem tw_100 : (Cond.selects RX2 yX2_has yX2_has) ∈ tg := tg_at 134 (by first | rfl | decide +kernel) (by first | rfl | decide +kernel)
set_option maxRecDepth 20000 in
theorem tw_101 : (Cond.code yX2_has cX2_has (4 : Nat) (Option.some FieldType.boolean)) ∈ tg := tg_at 135 (by first | rfl | decide +kernel) (by first | rfl | decide +kernel)
set_option maxRecDepth 20000 in
theorem tn_102 : (Cond.methodLinkNest RX2 (22 : Nat) yX3_holds "PathSteps") ∈ lw_tbl := List.mem_of_getElem? (i := 136) (by first | rfl | decide +kernel)
set_option maxRecDepth 20000 in
theorem tw_103 : (Cond.static yX3_holds) ∈ tg := tg_at 137 (by first | rfl | decide +kernel) (by first | rfl | decide +kernel)
set_option maxRecDepth 20000 in
theorem tw_104 : (Cond.code yX3_holds cX3_holds (2 : Nat) (Option.some FieldType.boolean)) ∈ tg := tg_at 138 (by first | rfl | decide +kernel) (by first | rfl | decide +kernel)
set_option maxRecDepth 20000 in
theorem tw_105 : (Cond.methodLink RX3 (54 : Nat) yX2_add) ∈ tg := tg_at 139 (by first | rfl | decide +kernel) (by first | rfl | decide +kernel)
set_option maxRecDepth 20000 in
theorem tw_106 : (Cond.instanceMethod yX2_add) ∈ tg := tg_at 140 (by first | rfl | decide +kernel) (by first | rfl | decide +kernel)
set_option maxRecDepth 20000 in
theorem tw_107 : (Cond.selects RX2 yX2_add yX2_add) ∈ tg := tg_at 141 (by first | rfl | decide +kernel) (by first | rfl | decide +kernel)
set_option maxRecDepth 20000 in
theorem tw_108 : (Cond.code yX2_add cX2_add (4 : Nat) (Option.none : Option FieldType)) ∈ tg := tg_at 142 (by first | rfl | decide +kernel) (by first | rfl | decide +kernel)
set_option maxRecDepth 20000 in
theorem tw_109 : (Cond.methodLink RL (24 : Nat) yX3_path) ∈ tg := tg_at 143 (by first | rfl | decide +kernel) (by first | rfl | decide +kernel)
set_option maxRecDepth 20000 in
theorem tw_110 : (Cond.instanceMethod yX3_path) ∈ tg := tg_at 144 (by first | rfl | decide +kernel) (by first | rfl | decide +kernel)
set_option maxRecDepth 20000 in
theorem tw_111 : (Cond.selects RX3 yX3_path yX3_path) ∈ tg := tg_at 145 (by first | rfl | decide +kernel) (by first | rfl | decide +kernel)
set_option maxRecDepth 20000 in
theorem tw_112 : (Cond.code yX3_path cX3_path (4 : Nat) (Option.some FieldType.int)) ∈ tg := tg_at 146 (by first | rfl | decide +kernel) (by first | rfl | decide +kernel)
set_option maxRecDepth 20000 in
theorem tw_113 : (Cond.methodLink RX3 (58 : Nat) yX3_keepPath) ∈ tg := tg_at 147 (by first | rfl | decide +kernel) (by first | rfl | decide +kernel)
set_option maxRecDepth 20000 in
theorem tw_115 : (Cond.instanceMethod yX3_keepPath) ∈ tg := tg_at 149 (by first | rfl | decide +kernel) (by first | rfl | decide +kernel)
set_option maxRecDepth 20000 in
theorem tw_116 : (Cond.code yX3_keepPath cX3_keepPath (5 : Nat) (Option.some FieldType.int)) ∈ tg := tg_at 150 (by first | rfl | decide +kernel) (by first | rfl | decide +kernel)
set_option maxRecDepth 20000 in
theorem tw_117 : (Cond.instantiable RX0 (10 : Nat)) ∈ tg := tg_at 151 (by first | rfl | decide +kernel) (by first | rfl | decide +kernel)
set_option maxRecDepth 20000 in
theorem tw_118 : (Cond.methodLink RX3 (119 : Nat) yX0_init) ∈ tg := tg_at 152 (by first | rfl | decide +kernel) (by first | rfl | decide +kernel)
set_option maxRecDepth 20000 in
theorem tw_119 : (Cond.instanceMethod yX0_init) ∈ tg := tg_at 153 (by first | rfl | decide +kernel) (by first | rfl | decide +kernel)
set_option maxRecDepth 20000 in
theorem tw_120 : (Cond.code yX0_init cX0_init (8 : Nat) (Option.none : Option FieldType)) ∈ tg := tg_at 154 (by first | rfl | decide +kernel) (by first | rfl | decide +kernel)
set_option maxRecDepth 20000 in
theorem tw_121 : (Cond.methodLink RX0 (3 : Nat) objectInit) ∈ tg := tg_at 155 (by first | rfl | decide +kernel) (by first | rfl | decide +kernel)
set_option maxRecDepth 20000 in
theorem tw_122 : (Cond.fieldLink RX0 (9 : Nat) "PathSteps$Path" "number" "I") ∈ tg := tg_at 156 (by first | rfl | decide +kernel) (by first | rfl | decide +kernel)
set_option maxRecDepth 20000 in
theorem tw_123 : (Cond.fieldLink RX3 (128 : Nat) "PathSteps$Path" "number" "I") ∈ tg := tg_at 157 (by first | rfl | decide +kernel) (by first | rfl | decide +kernel)
set_option maxRecDepth 20000 in
theorem tw_124 : (Cond.fieldLink RX0 (15 : Nat) "PathSteps$Path" "kind" "I") ∈ tg := tg_at 158 (by first | rfl | decide +kernel) (by first | rfl | decide +kernel)
set_option maxRecDepth 20000 in
theorem tw_125 : (Cond.fieldLink RX0 (18 : Nat) "PathSteps$Path" "links" "I") ∈ tg := tg_at 159 (by first | rfl | decide +kernel) (by first | rfl | decide +kernel)
set_option maxRecDepth 20000 in
theorem tw_126 : (Cond.fieldLink RX0 (21 : Nat) "PathSteps$Path" "inner" "LPathSteps$Path;") ∈ tg := tg_at 160 (by first | rfl | decide +kernel) (by first | rfl | decide +kernel)
set_option maxRecDepth 20000 in
theorem tw_127 : (Cond.fieldLink RX0 (25 : Nat) "PathSteps$Path" "other" "LPathSteps$Path;") ∈ tg := tg_at 161 (by first | rfl | decide +kernel) (by first | rfl | decide +kernel)
set_option maxRecDepth 20000 in
theorem tw_128 : (Cond.fieldLink RX0 (28 : Nat) "PathSteps$Path" "parts" "J") ∈ tg := tg_at 162 (by first | rfl | decide +kernel) (by first | rfl | decide +kernel)
set_option maxRecDepth 20000 in
theorem tw_129 : (Cond.fieldLink RX0 (32 : Nat) "PathSteps$Path" "times" "[I") ∈ tg := tg_at 163 (by first | rfl | decide +kernel) (by first | rfl | decide +kernel)
set_option maxRecDepth 20000 in
theorem tw_130 : (Cond.fieldLink RX0 (36 : Nat) "PathSteps$Path" "joined" "[I") ∈ tg := tg_at 164 (by first | rfl | decide +kernel) (by first | rfl | decide +kernel)
set_option maxRecDepth 20000 in
theorem tw_131 : (Cond.fieldLink RX3 (155 : Nat) "PathSteps$Path" "joined" "[I") ∈ tg := tg_at 165 (by first | rfl | decide +kernel) (by first | rfl | decide +kernel)
set_option maxRecDepth 20000 in
theorem tw_132 : (Cond.fieldLink RX0 (39 : Nat) "PathSteps$Path" "countedSize" "I") ∈ tg := tg_at 166 (by first | rfl | decide +kernel) (by first | rfl | decide +kernel)
set_option maxRecDepth 20000 in
theorem tw_133 : (Cond.fieldLink RX0 (42 : Nat) "PathSteps$Path" "countedGraph" "I") ∈ tg := tg_at 167 (by first | rfl | decide +kernel) (by first | rfl | decide +kernel)
set_option maxRecDepth 20000 in
theorem tw_134 : (Cond.laysFinal RX0 "PathSteps$Path" "number" "I") ∈ tg := tg_at 168 (by first | rfl | decide +kernel) (by first | rfl | decide +kernel)
set_option maxRecDepth 20000 in
theorem tw_136 : (Cond.laysFinal RX0 "PathSteps$Path" "kind" "I") ∈ tg := tg_at 170 (by first | rfl | decide +kernel) (by first | rfl | decide +kernel)
set_option maxRecDepth 20000 in
theorem tw_138 : (Cond.laysFinal RX0 "PathSteps$Path" "links" "I") ∈ tg := tg_at 172 (by first | rfl | decide +kernel) (by first | rfl | decide +kernel)
set_option maxRecDepth 20000 in
theorem tw_140 : (Cond.laysFinal RX0 "PathSteps$Path" "inner" "LPathSteps$Path;") ∈ tg := tg_at 174 (by first | rfl | decide +kernel) (by first | rfl | decide +kernel)
set_option maxRecDepth 20000 in
theorem tw_142 : (Cond.laysFinal RX0 "PathSteps$Path" "other" "LPathSteps$Path;") ∈ tg := tg_at 176 (by first | rfl | decide +kernel) (by first | rfl | decide +kernel)
set_option maxRecDepth 20000 in
theorem tw_144 : (Cond.laysFinal RX0 "PathSteps$Path" "parts" "J") ∈ tg := tg_at 178 (by first | rfl | decide +kernel) (by first | rfl | decide +kernel)
set_option maxRecDepth 20000 in
theorem tw_146 : (Cond.laysFinal RX0 "PathSteps$Path" "times" "[I") ∈ tg := tg_at 180 (by first | rfl | decide +kernel) (by first | rfl | decide +kernel)
set_option maxRecDepth 20000 in
theorem tw_148 : (Cond.laysFinal RX0 "PathSteps$Path" "joined" "[I") ∈ tg := tg_at 182 (by first | rfl | decide +kernel) (by first | rfl | decide +kernel)
set_option maxRecDepth 20000 in
theorem tw_150 : (Cond.lays RX0 "PathSteps$Path" "countedSize" "I") ∈ tg := tg_at 184 (by first | rfl | decide +kernel) (by first | rfl | decide +kernel)
set_option maxRecDepth 20000 in
theorem tw_152 : (Cond.lays RX0 "PathSteps$Path" "countedGraph" "I") ∈ tg := tg_at 186 (by first | rfl | decide +kernel) (by first | rfl | decide +kernel)
set_option maxRecDepth 20000 in
theorem tw_154 : (Cond.superclass "PathSteps$Path" "java/lang/Object") ∈ tg := tg_at 188 (by first | rfl | decide +kernel) (by first | rfl | decide +kernel)
set_option maxRecDepth 20000 in
theorem tw_155 : (Cond.methodLink RX3 (62 : Nat) yX3_known) ∈ tg := tg_at 189 (by first | rfl | decide +kernel) (by first | rfl | decide +kernel)
set_option maxRecDepth 20000 in
theorem tw_157 : (Cond.instanceMethod yX3_known) ∈ tg := tg_at 191 (by first | rfl | decide +kernel) (by first | rfl | decide +kernel)
set_option maxRecDepth 20000 in
theorem tw_158 : (Cond.code yX3_known cX3_known (2 : Nat) (Option.some (FieldType.object "PathSteps$Path"))) ∈ tg := tg_at 192 (by first | rfl | decide +kernel) (by first | rfl | decide +kernel)
set_option maxRecDepth 20000 in
theorem tw_159 : (Cond.methodLink RX3 (66 : Nat) yX3_keepOverTwo) ∈ tg := tg_at 193 (by first | rfl | decide +kernel) (by first | rfl | decide +kernel)
set_option maxRecDepth 20000 in
theorem tw_161 : (Cond.instanceMethod yX3_keepOverTwo) ∈ tg := tg_at 195 (by first | rfl | decide +kernel) (by first | rfl | decide +kernel)
set_option maxRecDepth 20000 in
theorem tw_162 : (Cond.code yX3_keepOverTwo cX3_keepOverTwo (4 : Nat) (Option.some FieldType.int)) ∈ tg := tg_at 196 (by first | rfl | decide +kernel) (by first | rfl | decide +kernel)
set_option maxRecDepth 20000 in
theorem tw_163 : (Cond.methodLink RX3 (70 : Nat) yX3_keepOverOne) ∈ tg := tg_at 197 (by first | rfl | decide +kernel) (by first | rfl | decide +kernel)
set_option maxRecDepth 20000 in
theorem tw_165 : (Cond.instanceMethod yX3_keepOverOne) ∈ tg := tg_at 199 (by first | rfl | decide +kernel) (by first | rfl | decide +kernel)
set_option maxRecDepth 20000 in
theorem tw_166 : (Cond.code yX3_keepOverOne cX3_keepOverOne (3 : Nat) (Option.some FieldType.int)) ∈ tg := tg_at 200 (by first | rfl | decide +kernel) (by first | rfl | decide +kernel)
set_option maxRecDepth 20000 in
theorem tw_167 : (Cond.methodLink RL (28 : Nat) yX3_from) ∈ tg := tg_at 201 (by first | rfl | decide +kernel) (by first | rfl | decide +kernel)
set_option maxRecDepth 20000 in
theorem tw_168 : (Cond.instanceMethod yX3_from) ∈ tg := tg_at 202 (by first | rfl | decide +kernel) (by first | rfl | decide +kernel)
set_option maxRecDepth 20000 in
theorem tw_169 : (Cond.selects RX3 yX3_from yX3_from) ∈ tg := tg_at 203 (by first | rfl | decide +kernel) (by first | rfl | decide +kernel)
set_option maxRecDepth 20000 in
theorem tw_170 : (Cond.code yX3_from cX3_from (2 : Nat) (Option.some FieldType.int)) ∈ tg := tg_at 204 (by first | rfl | decide +kernel) (by first | rfl | decide +kernel)
set_option maxRecDepth 20000 in
theorem tw_171 : (Cond.methodLink RX3 (74 : Nat) yX2_countFrom) ∈ tg := tg_at 205 (by first | rfl | decide +kernel) (by first | rfl | decide +kernel)
set_option maxRecDepth 20000 in
theorem tw_172 : (Cond.instanceMethod yX2_countFrom) ∈ tg := tg_at 206 (by first | rfl | decide +kernel) (by first | rfl | decide +kernel)
set_option maxRecDepth 20000 in
theorem tw_173 : (Cond.selects RX2 yX2_countFrom yX2_countFrom) ∈ tg := tg_at 207 (by first | rfl | decide +kernel) (by first | rfl | decide +kernel)
set_option maxRecDepth 20000 in
theorem tw_174 : (Cond.code yX2_countFrom cX2_countFrom (4 : Nat) (Option.some FieldType.int)) ∈ tg := tg_at 208 (by first | rfl | decide +kernel) (by first | rfl | decide +kernel)
set_option maxRecDepth 20000 in
theorem tw_175 : (Cond.methodLink RX2 (26 : Nat) yJ6_bitCount_0f7a4) ∈ tg := tg_at 209 (by first | rfl | decide +kernel) (by first | rfl | decide +kernel)
set_option maxRecDepth 20000 in
theorem tw_176 : (Cond.static yJ6_bitCount_0f7a4) ∈ tg := tg_at 210 (by first | rfl | decide +kernel) (by first | rfl | decide +kernel)
set_option maxRecDepth 20000 in
theorem tw_177 : (Cond.code yJ6_bitCount_0f7a4 cJ6_bitCount_0f7a4 (1 : Nat) (Option.some FieldType.int)) ∈ tg := tg_at 211 (by first | rfl | decide +kernel) (by first | rfl | decide +kernel)
set_option maxRecDepth 20000 in
theorem tw_178 : (Cond.constant RJ6 (265 : Nat) (1431655765 : Int32)) ∈ tg := tg_at 212 (by first | rfl | decide +kernel) (by first | rfl | decide +kernel)
set_option maxRecDepth 20000 in
theorem tw_179 : (Cond.constant RJ6 (266 : Nat) (858993459 : Int32)) ∈ tg := tg_at 213 (by first | rfl | decide +kernel) (by first | rfl | decide +kernel)
set_option maxRecDepth 20000 in
theorem tw_180 : (Cond.constant RJ6 (267 : Nat) (252645135 : Int32)) ∈ tg := tg_at 214 (by first | rfl | decide +kernel) (by first | rfl | decide +kernel)
set_option maxRecDepth 20000 in
theorem tw_181 : (Cond.methodLink RL (32 : Nat) yX3_run) ∈ tg := tg_at 215 (by first | rfl | decide +kernel) (by first | rfl | decide +kernel)
set_option maxRecDepth 20000 in
theorem tw_182 : (Cond.instanceMethod yX3_run) ∈ tg := tg_at 216 (by first | rfl | decide +kernel) (by first | rfl | decide +kernel)
set_option maxRecDepth 20000 in
theorem tw_183 : (Cond.selects RX3 yX3_run yX3_run) ∈ tg := tg_at 217 (by first | rfl | decide +kernel) (by first | rfl | decide +kernel)
set_option maxRecDepth 20000 in
theorem tw_184 : (Cond.code yX3_run cX3_run (6 : Nat) (Option.some FieldType.int)) ∈ tg := tg_at 218 (by first | rfl | decide +kernel) (by first | rfl | decide +kernel)
set_option maxRecDepth 20000 in
theorem tw_185 : (Cond.methodLink RX3 (78 : Nat) yX3_isEnd) ∈ tg := tg_at 219 (by first | rfl | decide +kernel) (by first | rfl | decide +kernel)
set_option maxRecDepth 20000 in
theorem tw_186 : (Cond.static yX3_isEnd) ∈ tg := tg_at 220 (by first | rfl | decide +kernel) (by first | rfl | decide +kernel)
set_option maxRecDepth 20000 in
theorem tw_187 : (Cond.code yX3_isEnd cX3_isEnd (1 : Nat) (Option.some FieldType.boolean)) ∈ tg := tg_at 221 (by first | rfl | decide +kernel) (by first | rfl | decide +kernel)
set_option maxRecDepth 20000 in
theorem tw_188 : (Cond.methodLink RX3 (81 : Nat) yX3_countParts) ∈ tg := tg_at 222 (by first | rfl | decide +kernel) (by first | rfl | decide +kernel)
set_option maxRecDepth 20000 in
theorem tw_190 : (Cond.instanceMethod yX3_countParts) ∈ tg := tg_at 224 (by first | rfl | decide +kernel) (by first | rfl | decide +kernel)
set_option maxRecDepth 20000 in
theorem tw_191 : (Cond.code yX3_countParts cX3_countParts (7 : Nat) (Option.none : Option FieldType)) ∈ tg := tg_at 225 (by first | rfl | decide +kernel) (by first | rfl | decide +kernel)
set_option maxRecDepth 20000 in
theorem tw_192 : (Cond.methodLink RX3 (125 : Nat) yX3_bitOf) ∈ tg := tg_at 226 (by first | rfl | decide +kernel) (by first | rfl | decide +kernel)
set_option maxRecDepth 20000 in
theorem tw_193 : (Cond.static yX3_bitOf) ∈ tg := tg_at 227 (by first | rfl | decide +kernel) (by first | rfl | decide +kernel)
set_option maxRecDepth 20000 in
theorem tw_194 : (Cond.code yX3_bitOf cX3_bitOf (1 : Nat) (Option.some FieldType.int)) ∈ tg := tg_at 228 (by first | rfl | decide +kernel) (by first | rfl | decide +kernel)
set_option maxRecDepth 20000 in
theorem tw_195 : (Cond.methodLink RX3 (131 : Nat) yX0_isMadeOf) ∈ tg := tg_at 229 (by first | rfl | decide +kernel) (by first | rfl | decide +kernel)
set_option maxRecDepth 20000 in
theorem tw_196 : (Cond.instanceMethod yX0_isMadeOf) ∈ tg := tg_at 230 (by first | rfl | decide +kernel) (by first | rfl | decide +kernel)
set_option maxRecDepth 20000 in
theorem tw_197 : (Cond.selects RX0 yX0_isMadeOf yX0_isMadeOf) ∈ tg := tg_at 231 (by first | rfl | decide +kernel) (by first | rfl | decide +kernel)
set_option maxRecDepth 20000 in
theorem tw_198 : (Cond.code yX0_isMadeOf cX0_isMadeOf (2 : Nat) (Option.some FieldType.boolean)) ∈ tg := tg_at 232 (by first | rfl | decide +kernel) (by first | rfl | decide +kernel)
set_option maxRecDepth 20000 in
theorem tw_199 : (Cond.methodLink RX3 (134 : Nat) yX0_countIn) ∈ tg := tg_at 233 (by first | rfl | decide +kernel) (by first | rfl | decide +kernel)
set_option maxRecDepth 20000 in
theorem tw_200 : (Cond.instanceMethod yX0_countIn) ∈ tg := tg_at 234 (by first | rfl | decide +kernel) (by first | rfl | decide +kernel)
set_option maxRecDepth 20000 in
theorem tw_201 : (Cond.selects RX0 yX0_countIn yX0_countIn) ∈ tg := tg_at 235 (by first | rfl | decide +kernel) (by first | rfl | decide +kernel)
set_option maxRecDepth 20000 in
theorem tw_202 : (Cond.code yX0_countIn cX0_countIn (3 : Nat) (Option.none : Option FieldType)) ∈ tg := tg_at 236 (by first | rfl | decide +kernel) (by first | rfl | decide +kernel)
set_option maxRecDepth 20000 in
theorem tw_203 : (Cond.methodLink RX0 (66 : Nat) yX0_forget) ∈ tg := tg_at 237 (by first | rfl | decide +kernel) (by first | rfl | decide +kernel)
set_option maxRecDepth 20000 in
theorem tw_205 : (Cond.instanceMethod yX0_forget) ∈ tg := tg_at 239 (by first | rfl | decide +kernel) (by first | rfl | decide +kernel)
set_option maxRecDepth 20000 in
theorem tw_206 : (Cond.code yX0_forget cX0_forget (2 : Nat) (Option.none : Option FieldType)) ∈ tg := tg_at 240 (by first | rfl | decide +kernel) (by first | rfl | decide +kernel)
set_option maxRecDepth 20000 in
theorem tw_207 : (Cond.methodLink RX0 (69 : Nat) yX0_countLinks) ∈ tg := tg_at 241 (by first | rfl | decide +kernel) (by first | rfl | decide +kernel)
set_option maxRecDepth 20000 in
theorem tw_209 : (Cond.instanceMethod yX0_countLinks) ∈ tg := tg_at 243 (by first | rfl | decide +kernel) (by first | rfl | decide +kernel)
set_option maxRecDepth 20000 in
theorem tw_210 : (Cond.code yX0_countLinks cX0_countLinks (4 : Nat) (Option.none : Option FieldType)) ∈ tg := tg_at 244 (by first | rfl | decide +kernel) (by first | rfl | decide +kernel)
set_option maxRecDepth 20000 in
theorem tw_211 : (Cond.methodLink RX0 (45 : Nat) yJ6_bitCount_0f7a4) ∈ tg := tg_at 245 (by first | rfl | decide +kernel) (by first | rfl | decide +kernel)
set_option maxRecDepth 20000 in
theorem tw_212 : (Cond.methodLink RX0 (86 : Nat) yX0_addTimes) ∈ tg := tg_at 246 (by first | rfl | decide +kernel) (by first | rfl | decide +kernel)
set_option maxRecDepth 20000 in
theorem tw_214 : (Cond.instanceMethod yX0_addTimes) ∈ tg := tg_at 248 (by first | rfl | decide +kernel) (by first | rfl | decide +kernel)
set_option maxRecDepth 20000 in
theorem tw_215 : (Cond.code yX0_addTimes cX0_addTimes (8 : Nat) (Option.none : Option FieldType)) ∈ tg := tg_at 249 (by first | rfl | decide +kernel) (by first | rfl | decide +kernel)
set_option maxRecDepth 20000 in
theorem tw_216 : (Cond.constantLong RX0 (81 : Nat) (1000000 : Int64)) ∈ tg := tg_at 250 (by first | rfl | decide +kernel) (by first | rfl | decide +kernel)
set_option maxRecDepth 20000 in
theorem tw_217 : (Cond.constant RX0 (83 : Nat) (1000000 : Int32)) ∈ tg := tg_at 251 (by first | rfl | decide +kernel) (by first | rfl | decide +kernel)
set_option maxRecDepth 20000 in
theorem tw_218 : (Cond.methodLink RX0 (73 : Nat) yX0_countOverOne) ∈ tg := tg_at 252 (by first | rfl | decide +kernel) (by first | rfl | decide +kernel)
set_option maxRecDepth 20000 in
theorem tw_220 : (Cond.instanceMethod yX0_countOverOne) ∈ tg := tg_at 254 (by first | rfl | decide +kernel) (by first | rfl | decide +kernel)
set_option maxRecDepth 20000 in
theorem tw_221 : (Cond.code yX0_countOverOne cX0_countOverOne (3 : Nat) (Option.none : Option FieldType)) ∈ tg := tg_at 255 (by first | rfl | decide +kernel) (by first | rfl | decide +kernel)
set_option maxRecDepth 20000 in
theorem tw_222 : (Cond.methodLink RX0 (90 : Nat) yX0_countTurned) ∈ tg := tg_at 256 (by first | rfl | decide +kernel) (by first | rfl | decide +kernel)
set_option maxRecDepth 20000 in
theorem tw_224 : (Cond.instanceMethod yX0_countTurned) ∈ tg := tg_at 258 (by first | rfl | decide +kernel) (by first | rfl | decide +kernel)
set_option maxRecDepth 20000 in
theorem tw_225 : (Cond.code yX0_countTurned cX0_countTurned (4 : Nat) (Option.none : Option FieldType)) ∈ tg := tg_at 259 (by first | rfl | decide +kernel) (by first | rfl | decide +kernel)
set_option maxRecDepth 20000 in
theorem tw_226 : (Cond.methodLink RX0 (57 : Nat) yX0_timesOf) ∈ tg := tg_at 260 (by first | rfl | decide +kernel) (by first | rfl | decide +kernel)
set_option maxRecDepth 20000 in
theorem tw_227 : (Cond.instanceMethod yX0_timesOf) ∈ tg := tg_at 261 (by first | rfl | decide +kernel) (by first | rfl | decide +kernel)
set_option maxRecDepth 20000 in
theorem tw_228 : (Cond.selects RX0 yX0_timesOf yX0_timesOf) ∈ tg := tg_at 262 (by first | rfl | decide +kernel) (by first | rfl | decide +kernel)
set_option maxRecDepth 20000 in
theorem tw_229 : (Cond.code yX0_timesOf cX0_timesOf (3 : Nat) (Option.some FieldType.int)) ∈ tg := tg_at 263 (by first | rfl | decide +kernel) (by first | rfl | decide +kernel)
set_option maxRecDepth 20000 in
theorem tw_230 : (Cond.methodLink RX0 (94 : Nat) yX0_joinByStep) ∈ tg := tg_at 264 (by first | rfl | decide +kernel) (by first | rfl | decide +kernel)
set_option maxRecDepth 20000 in
theorem tw_232 : (Cond.instanceMethod yX0_joinByStep) ∈ tg := tg_at 266 (by first | rfl | decide +kernel) (by first | rfl | decide +kernel)
set_option maxRecDepth 20000 in
theorem tw_233 : (Cond.code yX0_joinByStep cX0_joinByStep (4 : Nat) (Option.none : Option FieldType)) ∈ tg := tg_at 267 (by first | rfl | decide +kernel) (by first | rfl | decide +kernel)
set_option maxRecDepth 20000 in
theorem tw_234 : (Cond.methodLink RX0 (110 : Nat) yX0_walks) ∈ tg := tg_at 268 (by first | rfl | decide +kernel) (by first | rfl | decide +kernel)
set_option maxRecDepth 20000 in
theorem tw_235 : (Cond.instanceMethod yX0_walks) ∈ tg := tg_at 269 (by first | rfl | decide +kernel) (by first | rfl | decide +kernel)
set_option maxRecDepth 20000 in
theorem tw_236 : (Cond.selects RX0 yX0_walks yX0_walks) ∈ tg := tg_at 270 (by first | rfl | decide +kernel) (by first | rfl | decide +kernel)
set_option maxRecDepth 20000 in
theorem tw_237 : (Cond.code yX0_walks cX0_walks (1 : Nat) (Option.some FieldType.boolean)) ∈ tg := tg_at 271 (by first | rfl | decide +kernel) (by first | rfl | decide +kernel)
set_option maxRecDepth 20000 in
theorem tw_238 : (Cond.methodLink RX0 (114 : Nat) yX0_joinOnwards) ∈ tg := tg_at 272 (by first | rfl | decide +kernel) (by first | rfl | decide +kernel)
set_option maxRecDepth 20000 in
theorem tw_240 : (Cond.instanceMethod yX0_joinOnwards) ∈ tg := tg_at 274 (by first | rfl | decide +kernel) (by first | rfl | decide +kernel)
set_option maxRecDepth 20000 in
theorem tw_241 : (Cond.code yX0_joinOnwards cX0_joinOnwards (3 : Nat) (Option.none : Option FieldType)) ∈ tg := tg_at 275 (by first | rfl | decide +kernel) (by first | rfl | decide +kernel)
set_option maxRecDepth 20000 in
theorem tn_242 : (Cond.methodLinkNest RX0 (121 : Nat) yX3_holds "PathSteps") ∈ lw_tbl := List.mem_of_getElem? (i := 276) (by first | rfl | decide +kernel)
set_option maxRecDepth 20000 in
theorem tw_243 : (Cond.methodLink RX0 (117 : Nat) yX0_joinSelves) ∈ tg := tg_at 277 (by first | rfl | decide +kernel) (by first | rfl | decide +kernel)
set_option maxRecDepth 20000 in
theorem tw_245 : (Cond.instanceMethod yX0_joinSelves) ∈ tg := tg_at 279 (by first | rfl | decide +kernel) (by first | rfl | decide +kernel)
set_option maxRecDepth 20000 in
theorem tw_246 : (Cond.code yX0_joinSelves cX0_joinSelves (3 : Nat) (Option.none : Option FieldType)) ∈ tg := tg_at 280 (by first | rfl | decide +kernel) (by first | rfl | decide +kernel)
set_option maxRecDepth 20000 in
theorem tw_247 : (Cond.methodLink RX0 (97 : Nat) yX0_countJoinedOnce) ∈ tg := tg_at 281 (by first | rfl | decide +kernel) (by first | rfl | decide +kernel)
set_option maxRecDepth 20000 in
theorem tw_249 : (Cond.instanceMethod yX0_countJoinedOnce) ∈ tg := tg_at 283 (by first | rfl | decide +kernel) (by first | rfl | decide +kernel)
set_option maxRecDepth 20000 in
theorem tw_250 : (Cond.code yX0_countJoinedOnce cX0_countJoinedOnce (3 : Nat) (Option.none : Option FieldType)) ∈ tg := tg_at 284 (by first | rfl | decide +kernel) (by first | rfl | decide +kernel)
set_option maxRecDepth 20000 in
theorem tw_251 : (Cond.methodLink RX0 (77 : Nat) yX0_countOverTwo) ∈ tg := tg_at 285 (by first | rfl | decide +kernel) (by first | rfl | decide +kernel)
set_option maxRecDepth 20000 in
theorem tw_253 : (Cond.instanceMethod yX0_countOverTwo) ∈ tg := tg_at 287 (by first | rfl | decide +kernel) (by first | rfl | decide +kernel)
set_option maxRecDepth 20000 in
theorem tw_254 : (Cond.code yX0_countOverTwo cX0_countOverTwo (3 : Nat) (Option.none : Option FieldType)) ∈ tg := tg_at 288 (by first | rfl | decide +kernel) (by first | rfl | decide +kernel)
set_option maxRecDepth 20000 in
theorem tw_255 : (Cond.methodLink RX0 (100 : Nat) yX0_countAll) ∈ tg := tg_at 289 (by first | rfl | decide +kernel) (by first | rfl | decide +kernel)
set_option maxRecDepth 20000 in
theorem tw_257 : (Cond.instanceMethod yX0_countAll) ∈ tg := tg_at 291 (by first | rfl | decide +kernel) (by first | rfl | decide +kernel)
set_option maxRecDepth 20000 in
theorem tw_258 : (Cond.code yX0_countAll cX0_countAll (4 : Nat) (Option.none : Option FieldType)) ∈ tg := tg_at 292 (by first | rfl | decide +kernel) (by first | rfl | decide +kernel)
set_option maxRecDepth 20000 in
theorem tw_259 : (Cond.methodLink RX0 (103 : Nat) yX0_countBehind) ∈ tg := tg_at 293 (by first | rfl | decide +kernel) (by first | rfl | decide +kernel)
set_option maxRecDepth 20000 in
theorem tw_261 : (Cond.instanceMethod yX0_countBehind) ∈ tg := tg_at 295 (by first | rfl | decide +kernel) (by first | rfl | decide +kernel)
set_option maxRecDepth 20000 in
theorem tw_262 : (Cond.code yX0_countBehind cX0_countBehind (7 : Nat) (Option.none : Option FieldType)) ∈ tg := tg_at 296 (by first | rfl | decide +kernel) (by first | rfl | decide +kernel)
set_option maxRecDepth 20000 in
theorem tw_263 : (Cond.methodLink RX0 (106 : Nat) yX0_addBehind) ∈ tg := tg_at 297 (by first | rfl | decide +kernel) (by first | rfl | decide +kernel)
set_option maxRecDepth 20000 in
theorem tw_265 : (Cond.instanceMethod yX0_addBehind) ∈ tg := tg_at 299 (by first | rfl | decide +kernel) (by first | rfl | decide +kernel)
set_option maxRecDepth 20000 in
theorem tw_266 : (Cond.code yX0_addBehind cX0_addBehind (7 : Nat) (Option.none : Option FieldType)) ∈ tg := tg_at 300 (by first | rfl | decide +kernel) (by first | rfl | decide +kernel)
set_option maxRecDepth 20000 in
theorem tw_267 : (Cond.methodLink RX3 (85 : Nat) yX3_goesBeyond) ∈ tg := tg_at 301 (by first | rfl | decide +kernel) (by first | rfl | decide +kernel)
set_option maxRecDepth 20000 in
theorem tw_269 : (Cond.instanceMethod yX3_goesBeyond) ∈ tg := tg_at 303 (by first | rfl | decide +kernel) (by first | rfl | decide +kernel)
set_option maxRecDepth 20000 in
theorem tw_270 : (Cond.code yX3_goesBeyond cX3_goesBeyond (4 : Nat) (Option.some FieldType.boolean)) ∈ tg := tg_at 304 (by first | rfl | decide +kernel) (by first | rfl | decide +kernel)
set_option maxRecDepth 20000 in
theorem tw_271 : (Cond.methodLink RX3 (138 : Nat) yX0_walks) ∈ tg := tg_at 305 (by first | rfl | decide +kernel) (by first | rfl | decide +kernel)
set_option maxRecDepth 20000 in
theorem tw_272 : (Cond.methodLink RX3 (142 : Nat) yX0_pairs) ∈ tg := tg_at 306 (by first | rfl | decide +kernel) (by first | rfl | decide +kernel)
set_option maxRecDepth 20000 in
theorem tw_273 : (Cond.instanceMethod yX0_pairs) ∈ tg := tg_at 307 (by first | rfl | decide +kernel) (by first | rfl | decide +kernel)
set_option maxRecDepth 20000 in
theorem tw_274 : (Cond.selects RX0 yX0_pairs yX0_pairs) ∈ tg := tg_at 308 (by first | rfl | decide +kernel) (by first | rfl | decide +kernel)
set_option maxRecDepth 20000 in
theorem tw_275 : (Cond.code yX0_pairs cX0_pairs (3 : Nat) (Option.some FieldType.int)) ∈ tg := tg_at 309 (by first | rfl | decide +kernel) (by first | rfl | decide +kernel)
set_option maxRecDepth 20000 in
theorem tw_276 : (Cond.methodLink RX3 (89 : Nat) yX0_countBetween) ∈ tg := tg_at 310 (by first | rfl | decide +kernel) (by first | rfl | decide +kernel)
set_option maxRecDepth 20000 in
theorem tw_277 : (Cond.instanceMethod yX0_countBetween) ∈ tg := tg_at 311 (by first | rfl | decide +kernel) (by first | rfl | decide +kernel)
set_option maxRecDepth 20000 in
theorem tw_278 : (Cond.selects RX0 yX0_countBetween yX0_countBetween) ∈ tg := tg_at 312 (by first | rfl | decide +kernel) (by first | rfl | decide +kernel)
set_option maxRecDepth 20000 in
theorem tw_279 : (Cond.code yX0_countBetween cX0_countBetween (6 : Nat) (Option.some FieldType.int)) ∈ tg := tg_at 313 (by first | rfl | decide +kernel) (by first | rfl | decide +kernel)
set_option maxRecDepth 20000 in
theorem tn_280 : (Cond.methodLinkNest RX0 (51 : Nat) yX3_lowest "PathSteps") ∈ lw_tbl := List.mem_of_getElem? (i := 314) (by first | rfl | decide +kernel)
set_option maxRecDepth 20000 in
theorem tw_281 : (Cond.static yX3_lowest) ∈ tg := tg_at 315 (by first | rfl | decide +kernel) (by first | rfl | decide +kernel)
set_option maxRecDepth 20000 in
theorem tw_282 : (Cond.code yX3_lowest cX3_lowest (1 : Nat) (Option.some FieldType.int)) ∈ tg := tg_at 316 (by first | rfl | decide +kernel) (by first | rfl | decide +kernel)
set_option maxRecDepth 20000 in
theorem tn_283 : (Cond.methodLinkNest RX0 (54 : Nat) yX3_highest "PathSteps") ∈ lw_tbl := List.mem_of_getElem? (i := 317) (by first | rfl | decide +kernel)
set_option maxRecDepth 20000 in
theorem tw_284 : (Cond.static yX3_highest) ∈ tg := tg_at 318 (by first | rfl | decide +kernel) (by first | rfl | decide +kernel)
set_option maxRecDepth 20000 in
theorem tw_285 : (Cond.code yX3_highest cX3_highest (1 : Nat) (Option.some FieldType.int)) ∈ tg := tg_at 319 (by first | rfl | decide +kernel) (by first | rfl | decide +kernel)
set_option maxRecDepth 20000 in
theorem tw_286 : (Cond.methodLink RX3 (93 : Nat) yX3_keepRows) ∈ tg := tg_at 320 (by first | rfl | decide +kernel) (by first | rfl | decide +kernel)
set_option maxRecDepth 20000 in
theorem tw_288 : (Cond.instanceMethod yX3_keepRows) ∈ tg := tg_at 322 (by first | rfl | decide +kernel) (by first | rfl | decide +kernel)
set_option maxRecDepth 20000 in
theorem tw_289 : (Cond.code yX3_keepRows cX3_keepRows (6 : Nat) (Option.none : Option FieldType)) ∈ tg := tg_at 323 (by first | rfl | decide +kernel) (by first | rfl | decide +kernel)
set_option maxRecDepth 20000 in
theorem tw_290 : (Cond.methodLink RX3 (146 : Nat) yX1_begin) ∈ tg := tg_at 324 (by first | rfl | decide +kernel) (by first | rfl | decide +kernel)
set_option maxRecDepth 20000 in
theorem tw_291 : (Cond.instanceMethod yX1_begin) ∈ tg := tg_at 325 (by first | rfl | decide +kernel) (by first | rfl | decide +kernel)
set_option maxRecDepth 20000 in
theorem tw_292 : (Cond.selects RX1 yX1_begin yX1_begin) ∈ tg := tg_at 326 (by first | rfl | decide +kernel) (by first | rfl | decide +kernel)
set_option maxRecDepth 20000 in
theorem tw_293 : (Cond.code yX1_begin cX1_begin (1 : Nat) (Option.none : Option FieldType)) ∈ tg := tg_at 327 (by first | rfl | decide +kernel) (by first | rfl | decide +kernel)
set_option maxRecDepth 20000 in
theorem tw_294 : (Cond.methodLink RX3 (149 : Nat) yX3_lowest) ∈ tg := tg_at 328 (by first | rfl | decide +kernel) (by first | rfl | decide +kernel)
set_option maxRecDepth 20000 in
theorem tw_295 : (Cond.methodLink RX3 (152 : Nat) yX3_highest) ∈ tg := tg_at 329 (by first | rfl | decide +kernel) (by first | rfl | decide +kernel)
set_option maxRecDepth 20000 in
theorem tw_296 : (Cond.methodLink RX3 (158 : Nat) yX0_measure) ∈ tg := tg_at 330 (by first | rfl | decide +kernel) (by first | rfl | decide +kernel)
set_option maxRecDepth 20000 in
theorem tw_297 : (Cond.instanceMethod yX0_measure) ∈ tg := tg_at 331 (by first | rfl | decide +kernel) (by first | rfl | decide +kernel)
set_option maxRecDepth 20000 in
theorem tw_298 : (Cond.selects RX0 yX0_measure yX0_measure) ∈ tg := tg_at 332 (by first | rfl | decide +kernel) (by first | rfl | decide +kernel)
set_option maxRecDepth 20000 in
theorem tw_299 : (Cond.code yX0_measure cX0_measure (4 : Nat) (Option.none : Option FieldType)) ∈ tg := tg_at 333 (by first | rfl | decide +kernel) (by first | rfl | decide +kernel)
set_option maxRecDepth 20000 in
theorem tw_300 : (Cond.methodLink RX0 (125 : Nat) yX0_measureWalk) ∈ tg := tg_at 334 (by first | rfl | decide +kernel) (by first | rfl | decide +kernel)
set_option maxRecDepth 20000 in
theorem tw_301 : (Cond.static yX0_measureWalk) ∈ tg := tg_at 335 (by first | rfl | decide +kernel) (by first | rfl | decide +kernel)
set_option maxRecDepth 20000 in
theorem tw_302 : (Cond.code yX0_measureWalk cX0_measureWalk (8 : Nat) (Option.none : Option FieldType)) ∈ tg := tg_at 336 (by first | rfl | decide +kernel) (by first | rfl | decide +kernel)
set_option maxRecDepth 20000 in
theorem tw_303 : (Cond.methodLink RX3 (162 : Nat) yX0_timesOf) ∈ tg := tg_at 337 (by first | rfl | decide +kernel) (by first | rfl | decide +kernel)
set_option maxRecDepth 20000 in
theorem tw_304 : (Cond.methodLink RX3 (165 : Nat) yX1_add) ∈ tg := tg_at 338 (by first | rfl | decide +kernel) (by first | rfl | decide +kernel)
set_option maxRecDepth 20000 in
theorem tw_305 : (Cond.instanceMethod yX1_add) ∈ tg := tg_at 339 (by first | rfl | decide +kernel) (by first | rfl | decide +kernel)
set_option maxRecDepth 20000 in
theorem tw_306 : (Cond.selects RX1 yX1_add yX1_add) ∈ tg := tg_at 340 (by first | rfl | decide +kernel) (by first | rfl | decide +kernel)
set_option maxRecDepth 20000 in
theorem tw_307 : (Cond.code yX1_add cX1_add (6 : Nat) (Option.none : Option FieldType)) ∈ tg := tg_at 341 (by first | rfl | decide +kernel) (by first | rfl | decide +kernel)
set_option maxRecDepth 20000 in
theorem tw_308 : (Cond.methodLink RL (36 : Nat) yX3_at) ∈ tg := tg_at 342 (by first | rfl | decide +kernel) (by first | rfl | decide +kernel)
set_option maxRecDepth 20000 in
theorem tw_309 : (Cond.instanceMethod yX3_at) ∈ tg := tg_at 343 (by first | rfl | decide +kernel) (by first | rfl | decide +kernel)
set_option maxRecDepth 20000 in
theorem tw_310 : (Cond.selects RX3 yX3_at yX3_at) ∈ tg := tg_at 344 (by first | rfl | decide +kernel) (by first | rfl | decide +kernel)
set_option maxRecDepth 20000 in
theorem tw_311 : (Cond.code yX3_at cX3_at (3 : Nat) (Option.some FieldType.int)) ∈ tg := tg_at 345 (by first | rfl | decide +kernel) (by first | rfl | decide +kernel)
set_option maxRecDepth 20000 in
theorem tw_312 : (Cond.methodLink RX3 (100 : Nat) yX1_has) ∈ tg := tg_at 346 (by first | rfl | decide +kernel) (by first | rfl | decide +kernel)
set_option maxRecDepth 20000 in
theorem tw_313 : (Cond.instanceMethod yX1_has) ∈ tg := tg_at 347 (by first | rfl | decide +kernel) (by first | rfl | decide +kernel)
set_option maxRecDepth 20000 in
theorem tw_314 : (Cond.selects RX1 yX1_has yX1_has) ∈ tg := tg_at 348 (by first | rfl | decide +kernel) (by first | rfl | decide +kernel)
set_option maxRecDepth 20000 in
theorem tw_315 : (Cond.code yX1_has cX1_has (2 : Nat) (Option.some FieldType.boolean)) ∈ tg := tg_at 349 (by first | rfl | decide +kernel) (by first | rfl | decide +kernel)
set_option maxRecDepth 20000 in
theorem tw_316 : (Cond.methodLink RL (41 : Nat) yX3_plain) ∈ tg := tg_at 350 (by first | rfl | decide +kernel) (by first | rfl | decide +kernel)
set_option maxRecDepth 20000 in
theorem tw_317 : (Cond.instanceMethod yX3_plain) ∈ tg := tg_at 351 (by first | rfl | decide +kernel) (by first | rfl | decide +kernel)
set_option maxRecDepth 20000 in
theorem tw_318 : (Cond.selects RX3 yX3_plain yX3_plain) ∈ tg := tg_at 352 (by first | rfl | decide +kernel) (by first | rfl | decide +kernel)
set_option maxRecDepth 20000 in
theorem tw_319 : (Cond.code yX3_plain cX3_plain (5 : Nat) (Option.some FieldType.int)) ∈ tg := tg_at 353 (by first | rfl | decide +kernel) (by first | rfl | decide +kernel)
set_option maxRecDepth 20000 in
theorem tw_320 : (Cond.methodLink RL (45 : Nat) yX3_steps) ∈ tg := tg_at 354 (by first | rfl | decide +kernel) (by first | rfl | decide +kernel)
set_option maxRecDepth 20000 in
theorem tw_321 : (Cond.instanceMethod yX3_steps) ∈ tg := tg_at 355 (by first | rfl | decide +kernel) (by first | rfl | decide +kernel)
set_option maxRecDepth 20000 in
theorem tw_322 : (Cond.selects RX3 yX3_steps yX3_steps) ∈ tg := tg_at 356 (by first | rfl | decide +kernel) (by first | rfl | decide +kernel)
set_option maxRecDepth 20000 in
theorem tw_323 : (Cond.code yX3_steps cX3_steps (2 : Nat) (Option.some FieldType.int)) ∈ tg := tg_at 357 (by first | rfl | decide +kernel) (by first | rfl | decide +kernel)
set_option maxRecDepth 20000 in
theorem tw_324 : (Cond.methodLink RL (49 : Nat) yX3_cycle) ∈ tg := tg_at 358 (by first | rfl | decide +kernel) (by first | rfl | decide +kernel)
set_option maxRecDepth 20000 in
theorem tw_325 : (Cond.instanceMethod yX3_cycle) ∈ tg := tg_at 359 (by first | rfl | decide +kernel) (by first | rfl | decide +kernel)
set_option maxRecDepth 20000 in
theorem tw_326 : (Cond.selects RX3 yX3_cycle yX3_cycle) ∈ tg := tg_at 360 (by first | rfl | decide +kernel) (by first | rfl | decide +kernel)
set_option maxRecDepth 20000 in
theorem tw_327 : (Cond.code yX3_cycle cX3_cycle (2 : Nat) (Option.some FieldType.boolean)) ∈ tg := tg_at 361 (by first | rfl | decide +kernel) (by first | rfl | decide +kernel)
set_option maxRecDepth 20000 in
theorem tw_328 : (Cond.methodLink RL (64 : Nat) yX3_inverse) ∈ tg := tg_at 362 (by first | rfl | decide +kernel) (by first | rfl | decide +kernel)
set_option maxRecDepth 20000 in
theorem tw_329 : (Cond.instanceMethod yX3_inverse) ∈ tg := tg_at 363 (by first | rfl | decide +kernel) (by first | rfl | decide +kernel)
set_option maxRecDepth 20000 in
theorem tw_330 : (Cond.selects RX3 yX3_inverse yX3_inverse) ∈ tg := tg_at 364 (by first | rfl | decide +kernel) (by first | rfl | decide +kernel)
set_option maxRecDepth 20000 in
theorem tw_331 : (Cond.code yX3_inverse cX3_inverse (2 : Nat) (Option.some FieldType.int)) ∈ tg := tg_at 365 (by first | rfl | decide +kernel) (by first | rfl | decide +kernel)
set_option maxRecDepth 20000 in
theorem tw_332 : (Cond.methodLink RL (68 : Nat) yX3_negated) ∈ tg := tg_at 366 (by first | rfl | decide +kernel) (by first | rfl | decide +kernel)
set_option maxRecDepth 20000 in
theorem tw_333 : (Cond.instanceMethod yX3_negated) ∈ tg := tg_at 367 (by first | rfl | decide +kernel) (by first | rfl | decide +kernel)
set_option maxRecDepth 20000 in
theorem tw_334 : (Cond.selects RX3 yX3_negated yX3_negated) ∈ tg := tg_at 368 (by first | rfl | decide +kernel) (by first | rfl | decide +kernel)
set_option maxRecDepth 20000 in
theorem tw_335 : (Cond.code yX3_negated cX3_negated (4 : Nat) (Option.some FieldType.int)) ∈ tg := tg_at 369 (by first | rfl | decide +kernel) (by first | rfl | decide +kernel)
set_option maxRecDepth 20000 in
theorem tw_336 : (Cond.constant RX3 (118 : Nat) (65535 : Int32)) ∈ tg := tg_at 370 (by first | rfl | decide +kernel) (by first | rfl | decide +kernel)
set_option maxRecDepth 20000 in
theorem tw_337 : (Cond.methodLink RL (54 : Nat) yL_depth) ∈ tg := tg_at 371 (by first | rfl | decide +kernel) (by first | rfl | decide +kernel)
set_option maxRecDepth 20000 in
theorem tw_338 : (Cond.static yL_depth) ∈ tg := tg_at 372 (by first | rfl | decide +kernel) (by first | rfl | decide +kernel)
set_option maxRecDepth 20000 in
theorem tw_339 : (Cond.codeWith yL_depth cL_depth (4 : Nat) (Option.some FieldType.int) [((0 : Nat), (9 : Nat), (12 : Nat), (13 : Nat))]) ∈ tg := tg_at 373 (by first | rfl | decide +kernel) (by first | rfl | decide +kernel)
set_option maxRecDepth 20000 in
theorem tw_340 : (Cond.classLink RL (13 : Nat) RJx00060) ∈ tg := tg_at 374 (by first | rfl | decide +kernel) (by first | rfl | decide +kernel)
set_option maxRecDepth 20000 in
theorem tw_341 : (Cond.methodLink RL (7 : Nat) yX3_depth) ∈ tg := tg_at 375 (by first | rfl | decide +kernel) (by first | rfl | decide +kernel)
set_option maxRecDepth 20000 in
theorem tw_342 : (Cond.instanceMethod yX3_depth) ∈ tg := tg_at 376 (by first | rfl | decide +kernel) (by first | rfl | decide +kernel)
set_option maxRecDepth 20000 in
theorem tw_343 : (Cond.selects RX3 yX3_depth yX3_depth) ∈ tg := tg_at 377 (by first | rfl | decide +kernel) (by first | rfl | decide +kernel)
set_option maxRecDepth 20000 in
theorem tw_344 : (Cond.code yX3_depth cX3_depth (2 : Nat) (Option.some FieldType.int)) ∈ tg := tg_at 378 (by first | rfl | decide +kernel) (by first | rfl | decide +kernel)
set_option maxRecDepth 20000 in
theorem tw_345 : (Cond.classLink RX3 (108 : Nat) RJx00060) ∈ tg := tg_at 379 (by first | rfl | decide +kernel) (by first | rfl | decide +kernel)
set_option maxRecDepth 20000 in
theorem tw_346 : (Cond.instantiable RJx00060 (6 : Nat)) ∈ tg := tg_at 380 (by first | rfl | decide +kernel) (by first | rfl | decide +kernel)
set_option maxRecDepth 20000 in
theorem tn_347 : (Cond.castable "java/lang/ArrayIndexOutOfBoundsException" "java/lang/ArrayIndexOutOfBoundsException") ∈ lw_tbl := List.mem_of_getElem? (i := 381) (by first | rfl | decide +kernel)
set_option maxRecDepth 20000 in
theorem tn_348 : (Cond.declares (⟨"java/lang/IndexOutOfBoundsException", "<init>", "()V"⟩ : MethodName)) ∈ lw_tbl := List.mem_of_getElem? (i := 382) (by first | rfl | decide +kernel)
set_option maxRecDepth 20000 in
theorem tn_349 : (Cond.declares (⟨"java/lang/IndexOutOfBoundsException", "<init>", "(Ljava/lang/String;)V"⟩ : MethodName)) ∈ lw_tbl := List.mem_of_getElem? (i := 383) (by first | rfl | decide +kernel)
set_option maxRecDepth 20000 in
theorem tn_350 : (Cond.declares (⟨"java/lang/RuntimeException", "<init>", "()V"⟩ : MethodName)) ∈ lw_tbl := List.mem_of_getElem? (i := 384) (by first | rfl | decide +kernel)
set_option maxRecDepth 20000 in
theorem tn_351 : (Cond.declares (⟨"java/lang/RuntimeException", "<init>", "(Ljava/lang/String;)V"⟩ : MethodName)) ∈ lw_tbl := List.mem_of_getElem? (i := 385) (by first | rfl | decide +kernel)
set_option maxRecDepth 20000 in
theorem tn_352 : (Cond.declares (⟨"java/lang/Exception", "<init>", "()V"⟩ : MethodName)) ∈ lw_tbl := List.mem_of_getElem? (i := 386) (by first | rfl | decide +kernel)
set_option maxRecDepth 20000 in
theorem tn_353 : (Cond.declares (⟨"java/lang/Exception", "<init>", "(Ljava/lang/String;)V"⟩ : MethodName)) ∈ lw_tbl := List.mem_of_getElem? (i := 387) (by first | rfl | decide +kernel)
set_option maxRecDepth 20000 in
theorem tn_354 : (Cond.declares (⟨"java/lang/Throwable", "<init>", "()V"⟩ : MethodName)) ∈ lw_tbl := List.mem_of_getElem? (i := 388) (by first | rfl | decide +kernel)
set_option maxRecDepth 20000 in
theorem tn_355 : (Cond.declares (⟨"java/lang/Throwable", "<init>", "(Ljava/lang/String;)V"⟩ : MethodName)) ∈ lw_tbl := List.mem_of_getElem? (i := 389) (by first | rfl | decide +kernel)
set_option maxRecDepth 20000 in
theorem tw_356 : (Cond.selects RJx00060 (⟨"java/lang/Throwable", "fillInStackTrace", "(I)Ljava/lang/Throwable;"⟩ : MethodName) (⟨"java/lang/Throwable", "fillInStackTrace", "(I)Ljava/lang/Throwable;"⟩ : MethodName)) ∈ tg := tg_at 390 (by first | rfl | decide +kernel) (by first | rfl | decide +kernel)
set_option maxRecDepth 20000 in
theorem tw_357 : (Cond.selects RJx00060 (⟨"java/lang/Throwable", "fillInStackTrace", "()Ljava/lang/Throwable;"⟩ : MethodName) (⟨"java/lang/Throwable", "fillInStackTrace", "()Ljava/lang/Throwable;"⟩ : MethodName)) ∈ tg := tg_at 391 (by first | rfl | decide +kernel) (by first | rfl | decide +kernel)
set_option maxRecDepth 20000 in
theorem tw_358 : (Cond.lays RJx00060 "java/lang/Throwable" "cause" "Ljava/lang/Throwable;") ∈ tg := tg_at 392 (by first | rfl | decide +kernel) (by first | rfl | decide +kernel)
set_option maxRecDepth 20000 in
theorem tw_359 : (Cond.lays "java/lang/Throwable" "java/lang/Throwable" "cause" "Ljava/lang/Throwable;") ∈ tg := tg_at 393 (by first | rfl | decide +kernel) (by first | rfl | decide +kernel)
set_option maxRecDepth 20000 in
theorem tw_360 : (Cond.lays RJx00060 "java/lang/Throwable" "stackTrace" "[Ljava/lang/StackTraceElement;") ∈ tg := tg_at 394 (by first | rfl | decide +kernel) (by first | rfl | decide +kernel)
set_option maxRecDepth 20000 in
theorem tw_361 : (Cond.lays "java/lang/Throwable" "java/lang/Throwable" "stackTrace" "[Ljava/lang/StackTraceElement;") ∈ tg := tg_at 395 (by first | rfl | decide +kernel) (by first | rfl | decide +kernel)
set_option maxRecDepth 20000 in
theorem tw_362 : (Cond.lays RJx00060 "java/lang/Throwable" "suppressedExceptions" "Ljava/util/List;") ∈ tg := tg_at 396 (by first | rfl | decide +kernel) (by first | rfl | decide +kernel)
set_option maxRecDepth 20000 in
theorem tw_363 : (Cond.lays "java/lang/Throwable" "java/lang/Throwable" "suppressedExceptions" "Ljava/util/List;") ∈ tg := tg_at 397 (by first | rfl | decide +kernel) (by first | rfl | decide +kernel)
set_option maxRecDepth 20000 in
theorem tw_364 : (Cond.lays RJx00060 "java/lang/Throwable" "detailMessage" "Ljava/lang/String;") ∈ tg := tg_at 398 (by first | rfl | decide +kernel) (by first | rfl | decide +kernel)
set_option maxRecDepth 20000 in
theorem tw_365 : (Cond.lays "java/lang/Throwable" "java/lang/Throwable" "detailMessage" "Ljava/lang/String;") ∈ tg := tg_at 399 (by first | rfl | decide +kernel) (by first | rfl | decide +kernel)
set_option maxRecDepth 20000 in
theorem tw_366 : (Cond.lays RJx00060 "java/lang/Throwable" "backtrace" "Ljava/lang/Object;") ∈ tg := tg_at 400 (by first | rfl | decide +kernel) (by first | rfl | decide +kernel)
set_option maxRecDepth 20000 in
theorem tw_367 : (Cond.lays "java/lang/Throwable" "java/lang/Throwable" "backtrace" "Ljava/lang/Object;") ∈ tg := tg_at 401 (by first | rfl | decide +kernel) (by first | rfl | decide +kernel)
set_option maxRecDepth 20000 in
theorem tw_368 : (Cond.fieldLink "java/lang/Throwable" (198 : Nat) "java/lang/Throwable" "backtrace" "Ljava/lang/Object;") ∈ tg := tg_at 402 (by first | rfl | decide +kernel) (by first | rfl | decide +kernel)
set_option maxRecDepth 20000 in
theorem tw_369 : (Cond.superclass "java/lang/Throwable" "java/lang/Object") ∈ tg := tg_at 403 (by first | rfl | decide +kernel) (by first | rfl | decide +kernel)
set_option maxRecDepth 20000 in
theorem tw_370 : (Cond.instanceMethod (⟨"java/lang/Throwable", "<init>", "()V"⟩ : MethodName)) ∈ tg := tg_at 404 (by first | rfl | decide +kernel) (by first | rfl | decide +kernel)
set_option maxRecDepth 20000 in
theorem tw_371 : (Cond.code (⟨"java/lang/Throwable", "<init>", "()V"⟩ : MethodName) prog_13_method_1_code (1 : Nat) (Option.none : Option FieldType)) ∈ tg := tg_at 405 (by first | rfl | decide +kernel) (by first | rfl | decide +kernel)
set_option maxRecDepth 20000 in
theorem tw_372 : (Cond.methodLink "java/lang/Throwable" (1 : Nat) objectInit) ∈ tg := tg_at 406 (by first | rfl | decide +kernel) (by first | rfl | decide +kernel)
set_option maxRecDepth 20000 in
theorem tw_373 : (Cond.fieldLink "java/lang/Throwable" (13 : Nat) "java/lang/Throwable" "UNASSIGNED_STACK" "[Ljava/lang/StackTraceElement;") ∈ tg := tg_at 407 (by first | rfl | decide +kernel) (by first | rfl | decide +kernel)
set_option maxRecDepth 20000 in
theorem tn_374 : (Cond.laysStatic "java/lang/Throwable" "UNASSIGNED_STACK" "[Ljava/lang/StackTraceElement;") ∈ lw_tbl := List.mem_of_getElem? (i := 408) (by first | rfl | decide +kernel)
set_option maxRecDepth 20000 in
theorem tw_375 : (Cond.fieldLink "java/lang/Throwable" (20 : Nat) "java/lang/Throwable" "SUPPRESSED_SENTINEL" "Ljava/util/List;") ∈ tg := tg_at 409 (by first | rfl | decide +kernel) (by first | rfl | decide +kernel)
set_option maxRecDepth 20000 in
theorem tn_376 : (Cond.laysStatic "java/lang/Throwable" "SUPPRESSED_SENTINEL" "Ljava/util/List;") ∈ lw_tbl := List.mem_of_getElem? (i := 410) (by first | rfl | decide +kernel)
set_option maxRecDepth 20000 in
theorem tw_377 : (Cond.methodLink "java/lang/Throwable" (27 : Nat) (⟨"java/lang/Throwable", "fillInStackTrace", "()Ljava/lang/Throwable;"⟩ : MethodName)) ∈ tg := tg_at 411 (by first | rfl | decide +kernel) (by first | rfl | decide +kernel)
set_option maxRecDepth 20000 in
theorem tw_378 : (Cond.instanceMethod (⟨"java/lang/Throwable", "fillInStackTrace", "()Ljava/lang/Throwable;"⟩ : MethodName)) ∈ tg := tg_at 412 (by first | rfl | decide +kernel) (by first | rfl | decide +kernel)
set_option maxRecDepth 20000 in
theorem tw_379 : (Cond.sameMethod "java/lang/Throwable" "java/lang/Throwable" "fillInStackTrace" "()Ljava/lang/Throwable;") ∈ tg := tg_at 413 (by first | rfl | decide +kernel) (by first | rfl | decide +kernel)
set_option maxRecDepth 20000 in
theorem tw_380 : (Cond.codeSync (⟨"java/lang/Throwable", "fillInStackTrace", "()Ljava/lang/Throwable;"⟩ : MethodName) prog_13_method_18_code (1 : Nat) (Option.some (FieldType.object "java/lang/Throwable"))) ∈ tg := tg_at 414 (by first | rfl | decide +kernel) (by first | rfl | decide +kernel)
set_option maxRecDepth 20000 in
theorem tw_381 : (Cond.methodLink "java/lang/Throwable" (202 : Nat) (⟨"java/lang/Throwable", "fillInStackTrace", "(I)Ljava/lang/Throwable;"⟩ : MethodName)) ∈ tg := tg_at 415 (by first | rfl | decide +kernel) (by first | rfl | decide +kernel)
set_option maxRecDepth 20000 in
theorem tw_383 : (Cond.instanceMethod (⟨"java/lang/Throwable", "fillInStackTrace", "(I)Ljava/lang/Throwable;"⟩ : MethodName)) ∈ tg := tg_at 417 (by first | rfl | decide +kernel) (by first | rfl | decide +kernel)
set_option maxRecDepth 20000 in
theorem tw_384 : (Cond.instantiable "java/lang/Throwable" (6 : Nat)) ∈ tg := tg_at 418 (by first | rfl | decide +kernel) (by first | rfl | decide +kernel)
set_option maxRecDepth 20000 in
theorem tw_385 : (Cond.native (⟨"java/lang/Throwable", "fillInStackTrace", "(I)Ljava/lang/Throwable;"⟩ : MethodName)) ∈ tg := tg_at 419 (by first | rfl | decide +kernel) (by first | rfl | decide +kernel)
set_option maxRecDepth 20000 in
theorem tn_386 : (Cond.stringRef "PathSteps" (110 : Nat) "no such row") ∈ lw_tbl := List.mem_of_getElem? (i := 420) (by first | rfl | decide +kernel)
set_option maxRecDepth 20000 in
theorem tw_387 : (Cond.methodLink RX3 (112 : Nat) yJx00060_init_a7421) ∈ tg := tg_at 421 (by first | rfl | decide +kernel) (by first | rfl | decide +kernel)
set_option maxRecDepth 20000 in
theorem tw_388 : (Cond.instanceMethod yJx00060_init_a7421) ∈ tg := tg_at 422 (by first | rfl | decide +kernel) (by first | rfl | decide +kernel)
set_option maxRecDepth 20000 in
theorem tw_389 : (Cond.code yJx00060_init_a7421 cJx00060_init_a7421 (2 : Nat) (Option.none : Option FieldType)) ∈ tg := tg_at 423 (by first | rfl | decide +kernel) (by first | rfl | decide +kernel)
set_option maxRecDepth 20000 in
theorem tw_390 : (Cond.methodLink RJx00060 (7 : Nat) (⟨"java/lang/IndexOutOfBoundsException", "<init>", "(Ljava/lang/String;)V"⟩ : MethodName)) ∈ tg := tg_at 424 (by first | rfl | decide +kernel) (by first | rfl | decide +kernel)
set_option maxRecDepth 20000 in
theorem tw_391 : (Cond.instanceMethod (⟨"java/lang/IndexOutOfBoundsException", "<init>", "(Ljava/lang/String;)V"⟩ : MethodName)) ∈ tg := tg_at 425 (by first | rfl | decide +kernel) (by first | rfl | decide +kernel)
set_option maxRecDepth 20000 in
theorem tw_392 : (Cond.code (⟨"java/lang/IndexOutOfBoundsException", "<init>", "(Ljava/lang/String;)V"⟩ : MethodName) prog_9_method_2_code (2 : Nat) (Option.none : Option FieldType)) ∈ tg := tg_at 426 (by first | rfl | decide +kernel) (by first | rfl | decide +kernel)
set_option maxRecDepth 20000 in
theorem tw_393 : (Cond.methodLink "java/lang/IndexOutOfBoundsException" (7 : Nat) (⟨"java/lang/RuntimeException", "<init>", "(Ljava/lang/String;)V"⟩ : MethodName)) ∈ tg := tg_at 427 (by first | rfl | decide +kernel) (by first | rfl | decide +kernel)
set_option maxRecDepth 20000 in
theorem tw_394 : (Cond.instanceMethod (⟨"java/lang/RuntimeException", "<init>", "(Ljava/lang/String;)V"⟩ : MethodName)) ∈ tg := tg_at 428 (by first | rfl | decide +kernel) (by first | rfl | decide +kernel)
set_option maxRecDepth 20000 in
theorem tw_395 : (Cond.code (⟨"java/lang/RuntimeException", "<init>", "(Ljava/lang/String;)V"⟩ : MethodName) prog_11_method_2_code (2 : Nat) (Option.none : Option FieldType)) ∈ tg := tg_at 429 (by first | rfl | decide +kernel) (by first | rfl | decide +kernel)
set_option maxRecDepth 20000 in
theorem tw_396 : (Cond.methodLink "java/lang/RuntimeException" (7 : Nat) (⟨"java/lang/Exception", "<init>", "(Ljava/lang/String;)V"⟩ : MethodName)) ∈ tg := tg_at 430 (by first | rfl | decide +kernel) (by first | rfl | decide +kernel)
set_option maxRecDepth 20000 in
theorem tw_397 : (Cond.instanceMethod (⟨"java/lang/Exception", "<init>", "(Ljava/lang/String;)V"⟩ : MethodName)) ∈ tg := tg_at 431 (by first | rfl | decide +kernel) (by first | rfl | decide +kernel)
set_option maxRecDepth 20000 in
theorem tw_398 : (Cond.code (⟨"java/lang/Exception", "<init>", "(Ljava/lang/String;)V"⟩ : MethodName) prog_8_method_2_code (2 : Nat) (Option.none : Option FieldType)) ∈ tg := tg_at 432 (by first | rfl | decide +kernel) (by first | rfl | decide +kernel)
set_option maxRecDepth 20000 in
theorem tw_399 : (Cond.methodLink "java/lang/Exception" (7 : Nat) (⟨"java/lang/Throwable", "<init>", "(Ljava/lang/String;)V"⟩ : MethodName)) ∈ tg := tg_at 433 (by first | rfl | decide +kernel) (by first | rfl | decide +kernel)
set_option maxRecDepth 20000 in
theorem tw_400 : (Cond.instanceMethod (⟨"java/lang/Throwable", "<init>", "(Ljava/lang/String;)V"⟩ : MethodName)) ∈ tg := tg_at 434 (by first | rfl | decide +kernel) (by first | rfl | decide +kernel)
set_option maxRecDepth 20000 in
theorem tw_401 : (Cond.code (⟨"java/lang/Throwable", "<init>", "(Ljava/lang/String;)V"⟩ : MethodName) prog_13_method_2_code (2 : Nat) (Option.none : Option FieldType)) ∈ tg := tg_at 435 (by first | rfl | decide +kernel) (by first | rfl | decide +kernel)
set_option maxRecDepth 20000 in
theorem tw_402 : (Cond.fieldLink "java/lang/Throwable" (198 : Nat) "java/lang/Throwable" "backtrace" "Ljava/lang/Object;") ∈ tg := tg_at 436 (by first | rfl | decide +kernel) (by first | rfl | decide +kernel)
set_option maxRecDepth 20000 in
theorem tw_403 : (Cond.fieldLink "java/lang/Throwable" (31 : Nat) "java/lang/Throwable" "detailMessage" "Ljava/lang/String;") ∈ tg := tg_at 437 (by first | rfl | decide +kernel) (by first | rfl | decide +kernel)
set_option maxRecDepth 20000 in
theorem tw_404 : (Cond.fieldLink "java/lang/Throwable" (7 : Nat) "java/lang/Throwable" "cause" "Ljava/lang/Throwable;") ∈ tg := tg_at 438 (by first | rfl | decide +kernel) (by first | rfl | decide +kernel)
set_option maxRecDepth 20000 in
theorem tw_405 : (Cond.fieldLink "java/lang/Throwable" (17 : Nat) "java/lang/Throwable" "stackTrace" "[Ljava/lang/StackTraceElement;") ∈ tg := tg_at 439 (by first | rfl | decide +kernel) (by first | rfl | decide +kernel)
set_option maxRecDepth 20000 in
theorem tw_406 : (Cond.fieldLink "java/lang/Throwable" (24 : Nat) "java/lang/Throwable" "suppressedExceptions" "Ljava/util/List;") ∈ tg := tg_at 440 (by first | rfl | decide +kernel) (by first | rfl | decide +kernel)
set_option maxRecDepth 20000 in
theorem tw_411 : (Cond.lays RJx00060 "java/lang/Throwable" "depth" "I") ∈ tg := tg_at 445 (by first | rfl | decide +kernel) (by first | rfl | decide +kernel)
set_option maxRecDepth 20000 in
theorem tw_414 : (Cond.superclass "java/lang/ArrayIndexOutOfBoundsException" "java/lang/IndexOutOfBoundsException") ∈ tg := tg_at 448 (by first | rfl | decide +kernel) (by first | rfl | decide +kernel)
set_option maxRecDepth 20000 in
theorem tw_415 : (Cond.arrayClass FieldType.byte) ∈ tg := tg_at 449 (by first | rfl | decide +kernel) (by first | rfl | decide +kernel)
set_option maxRecDepth 20000 in
theorem tw_416 : (Cond.classLink RL (16 : Nat) RX4) ∈ tg := tg_at 450 (by first | rfl | decide +kernel) (by first | rfl | decide +kernel)
set_option maxRecDepth 20000 in
theorem tw_417 : (Cond.instantiable RX4 (21 : Nat)) ∈ tg := tg_at 451 (by first | rfl | decide +kernel) (by first | rfl | decide +kernel)
set_option maxRecDepth 20000 in
theorem tw_418 : (Cond.methodLink RL (18 : Nat) yX4_init) ∈ tg := tg_at 452 (by first | rfl | decide +kernel) (by first | rfl | decide +kernel)
set_option maxRecDepth 20000 in
theorem tw_419 : (Cond.instanceMethod yX4_init) ∈ tg := tg_at 453 (by first | rfl | decide +kernel) (by first | rfl | decide +kernel)
set_option maxRecDepth 20000 in
theorem tw_420 : (Cond.code yX4_init cX4_init (1 : Nat) (Option.none : Option FieldType)) ∈ tg := tg_at 454 (by first | rfl | decide +kernel) (by first | rfl | decide +kernel)
set_option maxRecDepth 20000 in
theorem tw_421 : (Cond.methodLink RX4 (1 : Nat) objectInit) ∈ tg := tg_at 455 (by first | rfl | decide +kernel) (by first | rfl | decide +kernel)
set_option maxRecDepth 20000 in
theorem tw_422 : (Cond.constant RX4 (32 : Nat) (41984 : Int32)) ∈ tg := tg_at 456 (by first | rfl | decide +kernel) (by first | rfl | decide +kernel)
set_option maxRecDepth 20000 in
theorem tw_423 : (Cond.fieldLink RX4 (58 : Nat) "PathStepsModel" "refusal" "I") ∈ tg := tg_at 457 (by first | rfl | decide +kernel) (by first | rfl | decide +kernel)
set_option maxRecDepth 20000 in
theorem tw_424 : (Cond.fieldLink RX4 (7 : Nat) "PathStepsModel" "subjects" "[I") ∈ tg := tg_at 458 (by first | rfl | decide +kernel) (by first | rfl | decide +kernel)
set_option maxRecDepth 20000 in
theorem tw_425 : (Cond.fieldLink RX4 (13 : Nat) "PathStepsModel" "predicates" "[I") ∈ tg := tg_at 459 (by first | rfl | decide +kernel) (by first | rfl | decide +kernel)
set_option maxRecDepth 20000 in
theorem tw_426 : (Cond.fieldLink RX4 (16 : Nat) "PathStepsModel" "objects" "[I") ∈ tg := tg_at 460 (by first | rfl | decide +kernel) (by first | rfl | decide +kernel)
set_option maxRecDepth 20000 in
theorem tw_427 : (Cond.fieldLink RX4 (72 : Nat) "PathStepsModel" "triples" "I") ∈ tg := tg_at 461 (by first | rfl | decide +kernel) (by first | rfl | decide +kernel)
set_option maxRecDepth 20000 in
theorem tw_428 : (Cond.fieldLink RX4 (19 : Nat) "PathStepsModel" "kinds" "[I") ∈ tg := tg_at 462 (by first | rfl | decide +kernel) (by first | rfl | decide +kernel)
set_option maxRecDepth 20000 in
theorem tw_429 : (Cond.fieldLink RX4 (22 : Nat) "PathStepsModel" "first" "[I") ∈ tg := tg_at 463 (by first | rfl | decide +kernel) (by first | rfl | decide +kernel)
set_option maxRecDepth 20000 in
theorem tw_430 : (Cond.fieldLink RX4 (25 : Nat) "PathStepsModel" "second" "[I") ∈ tg := tg_at 464 (by first | rfl | decide +kernel) (by first | rfl | decide +kernel)
set_option maxRecDepth 20000 in
theorem tw_431 : (Cond.fieldLink RX4 (65 : Nat) "PathStepsModel" "paths" "I") ∈ tg := tg_at 465 (by first | rfl | decide +kernel) (by first | rfl | decide +kernel)
set_option maxRecDepth 20000 in
theorem tw_432 : (Cond.fieldLink RX4 (28 : Nat) "PathStepsModel" "most" "I") ∈ tg := tg_at 466 (by first | rfl | decide +kernel) (by first | rfl | decide +kernel)
set_option maxRecDepth 20000 in
theorem tw_433 : (Cond.fieldLink RX4 (33 : Nat) "PathStepsModel" "table" "[I") ∈ tg := tg_at 467 (by first | rfl | decide +kernel) (by first | rfl | decide +kernel)
set_option maxRecDepth 20000 in
theorem tw_434 : (Cond.fieldLink RX4 (36 : Nat) "PathStepsModel" "isNeeded" "[Z") ∈ tg := tg_at 468 (by first | rfl | decide +kernel) (by first | rfl | decide +kernel)
set_option maxRecDepth 20000 in
theorem tw_435 : (Cond.fieldLink RX4 (40 : Nat) "PathStepsModel" "isIn" "[Z") ∈ tg := tg_at 469 (by first | rfl | decide +kernel) (by first | rfl | decide +kernel)
set_option maxRecDepth 20000 in
theorem tw_436 : (Cond.fieldLink RX4 (95 : Nat) "PathStepsModel" "goesBeyond" "Z") ∈ tg := tg_at 470 (by first | rfl | decide +kernel) (by first | rfl | decide +kernel)
set_option maxRecDepth 20000 in
theorem tw_437 : (Cond.fieldLink RX4 (43 : Nat) "PathStepsModel" "steps" "[I") ∈ tg := tg_at 471 (by first | rfl | decide +kernel) (by first | rfl | decide +kernel)
set_option maxRecDepth 20000 in
theorem tw_438 : (Cond.fieldLink RX4 (46 : Nat) "PathStepsModel" "queue" "[I") ∈ tg := tg_at 472 (by first | rfl | decide +kernel) (by first | rfl | decide +kernel)
set_option maxRecDepth 20000 in
theorem tw_439 : (Cond.fieldLink RX4 (129 : Nat) "PathStepsModel" "wasRun" "Z") ∈ tg := tg_at 473 (by first | rfl | decide +kernel) (by first | rfl | decide +kernel)
set_option maxRecDepth 20000 in
theorem tw_440 : (Cond.fieldLink RX4 (132 : Nat) "PathStepsModel" "rows" "I") ∈ tg := tg_at 474 (by first | rfl | decide +kernel) (by first | rfl | decide +kernel)
set_option maxRecDepth 20000 in
theorem tw_441 : (Cond.fieldLink RX4 (49 : Nat) "PathStepsModel" "rowFrom" "[I") ∈ tg := tg_at 475 (by first | rfl | decide +kernel) (by first | rfl | decide +kernel)
set_option maxRecDepth 20000 in
theorem tw_442 : (Cond.fieldLink RX4 (52 : Nat) "PathStepsModel" "rowTo" "[I") ∈ tg := tg_at 476 (by first | rfl | decide +kernel) (by first | rfl | decide +kernel)
set_option maxRecDepth 20000 in
theorem tw_443 : (Cond.fieldLink RX4 (55 : Nat) "PathStepsModel" "rowDepth" "[I") ∈ tg := tg_at 477 (by first | rfl | decide +kernel) (by first | rfl | decide +kernel)
set_option maxRecDepth 20000 in
theorem tw_444 : (Cond.lays RX4 "PathStepsModel" "refusal" "I") ∈ tg := tg_at 478 (by first | rfl | decide +kernel) (by first | rfl | decide +kernel)
set_option maxRecDepth 20000 in
theorem tw_446 : (Cond.laysFinal RX4 "PathStepsModel" "subjects" "[I") ∈ tg := tg_at 480 (by first | rfl | decide +kernel) (by first | rfl | decide +kernel)
set_option maxRecDepth 20000 in
theorem tw_448 : (Cond.laysFinal RX4 "PathStepsModel" "predicates" "[I") ∈ tg := tg_at 482 (by first | rfl | decide +kernel) (by first | rfl | decide +kernel)
set_option maxRecDepth 20000 in
theorem tw_450 : (Cond.laysFinal RX4 "PathStepsModel" "objects" "[I") ∈ tg := tg_at 484 (by first | rfl | decide +kernel) (by first | rfl | decide +kernel)
set_option maxRecDepth 20000 in
theorem tw_452 : (Cond.lays RX4 "PathStepsModel" "triples" "I") ∈ tg := tg_at 486 (by first | rfl | decide +kernel) (by first | rfl | decide +kernel)
set_option maxRecDepth 20000 in
theorem tw_454 : (Cond.laysFinal RX4 "PathStepsModel" "kinds" "[I") ∈ tg := tg_at 488 (by first | rfl | decide +kernel) (by first | rfl | decide +kernel)
set_option maxRecDepth 20000 in
theorem tw_456 : (Cond.laysFinal RX4 "PathStepsModel" "first" "[I") ∈ tg := tg_at 490 (by first | rfl | decide +kernel) (by first | rfl | decide +kernel)
set_option maxRecDepth 20000 in
theorem tw_458 : (Cond.laysFinal RX4 "PathStepsModel" "second" "[I") ∈ tg := tg_at 492 (by first | rfl | decide +kernel) (by first | rfl | decide +kernel)
set_option maxRecDepth 20000 in
theorem tw_460 : (Cond.lays RX4 "PathStepsModel" "paths" "I") ∈ tg := tg_at 494 (by first | rfl | decide +kernel) (by first | rfl | decide +kernel)
set_option maxRecDepth 20000 in
theorem tw_462 : (Cond.lays RX4 "PathStepsModel" "most" "I") ∈ tg := tg_at 496 (by first | rfl | decide +kernel) (by first | rfl | decide +kernel)
set_option maxRecDepth 20000 in
theorem tw_464 : (Cond.laysFinal RX4 "PathStepsModel" "table" "[I") ∈ tg := tg_at 498 (by first | rfl | decide +kernel) (by first | rfl | decide +kernel)
set_option maxRecDepth 20000 in
theorem tw_466 : (Cond.laysFinal RX4 "PathStepsModel" "isNeeded" "[Z") ∈ tg := tg_at 500 (by first | rfl | decide +kernel) (by first | rfl | decide +kernel)
set_option maxRecDepth 20000 in
theorem tw_468 : (Cond.laysFinal RX4 "PathStepsModel" "isIn" "[Z") ∈ tg := tg_at 502 (by first | rfl | decide +kernel) (by first | rfl | decide +kernel)
set_option maxRecDepth 20000 in
theorem tw_470 : (Cond.lays RX4 "PathStepsModel" "goesBeyond" "Z") ∈ tg := tg_at 504 (by first | rfl | decide +kernel) (by first | rfl | decide +kernel)
set_option maxRecDepth 20000 in
theorem tw_472 : (Cond.laysFinal RX4 "PathStepsModel" "steps" "[I") ∈ tg := tg_at 506 (by first | rfl | decide +kernel) (by first | rfl | decide +kernel)
set_option maxRecDepth 20000 in
theorem tw_474 : (Cond.laysFinal RX4 "PathStepsModel" "queue" "[I") ∈ tg := tg_at 508 (by first | rfl | decide +kernel) (by first | rfl | decide +kernel)
set_option maxRecDepth 20000 in
theorem tw_476 : (Cond.lays RX4 "PathStepsModel" "wasRun" "Z") ∈ tg := tg_at 510 (by first | rfl | decide +kernel) (by first | rfl | decide +kernel)
set_option maxRecDepth 20000 in
theorem tw_478 : (Cond.lays RX4 "PathStepsModel" "rows" "I") ∈ tg := tg_at 512 (by first | rfl | decide +kernel) (by first | rfl | decide +kernel)
set_option maxRecDepth 20000 in
theorem tw_480 : (Cond.laysFinal RX4 "PathStepsModel" "rowFrom" "[I") ∈ tg := tg_at 514 (by first | rfl | decide +kernel) (by first | rfl | decide +kernel)
set_option maxRecDepth 20000 in
theorem tw_482 : (Cond.laysFinal RX4 "PathStepsModel" "rowTo" "[I") ∈ tg := tg_at 516 (by first | rfl | decide +kernel) (by first | rfl | decide +kernel)
set_option maxRecDepth 20000 in
theorem tw_484 : (Cond.laysFinal RX4 "PathStepsModel" "rowDepth" "[I") ∈ tg := tg_at 518 (by first | rfl | decide +kernel) (by first | rfl | decide +kernel)
set_option maxRecDepth 20000 in
theorem tw_486 : (Cond.superclass "PathStepsModel" "java/lang/Object") ∈ tg := tg_at 520 (by first | rfl | decide +kernel) (by first | rfl | decide +kernel)
set_option maxRecDepth 20000 in
theorem tw_487 : (Cond.arrayClass FieldType.boolean) ∈ tg := tg_at 521 (by first | rfl | decide +kernel) (by first | rfl | decide +kernel)
set_option maxRecDepth 20000 in
theorem tw_488 : (Cond.methodLink RL (60 : Nat) yX4_thrown) ∈ tg := tg_at 522 (by first | rfl | decide +kernel) (by first | rfl | decide +kernel)
set_option maxRecDepth 20000 in
theorem tw_489 : (Cond.instanceMethod yX4_thrown) ∈ tg := tg_at 523 (by first | rfl | decide +kernel) (by first | rfl | decide +kernel)
set_option maxRecDepth 20000 in
theorem tw_490 : (Cond.selects RX4 yX4_thrown yX4_thrown) ∈ tg := tg_at 524 (by first | rfl | decide +kernel) (by first | rfl | decide +kernel)
set_option maxRecDepth 20000 in
theorem tw_491 : (Cond.code yX4_thrown cX4_thrown (1 : Nat) (Option.some FieldType.int)) ∈ tg := tg_at 525 (by first | rfl | decide +kernel) (by first | rfl | decide +kernel)
set_option maxRecDepth 20000 in
theorem tw_492 : (Cond.methodLink RL (23 : Nat) yX4_triple) ∈ tg := tg_at 526 (by first | rfl | decide +kernel) (by first | rfl | decide +kernel)
set_option maxRecDepth 20000 in
theorem tw_493 : (Cond.instanceMethod yX4_triple) ∈ tg := tg_at 527 (by first | rfl | decide +kernel) (by first | rfl | decide +kernel)
set_option maxRecDepth 20000 in
theorem tw_494 : (Cond.selects RX4 yX4_triple yX4_triple) ∈ tg := tg_at 528 (by first | rfl | decide +kernel) (by first | rfl | decide +kernel)
set_option maxRecDepth 20000 in
theorem tw_495 : (Cond.code yX4_triple cX4_triple (5 : Nat) (Option.some FieldType.int)) ∈ tg := tg_at 529 (by first | rfl | decide +kernel) (by first | rfl | decide +kernel)
set_option maxRecDepth 20000 in
theorem tw_496 : (Cond.methodLink RX4 (68 : Nat) yX4_isNode) ∈ tg := tg_at 530 (by first | rfl | decide +kernel) (by first | rfl | decide +kernel)
set_option maxRecDepth 20000 in
theorem tw_497 : (Cond.static yX4_isNode) ∈ tg := tg_at 531 (by first | rfl | decide +kernel) (by first | rfl | decide +kernel)
set_option maxRecDepth 20000 in
theorem tw_498 : (Cond.code yX4_isNode cX4_isNode (1 : Nat) (Option.some FieldType.boolean)) ∈ tg := tg_at 532 (by first | rfl | decide +kernel) (by first | rfl | decide +kernel)
set_option maxRecDepth 20000 in
theorem tw_499 : (Cond.methodLink RX4 (61 : Nat) yX4_isBetween) ∈ tg := tg_at 533 (by first | rfl | decide +kernel) (by first | rfl | decide +kernel)
set_option maxRecDepth 20000 in
theorem tw_500 : (Cond.static yX4_isBetween) ∈ tg := tg_at 534 (by first | rfl | decide +kernel) (by first | rfl | decide +kernel)
set_option maxRecDepth 20000 in
theorem tw_501 : (Cond.code yX4_isBetween cX4_isBetween (3 : Nat) (Option.some FieldType.boolean)) ∈ tg := tg_at 535 (by first | rfl | decide +kernel) (by first | rfl | decide +kernel)
set_option maxRecDepth 20000 in
theorem tw_502 : (Cond.methodLink RL (27 : Nat) yX4_path) ∈ tg := tg_at 536 (by first | rfl | decide +kernel) (by first | rfl | decide +kernel)
set_option maxRecDepth 20000 in
theorem tw_503 : (Cond.instanceMethod yX4_path) ∈ tg := tg_at 537 (by first | rfl | decide +kernel) (by first | rfl | decide +kernel)
set_option maxRecDepth 20000 in
theorem tw_504 : (Cond.selects RX4 yX4_path yX4_path) ∈ tg := tg_at 538 (by first | rfl | decide +kernel) (by first | rfl | decide +kernel)
set_option maxRecDepth 20000 in
theorem tw_505 : (Cond.code yX4_path cX4_path (4 : Nat) (Option.some FieldType.int)) ∈ tg := tg_at 539 (by first | rfl | decide +kernel) (by first | rfl | decide +kernel)
set_option maxRecDepth 20000 in
theorem tw_506 : (Cond.methodLink RX4 (75 : Nat) yX4_isPath) ∈ tg := tg_at 540 (by first | rfl | decide +kernel) (by first | rfl | decide +kernel)
set_option maxRecDepth 20000 in
theorem tw_508 : (Cond.instanceMethod yX4_isPath) ∈ tg := tg_at 542 (by first | rfl | decide +kernel) (by first | rfl | decide +kernel)
set_option maxRecDepth 20000 in
theorem tw_509 : (Cond.code yX4_isPath cX4_isPath (2 : Nat) (Option.some FieldType.boolean)) ∈ tg := tg_at 543 (by first | rfl | decide +kernel) (by first | rfl | decide +kernel)
set_option maxRecDepth 20000 in
theorem tw_510 : (Cond.methodLink RX4 (78 : Nat) yX4_made) ∈ tg := tg_at 544 (by first | rfl | decide +kernel) (by first | rfl | decide +kernel)
set_option maxRecDepth 20000 in
theorem tw_512 : (Cond.instanceMethod yX4_made) ∈ tg := tg_at 546 (by first | rfl | decide +kernel) (by first | rfl | decide +kernel)
set_option maxRecDepth 20000 in
theorem tw_513 : (Cond.code yX4_made cX4_made (4 : Nat) (Option.some FieldType.int)) ∈ tg := tg_at 547 (by first | rfl | decide +kernel) (by first | rfl | decide +kernel)
set_option maxRecDepth 20000 in
theorem tw_514 : (Cond.methodLink RL (67 : Nat) yX4_inverse) ∈ tg := tg_at 548 (by first | rfl | decide +kernel) (by first | rfl | decide +kernel)
set_option maxRecDepth 20000 in
theorem tw_515 : (Cond.instanceMethod yX4_inverse) ∈ tg := tg_at 549 (by first | rfl | decide +kernel) (by first | rfl | decide +kernel)
set_option maxRecDepth 20000 in
theorem tw_516 : (Cond.selects RX4 yX4_inverse yX4_inverse) ∈ tg := tg_at 550 (by first | rfl | decide +kernel) (by first | rfl | decide +kernel)
set_option maxRecDepth 20000 in
theorem tw_517 : (Cond.code yX4_inverse cX4_inverse (2 : Nat) (Option.some FieldType.int)) ∈ tg := tg_at 551 (by first | rfl | decide +kernel) (by first | rfl | decide +kernel)
set_option maxRecDepth 20000 in
theorem tw_518 : (Cond.methodLink RL (71 : Nat) yX4_negated) ∈ tg := tg_at 552 (by first | rfl | decide +kernel) (by first | rfl | decide +kernel)
set_option maxRecDepth 20000 in
theorem tw_519 : (Cond.instanceMethod yX4_negated) ∈ tg := tg_at 553 (by first | rfl | decide +kernel) (by first | rfl | decide +kernel)
set_option maxRecDepth 20000 in
theorem tw_520 : (Cond.selects RX4 yX4_negated yX4_negated) ∈ tg := tg_at 554 (by first | rfl | decide +kernel) (by first | rfl | decide +kernel)
set_option maxRecDepth 20000 in
theorem tw_521 : (Cond.code yX4_negated cX4_negated (3 : Nat) (Option.some FieldType.int)) ∈ tg := tg_at 555 (by first | rfl | decide +kernel) (by first | rfl | decide +kernel)
set_option maxRecDepth 20000 in
theorem tw_522 : (Cond.methodLink RL (31 : Nat) yX4_from) ∈ tg := tg_at 556 (by first | rfl | decide +kernel) (by first | rfl | decide +kernel)
set_option maxRecDepth 20000 in
theorem tw_523 : (Cond.instanceMethod yX4_from) ∈ tg := tg_at 557 (by first | rfl | decide +kernel) (by first | rfl | decide +kernel)
set_option maxRecDepth 20000 in
theorem tw_524 : (Cond.selects RX4 yX4_from yX4_from) ∈ tg := tg_at 558 (by first | rfl | decide +kernel) (by first | rfl | decide +kernel)
set_option maxRecDepth 20000 in
theorem tw_525 : (Cond.code yX4_from cX4_from (4 : Nat) (Option.some FieldType.int)) ∈ tg := tg_at 559 (by first | rfl | decide +kernel) (by first | rfl | decide +kernel)
set_option maxRecDepth 20000 in
theorem tw_526 : (Cond.methodLink RL (48 : Nat) yX4_steps) ∈ tg := tg_at 560 (by first | rfl | decide +kernel) (by first | rfl | decide +kernel)
set_option maxRecDepth 20000 in
theorem tw_527 : (Cond.instanceMethod yX4_steps) ∈ tg := tg_at 561 (by first | rfl | decide +kernel) (by first | rfl | decide +kernel)
set_option maxRecDepth 20000 in
theorem tw_528 : (Cond.selects RX4 yX4_steps yX4_steps) ∈ tg := tg_at 562 (by first | rfl | decide +kernel) (by first | rfl | decide +kernel)
set_option maxRecDepth 20000 in
theorem tw_529 : (Cond.code yX4_steps cX4_steps (2 : Nat) (Option.some FieldType.int)) ∈ tg := tg_at 563 (by first | rfl | decide +kernel) (by first | rfl | decide +kernel)
set_option maxRecDepth 20000 in
theorem tw_530 : (Cond.methodLink RL (35 : Nat) yX4_run) ∈ tg := tg_at 564 (by first | rfl | decide +kernel) (by first | rfl | decide +kernel)
set_option maxRecDepth 20000 in
theorem tw_531 : (Cond.instanceMethod yX4_run) ∈ tg := tg_at 565 (by first | rfl | decide +kernel) (by first | rfl | decide +kernel)
set_option maxRecDepth 20000 in
theorem tw_532 : (Cond.selects RX4 yX4_run yX4_run) ∈ tg := tg_at 566 (by first | rfl | decide +kernel) (by first | rfl | decide +kernel)
set_option maxRecDepth 20000 in
theorem tw_533 : (Cond.code yX4_run cX4_run (11 : Nat) (Option.some FieldType.int)) ∈ tg := tg_at 567 (by first | rfl | decide +kernel) (by first | rfl | decide +kernel)
set_option maxRecDepth 20000 in
theorem tw_534 : (Cond.methodLink RX4 (123 : Nat) yX4_isEnd) ∈ tg := tg_at 568 (by first | rfl | decide +kernel) (by first | rfl | decide +kernel)
set_option maxRecDepth 20000 in
theorem tw_535 : (Cond.static yX4_isEnd) ∈ tg := tg_at 569 (by first | rfl | decide +kernel) (by first | rfl | decide +kernel)
set_option maxRecDepth 20000 in
theorem tw_536 : (Cond.code yX4_isEnd cX4_isEnd (1 : Nat) (Option.some FieldType.boolean)) ∈ tg := tg_at 570 (by first | rfl | decide +kernel) (by first | rfl | decide +kernel)
set_option maxRecDepth 20000 in
theorem tw_537 : (Cond.methodLink RX4 (126 : Nat) yX4_prepare) ∈ tg := tg_at 571 (by first | rfl | decide +kernel) (by first | rfl | decide +kernel)
set_option maxRecDepth 20000 in
theorem tw_539 : (Cond.instanceMethod yX4_prepare) ∈ tg := tg_at 573 (by first | rfl | decide +kernel) (by first | rfl | decide +kernel)
set_option maxRecDepth 20000 in
theorem tw_540 : (Cond.code yX4_prepare cX4_prepare (7 : Nat) (Option.some FieldType.int)) ∈ tg := tg_at 574 (by first | rfl | decide +kernel) (by first | rfl | decide +kernel)
set_option maxRecDepth 20000 in
theorem tw_541 : (Cond.methodLink RX4 (110 : Nat) yX4_findNeeded) ∈ tg := tg_at 575 (by first | rfl | decide +kernel) (by first | rfl | decide +kernel)
set_option maxRecDepth 20000 in
theorem tw_543 : (Cond.instanceMethod yX4_findNeeded) ∈ tg := tg_at 577 (by first | rfl | decide +kernel) (by first | rfl | decide +kernel)
set_option maxRecDepth 20000 in
theorem tw_544 : (Cond.code yX4_findNeeded cX4_findNeeded (3 : Nat) (Option.none : Option FieldType)) ∈ tg := tg_at 578 (by first | rfl | decide +kernel) (by first | rfl | decide +kernel)
set_option maxRecDepth 20000 in
theorem tw_545 : (Cond.methodLink RX4 (113 : Nat) yX4_findGraph) ∈ tg := tg_at 579 (by first | rfl | decide +kernel) (by first | rfl | decide +kernel)
set_option maxRecDepth 20000 in
theorem tw_547 : (Cond.instanceMethod yX4_findGraph) ∈ tg := tg_at 581 (by first | rfl | decide +kernel) (by first | rfl | decide +kernel)
set_option maxRecDepth 20000 in
theorem tw_548 : (Cond.code yX4_findGraph cX4_findGraph (4 : Nat) (Option.none : Option FieldType)) ∈ tg := tg_at 582 (by first | rfl | decide +kernel) (by first | rfl | decide +kernel)
set_option maxRecDepth 20000 in
theorem tw_549 : (Cond.methodLink RX4 (116 : Nat) yX4_makeTable) ∈ tg := tg_at 583 (by first | rfl | decide +kernel) (by first | rfl | decide +kernel)
set_option maxRecDepth 20000 in
theorem tw_551 : (Cond.instanceMethod yX4_makeTable) ∈ tg := tg_at 585 (by first | rfl | decide +kernel) (by first | rfl | decide +kernel)
set_option maxRecDepth 20000 in
theorem tw_552 : (Cond.code yX4_makeTable cX4_makeTable (4 : Nat) (Option.none : Option FieldType)) ∈ tg := tg_at 586 (by first | rfl | decide +kernel) (by first | rfl | decide +kernel)
set_option maxRecDepth 20000 in
theorem tw_553 : (Cond.methodLink RX4 (99 : Nat) yX4_makeLinks) ∈ tg := tg_at 587 (by first | rfl | decide +kernel) (by first | rfl | decide +kernel)
set_option maxRecDepth 20000 in
theorem tw_555 : (Cond.instanceMethod yX4_makeLinks) ∈ tg := tg_at 589 (by first | rfl | decide +kernel) (by first | rfl | decide +kernel)
set_option maxRecDepth 20000 in
theorem tw_556 : (Cond.code yX4_makeLinks cX4_makeLinks (5 : Nat) (Option.none : Option FieldType)) ∈ tg := tg_at 590 (by first | rfl | decide +kernel) (by first | rfl | decide +kernel)
set_option maxRecDepth 20000 in
theorem tw_557 : (Cond.methodLink RX4 (84 : Nat) yX4_cell) ∈ tg := tg_at 591 (by first | rfl | decide +kernel) (by first | rfl | decide +kernel)
set_option maxRecDepth 20000 in
theorem tw_559 : (Cond.instanceMethod yX4_cell) ∈ tg := tg_at 593 (by first | rfl | decide +kernel) (by first | rfl | decide +kernel)
set_option maxRecDepth 20000 in
theorem tw_560 : (Cond.code yX4_cell cX4_cell (4 : Nat) (Option.some FieldType.int)) ∈ tg := tg_at 594 (by first | rfl | decide +kernel) (by first | rfl | decide +kernel)
set_option maxRecDepth 20000 in
theorem tw_561 : (Cond.methodLink RX4 (87 : Nat) yX4_put) ∈ tg := tg_at 595 (by first | rfl | decide +kernel) (by first | rfl | decide +kernel)
set_option maxRecDepth 20000 in
theorem tw_563 : (Cond.instanceMethod yX4_put) ∈ tg := tg_at 597 (by first | rfl | decide +kernel) (by first | rfl | decide +kernel)
set_option maxRecDepth 20000 in
theorem tw_564 : (Cond.code yX4_put cX4_put (6 : Nat) (Option.none : Option FieldType)) ∈ tg := tg_at 598 (by first | rfl | decide +kernel) (by first | rfl | decide +kernel)
set_option maxRecDepth 20000 in
theorem tw_565 : (Cond.constantLong RX4 (82 : Nat) (1000000 : Int64)) ∈ tg := tg_at 599 (by first | rfl | decide +kernel) (by first | rfl | decide +kernel)
set_option maxRecDepth 20000 in
theorem tw_566 : (Cond.methodLink RX4 (103 : Nat) yX4_makeWalks) ∈ tg := tg_at 600 (by first | rfl | decide +kernel) (by first | rfl | decide +kernel)
set_option maxRecDepth 20000 in
theorem tw_568 : (Cond.instanceMethod yX4_makeWalks) ∈ tg := tg_at 602 (by first | rfl | decide +kernel) (by first | rfl | decide +kernel)
set_option maxRecDepth 20000 in
theorem tw_569 : (Cond.code yX4_makeWalks cX4_makeWalks (6 : Nat) (Option.none : Option FieldType)) ∈ tg := tg_at 603 (by first | rfl | decide +kernel) (by first | rfl | decide +kernel)
set_option maxRecDepth 20000 in
theorem tw_570 : (Cond.methodLink RX4 (91 : Nat) yX4_walk) ∈ tg := tg_at 604 (by first | rfl | decide +kernel) (by first | rfl | decide +kernel)
set_option maxRecDepth 20000 in
theorem tw_572 : (Cond.instanceMethod yX4_walk) ∈ tg := tg_at 606 (by first | rfl | decide +kernel) (by first | rfl | decide +kernel)
set_option maxRecDepth 20000 in
theorem tw_573 : (Cond.code yX4_walk cX4_walk (7 : Nat) (Option.none : Option FieldType)) ∈ tg := tg_at 607 (by first | rfl | decide +kernel) (by first | rfl | decide +kernel)
set_option maxRecDepth 20000 in
theorem tw_574 : (Cond.methodLink RX4 (106 : Nat) yX4_joined) ∈ tg := tg_at 608 (by first | rfl | decide +kernel) (by first | rfl | decide +kernel)
set_option maxRecDepth 20000 in
theorem tw_576 : (Cond.instanceMethod yX4_joined) ∈ tg := tg_at 610 (by first | rfl | decide +kernel) (by first | rfl | decide +kernel)
set_option maxRecDepth 20000 in
theorem tw_577 : (Cond.code yX4_joined cX4_joined (9 : Nat) (Option.some FieldType.long)) ∈ tg := tg_at 611 (by first | rfl | decide +kernel) (by first | rfl | decide +kernel)
set_option maxRecDepth 20000 in
theorem tw_578 : (Cond.methodLink RX4 (119 : Nat) yX4_fits) ∈ tg := tg_at 612 (by first | rfl | decide +kernel) (by first | rfl | decide +kernel)
set_option maxRecDepth 20000 in
theorem tw_579 : (Cond.static yX4_fits) ∈ tg := tg_at 613 (by first | rfl | decide +kernel) (by first | rfl | decide +kernel)
set_option maxRecDepth 20000 in
theorem tw_580 : (Cond.code yX4_fits cX4_fits (4 : Nat) (Option.some FieldType.boolean)) ∈ tg := tg_at 614 (by first | rfl | decide +kernel) (by first | rfl | decide +kernel)
set_option maxRecDepth 20000 in
theorem tw_581 : (Cond.methodLink RL (44 : Nat) yX4_plain) ∈ tg := tg_at 615 (by first | rfl | decide +kernel) (by first | rfl | decide +kernel)
set_option maxRecDepth 20000 in
theorem tw_582 : (Cond.instanceMethod yX4_plain) ∈ tg := tg_at 616 (by first | rfl | decide +kernel) (by first | rfl | decide +kernel)
set_option maxRecDepth 20000 in
theorem tw_583 : (Cond.selects RX4 yX4_plain yX4_plain) ∈ tg := tg_at 617 (by first | rfl | decide +kernel) (by first | rfl | decide +kernel)
set_option maxRecDepth 20000 in
theorem tw_584 : (Cond.code yX4_plain cX4_plain (4 : Nat) (Option.some FieldType.int)) ∈ tg := tg_at 618 (by first | rfl | decide +kernel) (by first | rfl | decide +kernel)
set_option maxRecDepth 20000 in
theorem tw_585 : (Cond.methodLink RL (40 : Nat) yX4_at) ∈ tg := tg_at 619 (by first | rfl | decide +kernel) (by first | rfl | decide +kernel)
set_option maxRecDepth 20000 in
theorem tw_586 : (Cond.instanceMethod yX4_at) ∈ tg := tg_at 620 (by first | rfl | decide +kernel) (by first | rfl | decide +kernel)
set_option maxRecDepth 20000 in
theorem tw_587 : (Cond.selects RX4 yX4_at yX4_at) ∈ tg := tg_at 621 (by first | rfl | decide +kernel) (by first | rfl | decide +kernel)
set_option maxRecDepth 20000 in
theorem tw_588 : (Cond.code yX4_at cX4_at (3 : Nat) (Option.some FieldType.int)) ∈ tg := tg_at 622 (by first | rfl | decide +kernel) (by first | rfl | decide +kernel)
set_option maxRecDepth 20000 in
theorem tw_589 : (Cond.methodLink RX4 (135 : Nat) yX4_isRow) ∈ tg := tg_at 623 (by first | rfl | decide +kernel) (by first | rfl | decide +kernel)
set_option maxRecDepth 20000 in
theorem tw_591 : (Cond.instanceMethod yX4_isRow) ∈ tg := tg_at 625 (by first | rfl | decide +kernel) (by first | rfl | decide +kernel)
set_option maxRecDepth 20000 in
theorem tw_592 : (Cond.code yX4_isRow cX4_isRow (2 : Nat) (Option.some FieldType.boolean)) ∈ tg := tg_at 626 (by first | rfl | decide +kernel) (by first | rfl | decide +kernel)
set_option maxRecDepth 20000 in
theorem tw_593 : (Cond.methodLink RL (53 : Nat) yX4_cycle) ∈ tg := tg_at 627 (by first | rfl | decide +kernel) (by first | rfl | decide +kernel)
set_option maxRecDepth 20000 in
theorem tw_594 : (Cond.instanceMethod yX4_cycle) ∈ tg := tg_at 628 (by first | rfl | decide +kernel) (by first | rfl | decide +kernel)
set_option maxRecDepth 20000 in
theorem tw_595 : (Cond.selects RX4 yX4_cycle yX4_cycle) ∈ tg := tg_at 629 (by first | rfl | decide +kernel) (by first | rfl | decide +kernel)
set_option maxRecDepth 20000 in
theorem tw_596 : (Cond.code yX4_cycle cX4_cycle (2 : Nat) (Option.some FieldType.boolean)) ∈ tg := tg_at 630 (by first | rfl | decide +kernel) (by first | rfl | decide +kernel)
set_option maxRecDepth 20000 in
theorem tw_597 : (Cond.methodLink RL (59 : Nat) yX4_depth) ∈ tg := tg_at 631 (by first | rfl | decide +kernel) (by first | rfl | decide +kernel)
set_option maxRecDepth 20000 in
theorem tw_598 : (Cond.instanceMethod yX4_depth) ∈ tg := tg_at 632 (by first | rfl | decide +kernel) (by first | rfl | decide +kernel)
set_option maxRecDepth 20000 in
theorem tw_599 : (Cond.selects RX4 yX4_depth yX4_depth) ∈ tg := tg_at 633 (by first | rfl | decide +kernel) (by first | rfl | decide +kernel)
set_option maxRecDepth 20000 in
theorem tw_600 : (Cond.code yX4_depth cX4_depth (2 : Nat) (Option.some FieldType.int)) ∈ tg := tg_at 634 (by first | rfl | decide +kernel) (by first | rfl | decide +kernel)
set_option maxRecDepth 20000 in
theorem tw_601 : (Cond.arrayClass FieldType.long) ∈ tg := tg_at 635 (by first | rfl | decide +kernel) (by first | rfl | decide +kernel)
set_option maxRecDepth 20000 in
theorem tw_602 : (Cond.sameMethod "java/lang/Throwable" "java/lang/Throwable" "fillInStackTrace" "(I)Ljava/lang/Throwable;") ∈ tg := tg_at 636 (by first | rfl | decide +kernel) (by first | rfl | decide +kernel)
theorem tp_0 : Cond.selects RX3 yX3_keepPath yX3_keepPath ∈ tg := tg_at 0 (by first | rfl | decide +kernel) (by first | rfl | decide +kernel)
theorem tp_1 : Cond.selects RX3 yX3_known yX3_known ∈ tg := tg_at 1 (by first | rfl | decide +kernel) (by first | rfl | decide +kernel)
theorem tp_2 : Cond.selects RX3 yX3_keepOverTwo yX3_keepOverTwo ∈ tg := tg_at 2 (by first | rfl | decide +kernel) (by first | rfl | decide +kernel)
theorem tp_3 : Cond.selects RX3 yX3_keepOverOne yX3_keepOverOne ∈ tg := tg_at 3 (by first | rfl | decide +kernel) (by first | rfl | decide +kernel)
theorem tp_4 : Cond.selects RX3 yX3_countParts yX3_countParts ∈ tg := tg_at 4 (by first | rfl | decide +kernel) (by first | rfl | decide +kernel)
theorem tp_5 : Cond.selects RX0 yX0_forget yX0_forget ∈ tg := tg_at 5 (by first | rfl | decide +kernel) (by first | rfl | decide +kernel)
theorem tp_6 : Cond.selects RX0 yX0_countLinks yX0_countLinks ∈ tg := tg_at 6 (by first | rfl | decide +kernel) (by first | rfl | decide +kernel)
theorem tp_7 : Cond.selects RX0 yX0_addTimes yX0_addTimes ∈ tg := tg_at 7 (by first | rfl | decide +kernel) (by first | rfl | decide +kernel)
theorem tp_8 : Cond.selects RX0 yX0_countOverOne yX0_countOverOne ∈ tg := tg_at 8 (by first | rfl | decide +kernel) (by first | rfl | decide +kernel)
theorem tp_9 : Cond.selects RX0 yX0_countTurned yX0_countTurned ∈ tg := tg_at 9 (by first | rfl | decide +kernel) (by first | rfl | decide +kernel)
theorem tp_10 : Cond.selects RX0 yX0_joinByStep yX0_joinByStep ∈ tg := tg_at 10 (by first | rfl | decide +kernel) (by first | rfl | decide +kernel)
theorem tp_11 : Cond.selects RX0 yX0_joinOnwards yX0_joinOnwards ∈ tg := tg_at 11 (by first | rfl | decide +kernel) (by first | rfl | decide +kernel)
theorem tp_12 : Cond.selects RX0 yX0_joinSelves yX0_joinSelves ∈ tg := tg_at 12 (by first | rfl | decide +kernel) (by first | rfl | decide +kernel)
theorem tp_13 : Cond.selects RX0 yX0_countJoinedOnce yX0_countJoinedOnce ∈ tg := tg_at 13 (by first | rfl | decide +kernel) (by first | rfl | decide +kernel)
theorem tp_14 : Cond.selects RX0 yX0_countOverTwo yX0_countOverTwo ∈ tg := tg_at 14 (by first | rfl | decide +kernel) (by first | rfl | decide +kernel)
theorem tp_15 : Cond.selects RX0 yX0_countAll yX0_countAll ∈ tg := tg_at 15 (by first | rfl | decide +kernel) (by first | rfl | decide +kernel)
theorem tp_16 : Cond.selects RX0 yX0_countBehind yX0_countBehind ∈ tg := tg_at 16 (by first | rfl | decide +kernel) (by first | rfl | decide +kernel)
theorem tp_17 : Cond.selects RX0 yX0_addBehind yX0_addBehind ∈ tg := tg_at 17 (by first | rfl | decide +kernel) (by first | rfl | decide +kernel)
theorem tp_18 : Cond.selects RX3 yX3_goesBeyond yX3_goesBeyond ∈ tg := tg_at 18 (by first | rfl | decide +kernel) (by first | rfl | decide +kernel)
theorem tp_19 : Cond.selects RX3 yX3_keepRows yX3_keepRows ∈ tg := tg_at 19 (by first | rfl | decide +kernel) (by first | rfl | decide +kernel)
theorem tp_20 : Cond.selects "java/lang/Throwable" (⟨"java/lang/Throwable", "fillInStackTrace", "(I)Ljava/lang/Throwable;"⟩ : MethodName) (⟨"java/lang/Throwable", "fillInStackTrace", "(I)Ljava/lang/Throwable;"⟩ : MethodName) ∈ tg := tg_at 20 (by first | rfl | decide +kernel) (by first | rfl | decide +kernel)
theorem tp_21 : Cond.selects RX4 yX4_isPath yX4_isPath ∈ tg := tg_at 21 (by first | rfl | decide +kernel) (by first | rfl | decide +kernel)
theorem tp_22 : Cond.selects RX4 yX4_made yX4_made ∈ tg := tg_at 22 (by first | rfl | decide +kernel) (by first | rfl | decide +kernel)
theorem tp_23 : Cond.selects RX4 yX4_prepare yX4_prepare ∈ tg := tg_at 23 (by first | rfl | decide +kernel) (by first | rfl | decide +kernel)
theorem tp_24 : Cond.selects RX4 yX4_findNeeded yX4_findNeeded ∈ tg := tg_at 24 (by first | rfl | decide +kernel) (by first | rfl | decide +kernel)
theorem tp_25 : Cond.selects RX4 yX4_findGraph yX4_findGraph ∈ tg := tg_at 25 (by first | rfl | decide +kernel) (by first | rfl | decide +kernel)
theorem tp_26 : Cond.selects RX4 yX4_makeTable yX4_makeTable ∈ tg := tg_at 26 (by first | rfl | decide +kernel) (by first | rfl | decide +kernel)
theorem tp_27 : Cond.selects RX4 yX4_makeLinks yX4_makeLinks ∈ tg := tg_at 27 (by first | rfl | decide +kernel) (by first | rfl | decide +kernel)
theorem tp_28 : Cond.selects RX4 yX4_cell yX4_cell ∈ tg := tg_at 28 (by first | rfl | decide +kernel) (by first | rfl | decide +kernel)
theorem tp_29 : Cond.selects RX4 yX4_put yX4_put ∈ tg := tg_at 29 (by first | rfl | decide +kernel) (by first | rfl | decide +kernel)
theorem tp_30 : Cond.selects RX4 yX4_makeWalks yX4_makeWalks ∈ tg := tg_at 30 (by first | rfl | decide +kernel) (by first | rfl | decide +kernel)
theorem tp_31 : Cond.selects RX4 yX4_walk yX4_walk ∈ tg := tg_at 31 (by first | rfl | decide +kernel) (by first | rfl | decide +kernel)
theorem tp_32 : Cond.selects RX4 yX4_joined yX4_joined ∈ tg := tg_at 32 (by first | rfl | decide +kernel) (by first | rfl | decide +kernel)
theorem tp_33 : Cond.selects RX4 yX4_isRow yX4_isRow ∈ tg := tg_at 33 (by first | rfl | decide +kernel) (by first | rfl | decide +kernel)
