section
-- ===== PART A: goes FIRST, ahead of the names: the tables' words, and 'selects' of the private methods out of them =====
/-- a private method of a class that the tables say can be made, by its rows of tables_1 -/
def lw_okq (q : MethodName × Nat) : Prop := (q.1.cls ≠ "java/lang/invoke/MethodHandle" ∧ q.1.cls ≠ "java/lang/invoke/VarHandle") ∧ Cond.instantiable q.1.cls q.2 ∈ tables_1 ∧ Cond.privateMethod q.1 ∈ tables_1 ∧ Cond.instanceMethod q.1 ∈ tables_1
theorem lw_p0 : lw_okq (⟨"PathSteps", "keepPath", "(IILPathSteps$Path;LPathSteps$Path;)I"⟩, 6) := ⟨⟨by decide +kernel, by decide +kernel⟩, List.mem_of_getElem? (i := 14) (by decide +kernel), List.mem_of_getElem? (i := 115) (by decide +kernel), List.mem_of_getElem? (i := 116) (by decide +kernel)⟩
theorem lw_p1 : lw_okq (⟨"PathSteps", "known", "(I)LPathSteps$Path;"⟩, 6) := ⟨⟨by decide +kernel, by decide +kernel⟩, List.mem_of_getElem? (i := 14) (by decide +kernel), List.mem_of_getElem? (i := 157) (by decide +kernel), List.mem_of_getElem? (i := 158) (by decide +kernel)⟩
theorem lw_p2 : lw_okq (⟨"PathSteps", "keepOverTwo", "(ILPathSteps$Path;LPathSteps$Path;)I"⟩, 6) := ⟨⟨by decide +kernel, by decide +kernel⟩, List.mem_of_getElem? (i := 14) (by decide +kernel), List.mem_of_getElem? (i := 161) (by decide +kernel), List.mem_of_getElem? (i := 162) (by decide +kernel)⟩
theorem lw_p3 : lw_okq (⟨"PathSteps", "keepOverOne", "(ILPathSteps$Path;)I"⟩, 6) := ⟨⟨by decide +kernel, by decide +kernel⟩, List.mem_of_getElem? (i := 14) (by decide +kernel), List.mem_of_getElem? (i := 165) (by decide +kernel), List.mem_of_getElem? (i := 166) (by decide +kernel)⟩
theorem lw_p4 : lw_okq (⟨"PathSteps", "countParts", "(LPathSteps$Path;II)V"⟩, 6) := ⟨⟨by decide +kernel, by decide +kernel⟩, List.mem_of_getElem? (i := 14) (by decide +kernel), List.mem_of_getElem? (i := 190) (by decide +kernel), List.mem_of_getElem? (i := 191) (by decide +kernel)⟩
theorem lw_p5 : lw_okq (⟨"PathSteps$Path", "forget", "()V"⟩, 10) := ⟨⟨by decide +kernel, by decide +kernel⟩, List.mem_of_getElem? (i := 118) (by decide +kernel), List.mem_of_getElem? (i := 205) (by decide +kernel), List.mem_of_getElem? (i := 206) (by decide +kernel)⟩
theorem lw_p6 : lw_okq (⟨"PathSteps$Path", "countLinks", "(LPathSteps$Triples;)V"⟩, 10) := ⟨⟨by decide +kernel, by decide +kernel⟩, List.mem_of_getElem? (i := 118) (by decide +kernel), List.mem_of_getElem? (i := 209) (by decide +kernel), List.mem_of_getElem? (i := 210) (by decide +kernel)⟩
theorem lw_p7 : lw_okq (⟨"PathSteps$Path", "addTimes", "(IIJ)V"⟩, 10) := ⟨⟨by decide +kernel, by decide +kernel⟩, List.mem_of_getElem? (i := 118) (by decide +kernel), List.mem_of_getElem? (i := 214) (by decide +kernel), List.mem_of_getElem? (i := 215) (by decide +kernel)⟩
theorem lw_p8 : lw_okq (⟨"PathSteps$Path", "countOverOne", "(LPathSteps$Path;I)V"⟩, 10) := ⟨⟨by decide +kernel, by decide +kernel⟩, List.mem_of_getElem? (i := 118) (by decide +kernel), List.mem_of_getElem? (i := 222) (by decide +kernel), List.mem_of_getElem? (i := 223) (by decide +kernel)⟩
theorem lw_p9 : lw_okq (⟨"PathSteps$Path", "countTurned", "(LPathSteps$Path;)V"⟩, 10) := ⟨⟨by decide +kernel, by decide +kernel⟩, List.mem_of_getElem? (i := 118) (by decide +kernel), List.mem_of_getElem? (i := 226) (by decide +kernel), List.mem_of_getElem? (i := 227) (by decide +kernel)⟩
theorem lw_p10 : lw_okq (⟨"PathSteps$Path", "joinByStep", "(LPathSteps$Path;I)V"⟩, 10) := ⟨⟨by decide +kernel, by decide +kernel⟩, List.mem_of_getElem? (i := 118) (by decide +kernel), List.mem_of_getElem? (i := 234) (by decide +kernel), List.mem_of_getElem? (i := 235) (by decide +kernel)⟩
theorem lw_p11 : lw_okq (⟨"PathSteps$Path", "joinOnwards", "()V"⟩, 10) := ⟨⟨by decide +kernel, by decide +kernel⟩, List.mem_of_getElem? (i := 118) (by decide +kernel), List.mem_of_getElem? (i := 242) (by decide +kernel), List.mem_of_getElem? (i := 243) (by decide +kernel)⟩
theorem lw_p12 : lw_okq (⟨"PathSteps$Path", "joinSelves", "(I)V"⟩, 10) := ⟨⟨by decide +kernel, by decide +kernel⟩, List.mem_of_getElem? (i := 118) (by decide +kernel), List.mem_of_getElem? (i := 247) (by decide +kernel), List.mem_of_getElem? (i := 248) (by decide +kernel)⟩
theorem lw_p13 : lw_okq (⟨"PathSteps$Path", "countJoinedOnce", "()V"⟩, 10) := ⟨⟨by decide +kernel, by decide +kernel⟩, List.mem_of_getElem? (i := 118) (by decide +kernel), List.mem_of_getElem? (i := 251) (by decide +kernel), List.mem_of_getElem? (i := 252) (by decide +kernel)⟩
theorem lw_p14 : lw_okq (⟨"PathSteps$Path", "countOverTwo", "(LPathSteps$Path;LPathSteps$Path;)V"⟩, 10) := ⟨⟨by decide +kernel, by decide +kernel⟩, List.mem_of_getElem? (i := 118) (by decide +kernel), List.mem_of_getElem? (i := 255) (by decide +kernel), List.mem_of_getElem? (i := 256) (by decide +kernel)⟩
theorem lw_p15 : lw_okq (⟨"PathSteps$Path", "countAll", "(LPathSteps$Path;)V"⟩, 10) := ⟨⟨by decide +kernel, by decide +kernel⟩, List.mem_of_getElem? (i := 118) (by decide +kernel), List.mem_of_getElem? (i := 259) (by decide +kernel), List.mem_of_getElem? (i := 260) (by decide +kernel)⟩
def lw_privs_1 : List (MethodName × Nat) := [(⟨"PathSteps", "keepPath", "(IILPathSteps$Path;LPathSteps$Path;)I"⟩, 6), (⟨"PathSteps", "known", "(I)LPathSteps$Path;"⟩, 6), (⟨"PathSteps", "keepOverTwo", "(ILPathSteps$Path;LPathSteps$Path;)I"⟩, 6), (⟨"PathSteps", "keepOverOne", "(ILPathSteps$Path;)I"⟩, 6), (⟨"PathSteps", "countParts", "(LPathSteps$Path;II)V"⟩, 6), (⟨"PathSteps$Path", "forget", "()V"⟩, 10), (⟨"PathSteps$Path", "countLinks", "(LPathSteps$Triples;)V"⟩, 10), (⟨"PathSteps$Path", "addTimes", "(IIJ)V"⟩, 10), (⟨"PathSteps$Path", "countOverOne", "(LPathSteps$Path;I)V"⟩, 10), (⟨"PathSteps$Path", "countTurned", "(LPathSteps$Path;)V"⟩, 10), (⟨"PathSteps$Path", "joinByStep", "(LPathSteps$Path;I)V"⟩, 10), (⟨"PathSteps$Path", "joinOnwards", "()V"⟩, 10), (⟨"PathSteps$Path", "joinSelves", "(I)V"⟩, 10), (⟨"PathSteps$Path", "countJoinedOnce", "()V"⟩, 10), (⟨"PathSteps$Path", "countOverTwo", "(LPathSteps$Path;LPathSteps$Path;)V"⟩, 10), (⟨"PathSteps$Path", "countAll", "(LPathSteps$Path;)V"⟩, 10)]
theorem lw_r1 : ∀ q ∈ lw_privs_1, lw_okq q := List.forall_mem_cons.mpr ⟨lw_p0, List.forall_mem_cons.mpr ⟨lw_p1, List.forall_mem_cons.mpr ⟨lw_p2, List.forall_mem_cons.mpr ⟨lw_p3, List.forall_mem_cons.mpr ⟨lw_p4, List.forall_mem_cons.mpr ⟨lw_p5, List.forall_mem_cons.mpr ⟨lw_p6, List.forall_mem_cons.mpr ⟨lw_p7, List.forall_mem_cons.mpr ⟨lw_p8, List.forall_mem_cons.mpr ⟨lw_p9, List.forall_mem_cons.mpr ⟨lw_p10, List.forall_mem_cons.mpr ⟨lw_p11, List.forall_mem_cons.mpr ⟨lw_p12, List.forall_mem_cons.mpr ⟨lw_p13, List.forall_mem_cons.mpr ⟨lw_p14, List.forall_mem_cons.mpr ⟨lw_p15, fun _ h => absurd h List.not_mem_nil⟩⟩⟩⟩⟩⟩⟩⟩⟩⟩⟩⟩⟩⟩⟩⟩
theorem lw_p16 : lw_okq (⟨"PathSteps$Path", "countBehind", "(LPathSteps$Path;LPathSteps$Path;)V"⟩, 10) := ⟨⟨by decide +kernel, by decide +kernel⟩, List.mem_of_getElem? (i := 118) (by decide +kernel), List.mem_of_getElem? (i := 263) (by decide +kernel), List.mem_of_getElem? (i := 264) (by decide +kernel)⟩
theorem lw_p17 : lw_okq (⟨"PathSteps$Path", "addBehind", "(IJLPathSteps$Path;I)V"⟩, 10) := ⟨⟨by decide +kernel, by decide +kernel⟩, List.mem_of_getElem? (i := 118) (by decide +kernel), List.mem_of_getElem? (i := 267) (by decide +kernel), List.mem_of_getElem? (i := 268) (by decide +kernel)⟩
theorem lw_p18 : lw_okq (⟨"PathSteps", "goesBeyond", "(LPathSteps$Path;)Z"⟩, 6) := ⟨⟨by decide +kernel, by decide +kernel⟩, List.mem_of_getElem? (i := 14) (by decide +kernel), List.mem_of_getElem? (i := 271) (by decide +kernel), List.mem_of_getElem? (i := 272) (by decide +kernel)⟩
theorem lw_p19 : lw_okq (⟨"PathSteps", "keepRows", "(LPathSteps$Path;II)V"⟩, 6) := ⟨⟨by decide +kernel, by decide +kernel⟩, List.mem_of_getElem? (i := 14) (by decide +kernel), List.mem_of_getElem? (i := 290) (by decide +kernel), List.mem_of_getElem? (i := 291) (by decide +kernel)⟩
theorem lw_p20 : lw_okq (⟨"java/lang/Throwable", "fillInStackTrace", "(I)Ljava/lang/Throwable;"⟩, 6) := ⟨⟨by decide +kernel, by decide +kernel⟩, List.mem_of_getElem? (i := 387) (by decide +kernel), List.mem_of_getElem? (i := 385) (by decide +kernel), List.mem_of_getElem? (i := 386) (by decide +kernel)⟩
theorem lw_p21 : lw_okq (⟨"PathStepsModel", "isPath", "(I)Z"⟩, 21) := ⟨⟨by decide +kernel, by decide +kernel⟩, List.mem_of_getElem? (i := 420) (by decide +kernel), List.mem_of_getElem? (i := 510) (by decide +kernel), List.mem_of_getElem? (i := 511) (by decide +kernel)⟩
theorem lw_p22 : lw_okq (⟨"PathStepsModel", "made", "(III)I"⟩, 21) := ⟨⟨by decide +kernel, by decide +kernel⟩, List.mem_of_getElem? (i := 420) (by decide +kernel), List.mem_of_getElem? (i := 514) (by decide +kernel), List.mem_of_getElem? (i := 515) (by decide +kernel)⟩
theorem lw_p23 : lw_okq (⟨"PathStepsModel", "prepare", "(III)I"⟩, 21) := ⟨⟨by decide +kernel, by decide +kernel⟩, List.mem_of_getElem? (i := 420) (by decide +kernel), List.mem_of_getElem? (i := 541) (by decide +kernel), List.mem_of_getElem? (i := 542) (by decide +kernel)⟩
theorem lw_p24 : lw_okq (⟨"PathStepsModel", "findNeeded", "(I)V"⟩, 21) := ⟨⟨by decide +kernel, by decide +kernel⟩, List.mem_of_getElem? (i := 420) (by decide +kernel), List.mem_of_getElem? (i := 545) (by decide +kernel), List.mem_of_getElem? (i := 546) (by decide +kernel)⟩
theorem lw_p25 : lw_okq (⟨"PathStepsModel", "findGraph", "(II)V"⟩, 21) := ⟨⟨by decide +kernel, by decide +kernel⟩, List.mem_of_getElem? (i := 420) (by decide +kernel), List.mem_of_getElem? (i := 549) (by decide +kernel), List.mem_of_getElem? (i := 550) (by decide +kernel)⟩
theorem lw_p26 : lw_okq (⟨"PathStepsModel", "makeTable", "(I)V"⟩, 21) := ⟨⟨by decide +kernel, by decide +kernel⟩, List.mem_of_getElem? (i := 420) (by decide +kernel), List.mem_of_getElem? (i := 553) (by decide +kernel), List.mem_of_getElem? (i := 554) (by decide +kernel)⟩
theorem lw_p27 : lw_okq (⟨"PathStepsModel", "makeLinks", "(I)V"⟩, 21) := ⟨⟨by decide +kernel, by decide +kernel⟩, List.mem_of_getElem? (i := 420) (by decide +kernel), List.mem_of_getElem? (i := 557) (by decide +kernel), List.mem_of_getElem? (i := 558) (by decide +kernel)⟩
theorem lw_p28 : lw_okq (⟨"PathStepsModel", "cell", "(III)I"⟩, 21) := ⟨⟨by decide +kernel, by decide +kernel⟩, List.mem_of_getElem? (i := 420) (by decide +kernel), List.mem_of_getElem? (i := 561) (by decide +kernel), List.mem_of_getElem? (i := 562) (by decide +kernel)⟩
theorem lw_p29 : lw_okq (⟨"PathStepsModel", "put", "(IIIJ)V"⟩, 21) := ⟨⟨by decide +kernel, by decide +kernel⟩, List.mem_of_getElem? (i := 420) (by decide +kernel), List.mem_of_getElem? (i := 565) (by decide +kernel), List.mem_of_getElem? (i := 566) (by decide +kernel)⟩
theorem lw_p30 : lw_okq (⟨"PathStepsModel", "makeWalks", "(I)V"⟩, 21) := ⟨⟨by decide +kernel, by decide +kernel⟩, List.mem_of_getElem? (i := 420) (by decide +kernel), List.mem_of_getElem? (i := 570) (by decide +kernel), List.mem_of_getElem? (i := 571) (by decide +kernel)⟩
theorem lw_p31 : lw_okq (⟨"PathStepsModel", "walk", "(II)V"⟩, 21) := ⟨⟨by decide +kernel, by decide +kernel⟩, List.mem_of_getElem? (i := 420) (by decide +kernel), List.mem_of_getElem? (i := 574) (by decide +kernel), List.mem_of_getElem? (i := 575) (by decide +kernel)⟩
def lw_privs_2 : List (MethodName × Nat) := [(⟨"PathSteps$Path", "countBehind", "(LPathSteps$Path;LPathSteps$Path;)V"⟩, 10), (⟨"PathSteps$Path", "addBehind", "(IJLPathSteps$Path;I)V"⟩, 10), (⟨"PathSteps", "goesBeyond", "(LPathSteps$Path;)Z"⟩, 6), (⟨"PathSteps", "keepRows", "(LPathSteps$Path;II)V"⟩, 6), (⟨"java/lang/Throwable", "fillInStackTrace", "(I)Ljava/lang/Throwable;"⟩, 6), (⟨"PathStepsModel", "isPath", "(I)Z"⟩, 21), (⟨"PathStepsModel", "made", "(III)I"⟩, 21), (⟨"PathStepsModel", "prepare", "(III)I"⟩, 21), (⟨"PathStepsModel", "findNeeded", "(I)V"⟩, 21), (⟨"PathStepsModel", "findGraph", "(II)V"⟩, 21), (⟨"PathStepsModel", "makeTable", "(I)V"⟩, 21), (⟨"PathStepsModel", "makeLinks", "(I)V"⟩, 21), (⟨"PathStepsModel", "cell", "(III)I"⟩, 21), (⟨"PathStepsModel", "put", "(IIIJ)V"⟩, 21), (⟨"PathStepsModel", "makeWalks", "(I)V"⟩, 21), (⟨"PathStepsModel", "walk", "(II)V"⟩, 21)]
theorem lw_r2 : ∀ q ∈ lw_privs_2, lw_okq q := List.forall_mem_cons.mpr ⟨lw_p16, List.forall_mem_cons.mpr ⟨lw_p17, List.forall_mem_cons.mpr ⟨lw_p18, List.forall_mem_cons.mpr ⟨lw_p19, List.forall_mem_cons.mpr ⟨lw_p20, List.forall_mem_cons.mpr ⟨lw_p21, List.forall_mem_cons.mpr ⟨lw_p22, List.forall_mem_cons.mpr ⟨lw_p23, List.forall_mem_cons.mpr ⟨lw_p24, List.forall_mem_cons.mpr ⟨lw_p25, List.forall_mem_cons.mpr ⟨lw_p26, List.forall_mem_cons.mpr ⟨lw_p27, List.forall_mem_cons.mpr ⟨lw_p28, List.forall_mem_cons.mpr ⟨lw_p29, List.forall_mem_cons.mpr ⟨lw_p30, List.forall_mem_cons.mpr ⟨lw_p31, fun _ h => absurd h List.not_mem_nil⟩⟩⟩⟩⟩⟩⟩⟩⟩⟩⟩⟩⟩⟩⟩⟩
theorem lw_p32 : lw_okq (⟨"PathStepsModel", "joined", "(III)J"⟩, 21) := ⟨⟨by decide +kernel, by decide +kernel⟩, List.mem_of_getElem? (i := 420) (by decide +kernel), List.mem_of_getElem? (i := 578) (by decide +kernel), List.mem_of_getElem? (i := 579) (by decide +kernel)⟩
theorem lw_p33 : lw_okq (⟨"PathStepsModel", "isRow", "(I)Z"⟩, 21) := ⟨⟨by decide +kernel, by decide +kernel⟩, List.mem_of_getElem? (i := 420) (by decide +kernel), List.mem_of_getElem? (i := 593) (by decide +kernel), List.mem_of_getElem? (i := 594) (by decide +kernel)⟩
def lw_privs_3 : List (MethodName × Nat) := [(⟨"PathStepsModel", "joined", "(III)J"⟩, 21), (⟨"PathStepsModel", "isRow", "(I)Z"⟩, 21)]
theorem lw_r3 : ∀ q ∈ lw_privs_3, lw_okq q := List.forall_mem_cons.mpr ⟨lw_p32, List.forall_mem_cons.mpr ⟨lw_p33, fun _ h => absurd h List.not_mem_nil⟩⟩
def lw_privs : List (MethodName × Nat) := lw_privs_1 ++ (lw_privs_2 ++ (lw_privs_3))
def lw_tbl : List Cond := k2_sels lw_privs ++ tables_1
theorem lw_privs_ok : ∀ q ∈ lw_privs, lw_okq q := by
  show ∀ q ∈ lw_privs_1 ++ (lw_privs_2 ++ (lw_privs_3)), lw_okq q
  exact List.forall_mem_append.mpr ⟨lw_r1, List.forall_mem_append.mpr ⟨lw_r2, lw_r3⟩⟩
end
section
/-! ===== BEGIN words of one list among another's, by their places ===== -/
theorem goodIn_r {big : List Cond} (ws : List Cond) (ps : List Nat) (hp : ws = ps.filterMap (fun i => big[i]?)) (h : ws.all goodWord = true) : GoodIn big ws := by
  intro w hw
  have h1 := List.all_eq_true.mp h w hw
  rw [hp] at hw
  obtain ⟨i, -, hi⟩ := List.mem_filterMap.mp hw
  have hm : w ∈ big := by first | exact List.mem_of_getElem? hi | exact List.getElem?_mem hi
  exact ⟨hm, good_of_word h1⟩
theorem goodIn_app {big a b : List Cond} (ha : GoodIn big a) (hb : GoodIn big b) : GoodIn big (a ++ b) := fun w h => (List.mem_append.mp h).elim (ha w) (hb w)
theorem goodIn_ca {big a b : List Cond} {c : Cond} (ha : GoodIn big (c :: a)) (hb : GoodIn big b) : GoodIn big (c :: (a ++ b)) := fun w h => (List.mem_cons.mp h).elim (fun e => ha w (List.mem_cons.mpr (Or.inl e))) (fun h => (List.mem_append.mp h).elim (fun h => ha w (List.mem_cons.mpr (Or.inr h))) (hb w))
theorem goodIn_sub {big ws : List Cond} (hm : ∀ w ∈ ws, w ∈ big) (h : ws.all goodWord = true) : GoodIn big ws := fun w hw => ⟨hm w hw, good_of_word (List.all_eq_true.mp h w hw)⟩
/-! ===== END ===== -/

/-! ===== BEGIN printed: names, fields, word lists, decode rows ===== -/
def RX0 : String := "PathSteps$Path"
def TX0 : u_T := fun k => match k with
  | 0 => ("PathSteps$Path", "number", "I", true)
  | 1 => ("PathSteps$Path", "kind", "I", true)
  | 2 => ("PathSteps$Path", "links", "I", true)
  | 3 => ("PathSteps$Path", "inner", "LPathSteps$Path;", true)
  | 4 => ("PathSteps$Path", "other", "LPathSteps$Path;", true)
  | 5 => ("PathSteps$Path", "parts", "J", true)
  | 6 => ("PathSteps$Path", "times", "[I", true)
  | 7 => ("PathSteps$Path", "joined", "[I", true)
  | 8 => ("PathSteps$Path", "countedSize", "I", false)
  | _ => ("PathSteps$Path", "countedGraph", "I", false)
def tyX0 : Nat → FieldType := fun k => match k with
  | 0 => .int
  | 1 => .int
  | 2 => .int
  | 3 => .object "PathSteps$Path"
  | 4 => .object "PathSteps$Path"
  | 5 => .long
  | 6 => .array .int
  | 7 => .array .int
  | 8 => .int
  | _ => .int
abbrev wsX00 : List Cond := u_ws RX0 TX0 10
theorem nmX0 : ∀ a, a < 10 → ∀ b, b < 10 → a ≠ b → (TX0 a).2.1 ≠ (TX0 b).2.1 := by decide +kernel
theorem tyX0_ok : ∀ k, k < 10 → parseFieldDescriptor (TX0 k).2.2.1 = some (tyX0 k) := by decide +kernel
abbrev cX0_init : ByteArray := prog_2_method_1_code
def yX0_init : MethodName := ⟨RX0, "<init>", "(IIILPathSteps$Path;LPathSteps$Path;)V"⟩
abbrev cX0_isMadeOf : ByteArray := prog_2_method_2_code
def yX0_isMadeOf : MethodName := ⟨RX0, "isMadeOf", "(I)Z"⟩
abbrev cX0_walks : ByteArray := prog_2_method_3_code
def yX0_walks : MethodName := ⟨RX0, "walks", "()Z"⟩
abbrev cX0_timesOf : ByteArray := prog_2_method_4_code
def yX0_timesOf : MethodName := ⟨RX0, "timesOf", "(II)I"⟩
abbrev cX0_pairs : ByteArray := prog_2_method_5_code
def yX0_pairs : MethodName := ⟨RX0, "pairs", "()I"⟩
abbrev cX0_countBetween : ByteArray := prog_2_method_6_code
def yX0_countBetween : MethodName := ⟨RX0, "countBetween", "(II)I"⟩
abbrev cX0_countIn : ByteArray := prog_2_method_7_code
def yX0_countIn : MethodName := ⟨RX0, "countIn", "(LPathSteps$Triples;I)V"⟩
abbrev cX0_forget : ByteArray := prog_2_method_8_code
def yX0_forget : MethodName := ⟨RX0, "forget", "()V"⟩
abbrev cX0_addTimes : ByteArray := prog_2_method_9_code
def yX0_addTimes : MethodName := ⟨RX0, "addTimes", "(IIJ)V"⟩
abbrev cX0_countLinks : ByteArray := prog_2_method_10_code
def yX0_countLinks : MethodName := ⟨RX0, "countLinks", "(LPathSteps$Triples;)V"⟩
abbrev cX0_countOverOne : ByteArray := prog_2_method_11_code
def yX0_countOverOne : MethodName := ⟨RX0, "countOverOne", "(LPathSteps$Path;I)V"⟩
abbrev cX0_countOverTwo : ByteArray := prog_2_method_12_code
def yX0_countOverTwo : MethodName := ⟨RX0, "countOverTwo", "(LPathSteps$Path;LPathSteps$Path;)V"⟩
abbrev cX0_countTurned : ByteArray := prog_2_method_13_code
def yX0_countTurned : MethodName := ⟨RX0, "countTurned", "(LPathSteps$Path;)V"⟩
abbrev cX0_countAll : ByteArray := prog_2_method_14_code
def yX0_countAll : MethodName := ⟨RX0, "countAll", "(LPathSteps$Path;)V"⟩
abbrev cX0_countBehind : ByteArray := prog_2_method_15_code
def yX0_countBehind : MethodName := ⟨RX0, "countBehind", "(LPathSteps$Path;LPathSteps$Path;)V"⟩
abbrev cX0_addBehind : ByteArray := prog_2_method_16_code
def yX0_addBehind : MethodName := ⟨RX0, "addBehind", "(IJLPathSteps$Path;I)V"⟩
abbrev cX0_joinByStep : ByteArray := prog_2_method_17_code
def yX0_joinByStep : MethodName := ⟨RX0, "joinByStep", "(LPathSteps$Path;I)V"⟩
abbrev cX0_joinOnwards : ByteArray := prog_2_method_18_code
def yX0_joinOnwards : MethodName := ⟨RX0, "joinOnwards", "()V"⟩
abbrev cX0_joinSelves : ByteArray := prog_2_method_19_code
def yX0_joinSelves : MethodName := ⟨RX0, "joinSelves", "(I)V"⟩
abbrev cX0_countJoinedOnce : ByteArray := prog_2_method_20_code
def yX0_countJoinedOnce : MethodName := ⟨RX0, "countJoinedOnce", "()V"⟩
abbrev cX0_measure : ByteArray := prog_2_method_21_code
def yX0_measure : MethodName := ⟨RX0, "measure", "(I[I)V"⟩
abbrev cX0_measureWalk : ByteArray := prog_2_method_22_code
def yX0_measureWalk : MethodName := ⟨RX0, "measureWalk", "(LPathSteps$Path;I[I)V"⟩
def RX1 : String := "PathSteps$Rows"
def TX1 : u_T := fun k => match k with
  | 0 => ("PathSteps$Rows", "firsts", "[I", true)
  | 1 => ("PathSteps$Rows", "seconds", "[I", true)
  | 2 => ("PathSteps$Rows", "depths", "[I", true)
  | 3 => ("PathSteps$Rows", "size", "I", false)
  | _ => ("PathSteps$Rows", "wereRun", "Z", false)
def tyX1 : Nat → FieldType := fun k => match k with
  | 0 => .array .int
  | 1 => .array .int
  | 2 => .array .int
  | 3 => .int
  | _ => .boolean
abbrev wsX10 : List Cond := u_ws RX1 TX1 5
theorem nmX1 : ∀ a, a < 5 → ∀ b, b < 5 → a ≠ b → (TX1 a).2.1 ≠ (TX1 b).2.1 := by decide +kernel
theorem tyX1_ok : ∀ k, k < 5 → parseFieldDescriptor (TX1 k).2.2.1 = some (tyX1 k) := by decide +kernel
abbrev cX1_init : ByteArray := prog_3_method_1_code
def yX1_init : MethodName := ⟨RX1, "<init>", "()V"⟩
abbrev cX1_begin : ByteArray := prog_3_method_2_code
def yX1_begin : MethodName := ⟨RX1, "begin", "()V"⟩
abbrev cX1_add : ByteArray := prog_3_method_3_code
def yX1_add : MethodName := ⟨RX1, "add", "(IIII)V"⟩
abbrev cX1_has : ByteArray := prog_3_method_4_code
def yX1_has : MethodName := ⟨RX1, "has", "(I)Z"⟩
def RX2 : String := "PathSteps$Triples"
def TX2 : u_T := fun k => match k with
  | 0 => ("PathSteps$Triples", "links", "[I", true)
  | 1 => ("PathSteps$Triples", "nodes", "I", false)
  | _ => ("PathSteps$Triples", "size", "I", false)
def tyX2 : Nat → FieldType := fun k => match k with
  | 0 => .array .int
  | 1 => .int
  | _ => .int
abbrev wsX20 : List Cond := u_ws RX2 TX2 3
theorem nmX2 : ∀ a, a < 3 → ∀ b, b < 3 → a ≠ b → (TX2 a).2.1 ≠ (TX2 b).2.1 := by decide +kernel
theorem tyX2_ok : ∀ k, k < 3 → parseFieldDescriptor (TX2 k).2.2.1 = some (tyX2 k) := by decide +kernel
abbrev cX2_init : ByteArray := prog_4_method_1_code
def yX2_init : MethodName := ⟨RX2, "<init>", "()V"⟩
abbrev cX2_has : ByteArray := prog_4_method_2_code
def yX2_has : MethodName := ⟨RX2, "has", "(III)Z"⟩
abbrev cX2_add : ByteArray := prog_4_method_3_code
def yX2_add : MethodName := ⟨RX2, "add", "(III)V"⟩
abbrev cX2_countFrom : ByteArray := prog_4_method_4_code
def yX2_countFrom : MethodName := ⟨RX2, "countFrom", "(I)I"⟩
def RX3 : String := "PathSteps"
def TX3 : u_T := fun k => match k with
  | 0 => ("PathSteps", "triples", "LPathSteps$Triples;", true)
  | 1 => ("PathSteps", "paths", "[LPathSteps$Path;", true)
  | 2 => ("PathSteps", "rows", "LPathSteps$Rows;", true)
  | 3 => ("PathSteps", "levels", "[I", true)
  | 4 => ("PathSteps", "pathCount", "I", false)
  | _ => ("PathSteps", "most", "I", false)
def tyX3 : Nat → FieldType := fun k => match k with
  | 0 => .object "PathSteps$Triples"
  | 1 => .array (.object "PathSteps$Path")
  | 2 => .object "PathSteps$Rows"
  | 3 => .array .int
  | 4 => .int
  | _ => .int
abbrev wsX30 : List Cond := u_ws RX3 TX3 6
theorem nmX3 : ∀ a, a < 6 → ∀ b, b < 6 → a ≠ b → (TX3 a).2.1 ≠ (TX3 b).2.1 := by decide +kernel
theorem tyX3_ok : ∀ k, k < 6 → parseFieldDescriptor (TX3 k).2.2.1 = some (tyX3 k) := by decide +kernel
abbrev cX3_init : ByteArray := prog_1_method_1_code
def yX3_init : MethodName := ⟨RX3, "<init>", "()V"⟩
abbrev cX3_triple : ByteArray := prog_1_method_2_code
def yX3_triple : MethodName := ⟨RX3, "triple", "(III)I"⟩
abbrev cX3_path : ByteArray := prog_1_method_3_code
def yX3_path : MethodName := ⟨RX3, "path", "(III)I"⟩
abbrev cX3_from : ByteArray := prog_1_method_4_code
def yX3_from : MethodName := ⟨RX3, "from", "(I)I"⟩
abbrev cX3_run : ByteArray := prog_1_method_5_code
def yX3_run : MethodName := ⟨RX3, "run", "(III)I"⟩
abbrev cX3_at : ByteArray := prog_1_method_6_code
def yX3_at : MethodName := ⟨RX3, "at", "(II)I"⟩
abbrev cX3_plain : ByteArray := prog_1_method_7_code
def yX3_plain : MethodName := ⟨RX3, "plain", "(III)I"⟩
abbrev cX3_steps : ByteArray := prog_1_method_8_code
def yX3_steps : MethodName := ⟨RX3, "steps", "(I)I"⟩
abbrev cX3_cycle : ByteArray := prog_1_method_9_code
def yX3_cycle : MethodName := ⟨RX3, "cycle", "(I)Z"⟩
abbrev cX3_depth : ByteArray := prog_1_method_10_code
def yX3_depth : MethodName := ⟨RX3, "depth", "(I)I"⟩
abbrev cX3_inverse : ByteArray := prog_1_method_11_code
def yX3_inverse : MethodName := ⟨RX3, "inverse", "(I)I"⟩
abbrev cX3_negated : ByteArray := prog_1_method_12_code
def yX3_negated : MethodName := ⟨RX3, "negated", "(II)I"⟩
abbrev cX3_isNode : ByteArray := prog_1_method_13_code
def yX3_isNode : MethodName := ⟨RX3, "isNode", "(I)Z"⟩
abbrev cX3_isPredicate : ByteArray := prog_1_method_14_code
def yX3_isPredicate : MethodName := ⟨RX3, "isPredicate", "(I)Z"⟩
abbrev cX3_isEnd : ByteArray := prog_1_method_15_code
def yX3_isEnd : MethodName := ⟨RX3, "isEnd", "(I)Z"⟩
abbrev cX3_lowest : ByteArray := prog_1_method_16_code
def yX3_lowest : MethodName := ⟨RX3, "lowest", "(I)I"⟩
abbrev cX3_highest : ByteArray := prog_1_method_17_code
def yX3_highest : MethodName := ⟨RX3, "highest", "(I)I"⟩
abbrev cX3_bitOf : ByteArray := prog_1_method_18_code
def yX3_bitOf : MethodName := ⟨RX3, "bitOf", "(I)I"⟩
abbrev cX3_holds : ByteArray := prog_1_method_19_code
def yX3_holds : MethodName := ⟨RX3, "holds", "(II)Z"⟩
abbrev cX3_known : ByteArray := prog_1_method_20_code
def yX3_known : MethodName := ⟨RX3, "known", "(I)LPathSteps$Path;"⟩
abbrev cX3_keepOverOne : ByteArray := prog_1_method_21_code
def yX3_keepOverOne : MethodName := ⟨RX3, "keepOverOne", "(ILPathSteps$Path;)I"⟩
abbrev cX3_keepOverTwo : ByteArray := prog_1_method_22_code
def yX3_keepOverTwo : MethodName := ⟨RX3, "keepOverTwo", "(ILPathSteps$Path;LPathSteps$Path;)I"⟩
abbrev cX3_keepPath : ByteArray := prog_1_method_23_code
def yX3_keepPath : MethodName := ⟨RX3, "keepPath", "(IILPathSteps$Path;LPathSteps$Path;)I"⟩
abbrev cX3_countParts : ByteArray := prog_1_method_24_code
def yX3_countParts : MethodName := ⟨RX3, "countParts", "(LPathSteps$Path;II)V"⟩
abbrev cX3_goesBeyond : ByteArray := prog_1_method_25_code
def yX3_goesBeyond : MethodName := ⟨RX3, "goesBeyond", "(LPathSteps$Path;)Z"⟩
abbrev cX3_keepRows : ByteArray := prog_1_method_26_code
def yX3_keepRows : MethodName := ⟨RX3, "keepRows", "(LPathSteps$Path;II)V"⟩
def RX4 : String := "PathStepsModel"
def TX4 : u_T := fun k => match k with
  | 0 => ("PathStepsModel", "refusal", "I", false)
  | 1 => ("PathStepsModel", "subjects", "[I", true)
  | 2 => ("PathStepsModel", "predicates", "[I", true)
  | 3 => ("PathStepsModel", "objects", "[I", true)
  | 4 => ("PathStepsModel", "triples", "I", false)
  | 5 => ("PathStepsModel", "kinds", "[I", true)
  | 6 => ("PathStepsModel", "first", "[I", true)
  | 7 => ("PathStepsModel", "second", "[I", true)
  | 8 => ("PathStepsModel", "paths", "I", false)
  | 9 => ("PathStepsModel", "most", "I", false)
  | 10 => ("PathStepsModel", "table", "[I", true)
  | 11 => ("PathStepsModel", "isNeeded", "[Z", true)
  | 12 => ("PathStepsModel", "isIn", "[Z", true)
  | 13 => ("PathStepsModel", "goesBeyond", "Z", false)
  | 14 => ("PathStepsModel", "steps", "[I", true)
  | 15 => ("PathStepsModel", "queue", "[I", true)
  | 16 => ("PathStepsModel", "wasRun", "Z", false)
  | 17 => ("PathStepsModel", "rows", "I", false)
  | 18 => ("PathStepsModel", "rowFrom", "[I", true)
  | 19 => ("PathStepsModel", "rowTo", "[I", true)
  | _ => ("PathStepsModel", "rowDepth", "[I", true)
def tyX4 : Nat → FieldType := fun k => match k with
  | 0 => .int
  | 1 => .array .int
  | 2 => .array .int
  | 3 => .array .int
  | 4 => .int
  | 5 => .array .int
  | 6 => .array .int
  | 7 => .array .int
  | 8 => .int
  | 9 => .int
  | 10 => .array .int
  | 11 => .array .boolean
  | 12 => .array .boolean
  | 13 => .boolean
  | 14 => .array .int
  | 15 => .array .int
  | 16 => .boolean
  | 17 => .int
  | 18 => .array .int
  | 19 => .array .int
  | _ => .array .int
abbrev wsX40 : List Cond := u_ws RX4 TX4 21
theorem nmX4 : ∀ a, a < 21 → ∀ b, b < 21 → a ≠ b → (TX4 a).2.1 ≠ (TX4 b).2.1 := by decide +kernel
theorem tyX4_ok : ∀ k, k < 21 → parseFieldDescriptor (TX4 k).2.2.1 = some (tyX4 k) := by decide +kernel
abbrev cX4_init : ByteArray := prog_6_method_1_code
def yX4_init : MethodName := ⟨RX4, "<init>", "()V"⟩
abbrev cX4_thrown : ByteArray := prog_6_method_2_code
def yX4_thrown : MethodName := ⟨RX4, "thrown", "()I"⟩
abbrev cX4_isBetween : ByteArray := prog_6_method_3_code
def yX4_isBetween : MethodName := ⟨RX4, "isBetween", "(III)Z"⟩
abbrev cX4_isNode : ByteArray := prog_6_method_4_code
def yX4_isNode : MethodName := ⟨RX4, "isNode", "(I)Z"⟩
abbrev cX4_isPath : ByteArray := prog_6_method_5_code
def yX4_isPath : MethodName := ⟨RX4, "isPath", "(I)Z"⟩
abbrev cX4_triple : ByteArray := prog_6_method_6_code
def yX4_triple : MethodName := ⟨RX4, "triple", "(III)I"⟩
abbrev cX4_made : ByteArray := prog_6_method_7_code
def yX4_made : MethodName := ⟨RX4, "made", "(III)I"⟩
abbrev cX4_path : ByteArray := prog_6_method_8_code
def yX4_path : MethodName := ⟨RX4, "path", "(III)I"⟩
abbrev cX4_inverse : ByteArray := prog_6_method_9_code
def yX4_inverse : MethodName := ⟨RX4, "inverse", "(I)I"⟩
abbrev cX4_negated : ByteArray := prog_6_method_10_code
def yX4_negated : MethodName := ⟨RX4, "negated", "(II)I"⟩
abbrev cX4_from : ByteArray := prog_6_method_11_code
def yX4_from : MethodName := ⟨RX4, "from", "(I)I"⟩
abbrev cX4_steps : ByteArray := prog_6_method_12_code
def yX4_steps : MethodName := ⟨RX4, "steps", "(I)I"⟩
abbrev cX4_cell : ByteArray := prog_6_method_13_code
def yX4_cell : MethodName := ⟨RX4, "cell", "(III)I"⟩
abbrev cX4_put : ByteArray := prog_6_method_14_code
def yX4_put : MethodName := ⟨RX4, "put", "(IIIJ)V"⟩
abbrev cX4_findNeeded : ByteArray := prog_6_method_15_code
def yX4_findNeeded : MethodName := ⟨RX4, "findNeeded", "(I)V"⟩
abbrev cX4_findGraph : ByteArray := prog_6_method_16_code
def yX4_findGraph : MethodName := ⟨RX4, "findGraph", "(II)V"⟩
abbrev cX4_makeLinks : ByteArray := prog_6_method_17_code
def yX4_makeLinks : MethodName := ⟨RX4, "makeLinks", "(I)V"⟩
abbrev cX4_joined : ByteArray := prog_6_method_18_code
def yX4_joined : MethodName := ⟨RX4, "joined", "(III)J"⟩
abbrev cX4_walk : ByteArray := prog_6_method_19_code
def yX4_walk : MethodName := ⟨RX4, "walk", "(II)V"⟩
abbrev cX4_makeWalks : ByteArray := prog_6_method_20_code
def yX4_makeWalks : MethodName := ⟨RX4, "makeWalks", "(I)V"⟩
abbrev cX4_makeTable : ByteArray := prog_6_method_21_code
def yX4_makeTable : MethodName := ⟨RX4, "makeTable", "(I)V"⟩
abbrev cX4_prepare : ByteArray := prog_6_method_22_code
def yX4_prepare : MethodName := ⟨RX4, "prepare", "(III)I"⟩
abbrev cX4_fits : ByteArray := prog_6_method_23_code
def yX4_fits : MethodName := ⟨RX4, "fits", "(IIII)Z"⟩
abbrev cX4_isEnd : ByteArray := prog_6_method_24_code
def yX4_isEnd : MethodName := ⟨RX4, "isEnd", "(I)Z"⟩
abbrev cX4_run : ByteArray := prog_6_method_25_code
def yX4_run : MethodName := ⟨RX4, "run", "(III)I"⟩
abbrev cX4_plain : ByteArray := prog_6_method_26_code
def yX4_plain : MethodName := ⟨RX4, "plain", "(III)I"⟩
abbrev cX4_isRow : ByteArray := prog_6_method_27_code
def yX4_isRow : MethodName := ⟨RX4, "isRow", "(I)Z"⟩
abbrev cX4_at : ByteArray := prog_6_method_28_code
def yX4_at : MethodName := ⟨RX4, "at", "(II)I"⟩
abbrev cX4_cycle : ByteArray := prog_6_method_29_code
def yX4_cycle : MethodName := ⟨RX4, "cycle", "(I)Z"⟩
abbrev cX4_depth : ByteArray := prog_6_method_30_code
def yX4_depth : MethodName := ⟨RX4, "depth", "(I)I"⟩
def RJx00060 : String := "java/lang/ArrayIndexOutOfBoundsException"
def TJx00060 : u_T := fun k => match k with
  | 0 => ("java/lang/Throwable", "cause", "Ljava/lang/Throwable;", false)
  | 1 => ("java/lang/Throwable", "stackTrace", "[Ljava/lang/StackTraceElement;", false)
  | 2 => ("java/lang/Throwable", "suppressedExceptions", "Ljava/util/List;", false)
  | 3 => ("java/lang/Throwable", "detailMessage", "Ljava/lang/String;", false)
  | 4 => ("java/lang/Throwable", "backtrace", "Ljava/lang/Object;", false)
  | _ => ("java/lang/Throwable", "depth", "I", false)
def tyJx00060 : Nat → FieldType := fun k => match k with
  | 0 => .object "java/lang/Throwable"
  | 1 => .array (.object "java/lang/StackTraceElement")
  | 2 => .object "java/util/List"
  | 3 => .object "java/lang/String"
  | 4 => .object "java/lang/Object"
  | _ => .int
abbrev wsJx000600 : List Cond := u_ws RJx00060 TJx00060 6
theorem nmJx00060 : ∀ a, a < 6 → ∀ b, b < 6 → a ≠ b → (TJx00060 a).2.1 ≠ (TJx00060 b).2.1 := by decide +kernel
theorem tyJx00060_ok : ∀ k, k < 6 → parseFieldDescriptor (TJx00060 k).2.2.1 = some (tyJx00060 k) := by decide +kernel
abbrev cJx00060_init_a7421 : ByteArray := prog_7_method_2_code
def yJx00060_init_a7421 : MethodName := ⟨RJx00060, "<init>", "(Ljava/lang/String;)V"⟩
def RJ6 : String := "java/lang/Integer"
def TJ6 : u_T := fun k => match k with
  | _ => ("", "", "", false)
def tyJ6 : Nat → FieldType := fun k => match k with
  | _ => .int
abbrev wsJ60 : List Cond := u_ws RJ6 TJ6 0
theorem nmJ6 : ∀ a, a < 0 → ∀ b, b < 0 → a ≠ b → (TJ6 a).2.1 ≠ (TJ6 b).2.1 := by decide +kernel
theorem tyJ6_ok : ∀ k, k < 0 → parseFieldDescriptor (TJ6 k).2.2.1 = some (tyJ6 k) := by decide +kernel
abbrev cJ6_bitCount_0f7a4 : ByteArray := prog_10_method_49_code
def yJ6_bitCount_0f7a4 : MethodName := ⟨RJ6, "bitCount", "(I)I"⟩
def RJ9 : String := "java/lang/Math"
def TJ9 : u_T := fun k => match k with
  | _ => ("", "", "", false)
def tyJ9 : Nat → FieldType := fun k => match k with
  | _ => .int
abbrev wsJ90 : List Cond := u_ws RJ9 TJ9 0
theorem nmJ9 : ∀ a, a < 0 → ∀ b, b < 0 → a ≠ b → (TJ9 a).2.1 ≠ (TJ9 b).2.1 := by decide +kernel
theorem tyJ9_ok : ∀ k, k < 0 → parseFieldDescriptor (TJ9 k).2.2.1 = some (tyJ9 k) := by decide +kernel
abbrev cJ9_min_f86c9 : ByteArray := prog_11_method_70_code
def yJ9_min_f86c9 : MethodName := ⟨RJ9, "min", "(JJ)J"⟩
def RJ0 : String := "java/lang/String"
def TJ0 : u_T := fun k => match k with
  | _ => ("", "", "", false)
def tyJ0 : Nat → FieldType := fun k => match k with
  | _ => .int
abbrev wsJ00 : List Cond := u_ws RJ0 TJ0 0
theorem nmJ0 : ∀ a, a < 0 → ∀ b, b < 0 → a ≠ b → (TJ0 a).2.1 ≠ (TJ0 b).2.1 := by decide +kernel
theorem tyJ0_ok : ∀ k, k < 0 → parseFieldDescriptor (TJ0 k).2.2.1 = some (tyJ0 k) := by decide +kernel
def RL : String := "PathStepsLaw"
abbrev cL_depth : ByteArray := method_3_code
def yL_depth : MethodName := ⟨RL, "depth", "(LPathSteps;I[J)I"⟩
abbrev cL_law : ByteArray := code
def yL_law : MethodName := ⟨RL, "law", "([I)Z"⟩
abbrev vwCl : List vw_C := [(RJx00060, TJx00060, 6), (RX0, TX0, 10), (RX1, TX1, 5), (RX2, TX2, 3), (RX3, TX3, 6), (RX4, TX4, 21)]
end
section
def tg : List Cond := lw_tbl.filter goodWord
theorem tg_at {w : Cond} (i : Nat) (h : lw_tbl[i]? = some w) (hg : goodWord w = true) : w ∈ tg := List.mem_filter.mpr ⟨List.mem_of_getElem? h, hg⟩
theorem tg_in : ∀ w ∈ tg, w ∈ lw_tbl := fun w h => (List.mem_filter.mp h).1
/-- every word list that is a method's code and tg: good among any other such -/
theorem tg_good {x w : Cond} (h : w ∈ tg) : GoodIn (x :: tg) (w :: tg) := fun v hv => (List.mem_cons.mp hv).elim (fun e => by rw [e]; exact ⟨List.mem_cons_of_mem _ h, good_of_word (List.mem_filter.mp h).2⟩) (fun e => ⟨List.mem_cons_of_mem _ e, good_of_word (List.mem_filter.mp e).2⟩)
theorem tg_law {w : Cond} (h : w ∈ tg) : GoodIn lw_tbl (w :: tg) := fun v hv => (List.mem_cons.mp hv).elim (fun e => by rw [e]; exact ⟨tg_in _ h, good_of_word (List.mem_filter.mp h).2⟩) (fun e => ⟨tg_in _ e, good_of_word (List.mem_filter.mp e).2⟩)
set_option maxRecDepth 20000 in
theorem tw_0 : (Cond.initialized RL) ∈ tg := tg_at 34 (by first | rfl | decide +kernel) (by first | rfl | decide +kernel)
set_option maxRecDepth 20000 in
theorem tw_1 : (Cond.initialized RX3) ∈ tg := tg_at 35 (by first | rfl | decide +kernel) (by first | rfl | decide +kernel)
set_option maxRecDepth 20000 in
theorem tw_2 : (Cond.initialized RX2) ∈ tg := tg_at 36 (by first | rfl | decide +kernel) (by first | rfl | decide +kernel)
set_option maxRecDepth 20000 in
theorem tw_3 : (Cond.initialized RX1) ∈ tg := tg_at 37 (by first | rfl | decide +kernel) (by first | rfl | decide +kernel)
set_option maxRecDepth 20000 in
theorem tw_4 : (Cond.initialized RX4) ∈ tg := tg_at 38 (by first | rfl | decide +kernel) (by first | rfl | decide +kernel)
set_option maxRecDepth 20000 in
theorem tw_5 : (Cond.initialized RX0) ∈ tg := tg_at 39 (by first | rfl | decide +kernel) (by first | rfl | decide +kernel)
set_option maxRecDepth 20000 in
theorem tw_6 : (Cond.initialized RJ6) ∈ tg := tg_at 40 (by first | rfl | decide +kernel) (by first | rfl | decide +kernel)
set_option maxRecDepth 20000 in
theorem tw_7 : (Cond.initialized RJ9) ∈ tg := tg_at 41 (by first | rfl | decide +kernel) (by first | rfl | decide +kernel)
set_option maxRecDepth 20000 in
theorem tw_8 : (Cond.initialized "java/lang/Throwable") ∈ tg := tg_at 42 (by first | rfl | decide +kernel) (by first | rfl | decide +kernel)
set_option maxRecDepth 20000 in
theorem tw_9 : (Cond.initialized "java/lang/Exception") ∈ tg := tg_at 43 (by first | rfl | decide +kernel) (by first | rfl | decide +kernel)
set_option maxRecDepth 20000 in
theorem tw_10 : (Cond.initialized "java/lang/RuntimeException") ∈ tg := tg_at 44 (by first | rfl | decide +kernel) (by first | rfl | decide +kernel)
set_option maxRecDepth 20000 in
theorem tw_11 : (Cond.initialized "java/lang/IndexOutOfBoundsException") ∈ tg := tg_at 45 (by first | rfl | decide +kernel) (by first | rfl | decide +kernel)
set_option maxRecDepth 20000 in
theorem tw_12 : (Cond.initialized RJx00060) ∈ tg := tg_at 46 (by first | rfl | decide +kernel) (by first | rfl | decide +kernel)
set_option maxRecDepth 20000 in
theorem tw_13 : (Cond.classLink RL (8 : Nat) RX3) ∈ tg := tg_at 47 (by first | rfl | decide +kernel) (by first | rfl | decide +kernel)
set_option maxRecDepth 20000 in
theorem tw_14 : (Cond.instantiable RX3 (6 : Nat)) ∈ tg := tg_at 48 (by first | rfl | decide +kernel) (by first | rfl | decide +kernel)
set_option maxRecDepth 20000 in
theorem tw_15 : (Cond.methodLink RL (15 : Nat) yX3_init) ∈ tg := tg_at 49 (by first | rfl | decide +kernel) (by first | rfl | decide +kernel)
set_option maxRecDepth 20000 in
theorem tw_16 : (Cond.instanceMethod yX3_init) ∈ tg := tg_at 50 (by first | rfl | decide +kernel) (by first | rfl | decide +kernel)
set_option maxRecDepth 20000 in
theorem tw_17 : (Cond.code yX3_init cX3_init (1 : Nat) (Option.none : Option FieldType)) ∈ tg := tg_at 51 (by first | rfl | decide +kernel) (by first | rfl | decide +kernel)
set_option maxRecDepth 20000 in
theorem tw_18 : (Cond.methodLink RX3 (3 : Nat) objectInit) ∈ tg := tg_at 52 (by first | rfl | decide +kernel) (by first | rfl | decide +kernel)
set_option maxRecDepth 20000 in
theorem tw_19 : (Cond.instanceMethod objectInit) ∈ tg := tg_at 53 (by first | rfl | decide +kernel) (by first | rfl | decide +kernel)
set_option maxRecDepth 20000 in
theorem tw_20 : (Cond.code objectInit object_method_1_code (1 : Nat) (Option.none : Option FieldType)) ∈ tg := tg_at 54 (by first | rfl | decide +kernel) (by first | rfl | decide +kernel)
set_option maxRecDepth 20000 in
theorem tw_21 : (Cond.classLink RX3 (9 : Nat) RX2) ∈ tg := tg_at 55 (by first | rfl | decide +kernel) (by first | rfl | decide +kernel)
set_option maxRecDepth 20000 in
theorem tw_22 : (Cond.instantiable RX2 (3 : Nat)) ∈ tg := tg_at 56 (by first | rfl | decide +kernel) (by first | rfl | decide +kernel)
set_option maxRecDepth 20000 in
theorem tw_23 : (Cond.methodLink RX3 (11 : Nat) yX2_init) ∈ tg := tg_at 57 (by first | rfl | decide +kernel) (by first | rfl | decide +kernel)
set_option maxRecDepth 20000 in
theorem tw_24 : (Cond.instanceMethod yX2_init) ∈ tg := tg_at 58 (by first | rfl | decide +kernel) (by first | rfl | decide +kernel)
set_option maxRecDepth 20000 in
theorem tw_25 : (Cond.code yX2_init cX2_init (1 : Nat) (Option.none : Option FieldType)) ∈ tg := tg_at 59 (by first | rfl | decide +kernel) (by first | rfl | decide +kernel)
set_option maxRecDepth 20000 in
theorem tw_26 : (Cond.methodLink RX2 (3 : Nat) objectInit) ∈ tg := tg_at 60 (by first | rfl | decide +kernel) (by first | rfl | decide +kernel)
set_option maxRecDepth 20000 in
theorem tw_27 : (Cond.fieldLink RX2 (9 : Nat) "PathSteps$Triples" "links" "[I") ∈ tg := tg_at 61 (by first | rfl | decide +kernel) (by first | rfl | decide +kernel)
set_option maxRecDepth 20000 in
theorem tw_28 : (Cond.fieldLink RX0 (89 : Nat) "PathSteps$Triples" "links" "[I") ∈ tg := tg_at 62 (by first | rfl | decide +kernel) (by first | rfl | decide +kernel)
set_option maxRecDepth 20000 in
theorem tw_29 : (Cond.fieldLink RX2 (15 : Nat) "PathSteps$Triples" "nodes" "I") ∈ tg := tg_at 63 (by first | rfl | decide +kernel) (by first | rfl | decide +kernel)
set_option maxRecDepth 20000 in
theorem tw_30 : (Cond.fieldLink RX3 (122 : Nat) "PathSteps$Triples" "nodes" "I") ∈ tg := tg_at 64 (by first | rfl | decide +kernel) (by first | rfl | decide +kernel)
set_option maxRecDepth 20000 in
theorem tw_31 : (Cond.fieldLink RX2 (19 : Nat) "PathSteps$Triples" "size" "I") ∈ tg := tg_at 65 (by first | rfl | decide +kernel) (by first | rfl | decide +kernel)
set_option maxRecDepth 20000 in
theorem tw_32 : (Cond.fieldLink RX3 (51 : Nat) "PathSteps$Triples" "size" "I") ∈ tg := tg_at 66 (by first | rfl | decide +kernel) (by first | rfl | decide +kernel)
set_option maxRecDepth 20000 in
theorem tw_33 : (Cond.fieldLink RX0 (61 : Nat) "PathSteps$Triples" "size" "I") ∈ tg := tg_at 67 (by first | rfl | decide +kernel) (by first | rfl | decide +kernel)
set_option maxRecDepth 20000 in
theorem tw_34 : (Cond.laysFinal RX2 "PathSteps$Triples" "links" "[I") ∈ tg := tg_at 68 (by first | rfl | decide +kernel) (by first | rfl | decide +kernel)
set_option maxRecDepth 20000 in
theorem tw_36 : (Cond.lays RX2 "PathSteps$Triples" "nodes" "I") ∈ tg := tg_at 70 (by first | rfl | decide +kernel) (by first | rfl | decide +kernel)
set_option maxRecDepth 20000 in
theorem tw_38 : (Cond.lays RX2 "PathSteps$Triples" "size" "I") ∈ tg := tg_at 72 (by first | rfl | decide +kernel) (by first | rfl | decide +kernel)
set_option maxRecDepth 20000 in
theorem tw_40 : (Cond.superclass "PathSteps$Triples" "java/lang/Object") ∈ tg := tg_at 74 (by first | rfl | decide +kernel) (by first | rfl | decide +kernel)
set_option maxRecDepth 20000 in
theorem tw_41 : (Cond.arrayClass FieldType.int) ∈ tg := tg_at 75 (by first | rfl | decide +kernel) (by first | rfl | decide +kernel)
set_option maxRecDepth 20000 in
theorem tw_42 : (Cond.classLink RX3 (16 : Nat) RX0) ∈ tg := tg_at 76 (by first | rfl | decide +kernel) (by first | rfl | decide +kernel)
set_option maxRecDepth 20000 in
theorem tn_43 : (Cond.arrayOver (FieldType.object "PathSteps$Path")) ∈ lw_tbl := List.mem_of_getElem? (i := 77) (by first | rfl | decide +kernel)
set_option maxRecDepth 20000 in
theorem tw_44 : (Cond.classLink RX3 (22 : Nat) RX1) ∈ tg := tg_at 78 (by first | rfl | decide +kernel) (by first | rfl | decide +kernel)
set_option maxRecDepth 20000 in
theorem tw_45 : (Cond.instantiable RX1 (5 : Nat)) ∈ tg := tg_at 79 (by first | rfl | decide +kernel) (by first | rfl | decide +kernel)
set_option maxRecDepth 20000 in
theorem tw_46 : (Cond.methodLink RX3 (24 : Nat) yX1_init) ∈ tg := tg_at 80 (by first | rfl | decide +kernel) (by first | rfl | decide +kernel)
set_option maxRecDepth 20000 in
theorem tw_47 : (Cond.instanceMethod yX1_init) ∈ tg := tg_at 81 (by first | rfl | decide +kernel) (by first | rfl | decide +kernel)
set_option maxRecDepth 20000 in
theorem tw_48 : (Cond.code yX1_init cX1_init (1 : Nat) (Option.none : Option FieldType)) ∈ tg := tg_at 82 (by first | rfl | decide +kernel) (by first | rfl | decide +kernel)
set_option maxRecDepth 20000 in
theorem tw_49 : (Cond.methodLink RX1 (3 : Nat) objectInit) ∈ tg := tg_at 83 (by first | rfl | decide +kernel) (by first | rfl | decide +kernel)
set_option maxRecDepth 20000 in
theorem tw_50 : (Cond.fieldLink RX1 (9 : Nat) "PathSteps$Rows" "firsts" "[I") ∈ tg := tg_at 84 (by first | rfl | decide +kernel) (by first | rfl | decide +kernel)
set_option maxRecDepth 20000 in
theorem tw_51 : (Cond.fieldLink RX3 (102 : Nat) "PathSteps$Rows" "firsts" "[I") ∈ tg := tg_at 85 (by first | rfl | decide +kernel) (by first | rfl | decide +kernel)
set_option maxRecDepth 20000 in
theorem tw_52 : (Cond.fieldLink RX1 (15 : Nat) "PathSteps$Rows" "seconds" "[I") ∈ tg := tg_at 86 (by first | rfl | decide +kernel) (by first | rfl | decide +kernel)
set_option maxRecDepth 20000 in
theorem tw_53 : (Cond.fieldLink RX3 (105 : Nat) "PathSteps$Rows" "seconds" "[I") ∈ tg := tg_at 87 (by first | rfl | decide +kernel) (by first | rfl | decide +kernel)
set_option maxRecDepth 20000 in
theorem tw_54 : (Cond.fieldLink RX1 (18 : Nat) "PathSteps$Rows" "depths" "[I") ∈ tg := tg_at 88 (by first | rfl | decide +kernel) (by first | rfl | decide +kernel)
set_option maxRecDepth 20000 in
theorem tw_55 : (Cond.fieldLink RX3 (115 : Nat) "PathSteps$Rows" "depths" "[I") ∈ tg := tg_at 89 (by first | rfl | decide +kernel) (by first | rfl | decide +kernel)
set_option maxRecDepth 20000 in
theorem tw_56 : (Cond.fieldLink RX1 (21 : Nat) "PathSteps$Rows" "size" "I") ∈ tg := tg_at 90 (by first | rfl | decide +kernel) (by first | rfl | decide +kernel)
set_option maxRecDepth 20000 in
theorem tw_57 : (Cond.fieldLink RX1 (25 : Nat) "PathSteps$Rows" "wereRun" "Z") ∈ tg := tg_at 91 (by first | rfl | decide +kernel) (by first | rfl | decide +kernel)
set_option maxRecDepth 20000 in
theorem tw_58 : (Cond.fieldLink RX3 (96 : Nat) "PathSteps$Rows" "wereRun" "Z") ∈ tg := tg_at 92 (by first | rfl | decide +kernel) (by first | rfl | decide +kernel)
set_option maxRecDepth 20000 in
theorem tw_59 : (Cond.laysFinal RX1 "PathSteps$Rows" "firsts" "[I") ∈ tg := tg_at 93 (by first | rfl | decide +kernel) (by first | rfl | decide +kernel)
set_option maxRecDepth 20000 in
theorem tw_61 : (Cond.laysFinal RX1 "PathSteps$Rows" "seconds" "[I") ∈ tg := tg_at 95 (by first | rfl | decide +kernel) (by first | rfl | decide +kernel)
set_option maxRecDepth 20000 in
theorem tw_63 : (Cond.laysFinal RX1 "PathSteps$Rows" "depths" "[I") ∈ tg := tg_at 97 (by first | rfl | decide +kernel) (by first | rfl | decide +kernel)
set_option maxRecDepth 20000 in
theorem tw_65 : (Cond.lays RX1 "PathSteps$Rows" "size" "I") ∈ tg := tg_at 99 (by first | rfl | decide +kernel) (by first | rfl | decide +kernel)
set_option maxRecDepth 20000 in
theorem tw_67 : (Cond.lays RX1 "PathSteps$Rows" "wereRun" "Z") ∈ tg := tg_at 101 (by first | rfl | decide +kernel) (by first | rfl | decide +kernel)
set_option maxRecDepth 20000 in
theorem tw_69 : (Cond.superclass "PathSteps$Rows" "java/lang/Object") ∈ tg := tg_at 103 (by first | rfl | decide +kernel) (by first | rfl | decide +kernel)
set_option maxRecDepth 20000 in
theorem tw_70 : (Cond.fieldLink RX3 (12 : Nat) "PathSteps" "triples" "LPathSteps$Triples;") ∈ tg := tg_at 104 (by first | rfl | decide +kernel) (by first | rfl | decide +kernel)
set_option maxRecDepth 20000 in
theorem tw_71 : (Cond.fieldLink RX3 (18 : Nat) "PathSteps" "paths" "[LPathSteps$Path;") ∈ tg := tg_at 105 (by first | rfl | decide +kernel) (by first | rfl | decide +kernel)
set_option maxRecDepth 20000 in
theorem tw_72 : (Cond.fieldLink RX3 (25 : Nat) "PathSteps" "rows" "LPathSteps$Rows;") ∈ tg := tg_at 106 (by first | rfl | decide +kernel) (by first | rfl | decide +kernel)
set_option maxRecDepth 20000 in
theorem tw_73 : (Cond.fieldLink RX3 (29 : Nat) "PathSteps" "levels" "[I") ∈ tg := tg_at 107 (by first | rfl | decide +kernel) (by first | rfl | decide +kernel)
set_option maxRecDepth 20000 in
theorem tw_74 : (Cond.fieldLink RX3 (33 : Nat) "PathSteps" "pathCount" "I") ∈ tg := tg_at 108 (by first | rfl | decide +kernel) (by first | rfl | decide +kernel)
set_option maxRecDepth 20000 in
theorem tw_75 : (Cond.fieldLink RX3 (37 : Nat) "PathSteps" "most" "I") ∈ tg := tg_at 109 (by first | rfl | decide +kernel) (by first | rfl | decide +kernel)
set_option maxRecDepth 20000 in
theorem tw_76 : (Cond.laysFinal RX3 "PathSteps" "triples" "LPathSteps$Triples;") ∈ tg := tg_at 110 (by first | rfl | decide +kernel) (by first | rfl | decide +kernel)
set_option maxRecDepth 20000 in
theorem tw_78 : (Cond.laysFinal RX3 "PathSteps" "paths" "[LPathSteps$Path;") ∈ tg := tg_at 112 (by first | rfl | decide +kernel) (by first | rfl | decide +kernel)
set_option maxRecDepth 20000 in
theorem tw_80 : (Cond.laysFinal RX3 "PathSteps" "rows" "LPathSteps$Rows;") ∈ tg := tg_at 114 (by first | rfl | decide +kernel) (by first | rfl | decide +kernel)
set_option maxRecDepth 20000 in
theorem tw_82 : (Cond.laysFinal RX3 "PathSteps" "levels" "[I") ∈ tg := tg_at 116 (by first | rfl | decide +kernel) (by first | rfl | decide +kernel)
set_option maxRecDepth 20000 in
theorem tw_84 : (Cond.lays RX3 "PathSteps" "pathCount" "I") ∈ tg := tg_at 118 (by first | rfl | decide +kernel) (by first | rfl | decide +kernel)
set_option maxRecDepth 20000 in
theorem tw_86 : (Cond.lays RX3 "PathSteps" "most" "I") ∈ tg := tg_at 120 (by first | rfl | decide +kernel) (by first | rfl | decide +kernel)
set_option maxRecDepth 20000 in
theorem tw_88 : (Cond.superclass "PathSteps" "java/lang/Object") ∈ tg := tg_at 122 (by first | rfl | decide +kernel) (by first | rfl | decide +kernel)
set_option maxRecDepth 20000 in
theorem tw_89 : (Cond.methodLink RL (19 : Nat) yX3_triple) ∈ tg := tg_at 123 (by first | rfl | decide +kernel) (by first | rfl | decide +kernel)
set_option maxRecDepth 20000 in
theorem tw_90 : (Cond.instanceMethod yX3_triple) ∈ tg := tg_at 124 (by first | rfl | decide +kernel) (by first | rfl | decide +kernel)
set_option maxRecDepth 20000 in
theorem tw_91 : (Cond.selects RX3 yX3_triple yX3_triple) ∈ tg := tg_at 125 (by first | rfl | decide +kernel) (by first | rfl | decide +kernel)
set_option maxRecDepth 20000 in
theorem tw_92 : (Cond.code yX3_triple cX3_triple (4 : Nat) (Option.some FieldType.int)) ∈ tg := tg_at 126 (by first | rfl | decide +kernel) (by first | rfl | decide +kernel)
set_option maxRecDepth 20000 in
theorem tw_93 : (Cond.methodLink RX3 (40 : Nat) yX3_isNode) ∈ tg := tg_at 127 (by first | rfl | decide +kernel) (by first | rfl | decide +kernel)
set_option maxRecDepth 20000 in
theorem tw_94 : (Cond.static yX3_isNode) ∈ tg := tg_at 128 (by first | rfl | decide +kernel) (by first | rfl | decide +kernel)
set_option maxRecDepth 20000 in
theorem tw_95 : (Cond.code yX3_isNode cX3_isNode (1 : Nat) (Option.some FieldType.boolean)) ∈ tg := tg_at 129 (by first | rfl | decide +kernel) (by first | rfl | decide +kernel)
set_option maxRecDepth 20000 in
theorem tw_96 : (Cond.methodLink RX3 (44 : Nat) yX3_isPredicate) ∈ tg := tg_at 130 (by first | rfl | decide +kernel) (by first | rfl | decide +kernel)
set_option maxRecDepth 20000 in
theorem tw_97 : (Cond.static yX3_isPredicate) ∈ tg := tg_at 131 (by first | rfl | decide +kernel) (by first | rfl | decide +kernel)
set_option maxRecDepth 20000 in
theorem tw_98 : (Cond.code yX3_isPredicate cX3_isPredicate (1 : Nat) (Option.some FieldType.boolean)) ∈ tg := tg_at 132 (by first | rfl | decide +kernel) (by first | rfl | decide +kernel)
set_option maxRecDepth 20000 in
theorem tw_99 : (Cond.methodLink RX3 (47 : Nat) yX2_has) ∈ tg := tg_at 133 (by first | rfl | decide +kernel) (by first | rfl | decide +kernel)
set_option maxRecDepth 20000 in
theorem tw_100 : (Cond.instanceMethod yX2_has) ∈ tg := tg_at 134 (by first | rfl | decide +kernel) (by first | rfl | decide +kernel)
set_option maxRecDepth 20000 in
theorem tw_101 : (Cond.selects RX2 yX2_has yX2_has) ∈ tg := tg_at 135 (by first | rfl | decide +kernel) (by first | rfl | decide +kernel)
set_option maxRecDepth 20000 in
theorem tw_102 : (Cond.code yX2_has cX2_has (4 : Nat) (Option.some FieldType.boolean)) ∈ tg := tg_at 136 (by first | rfl | decide +kernel) (by first | rfl | decide +kernel)
set_option maxRecDepth 20000 in
theorem tn_103 : (Cond.methodLinkNest RX2 (22 : Nat) yX3_holds "PathSteps") ∈ lw_tbl := List.mem_of_getElem? (i := 137) (by first | rfl | decide +kernel)
set_option maxRecDepth 20000 in
theorem tw_104 : (Cond.static yX3_holds) ∈ tg := tg_at 138 (by first | rfl | decide +kernel) (by first | rfl | decide +kernel)
set_option maxRecDepth 20000 in
theorem tw_105 : (Cond.code yX3_holds cX3_holds (2 : Nat) (Option.some FieldType.boolean)) ∈ tg := tg_at 139 (by first | rfl | decide +kernel) (by first | rfl | decide +kernel)
set_option maxRecDepth 20000 in
theorem tw_106 : (Cond.methodLink RX3 (54 : Nat) yX2_add) ∈ tg := tg_at 140 (by first | rfl | decide +kernel) (by first | rfl | decide +kernel)
set_option maxRecDepth 20000 in
theorem tw_107 : (Cond.instanceMethod yX2_add) ∈ tg := tg_at 141 (by first | rfl | decide +kernel) (by first | rfl | decide +kernel)
set_option maxRecDepth 20000 in
theorem tw_108 : (Cond.selects RX2 yX2_add yX2_add) ∈ tg := tg_at 142 (by first | rfl | decide +kernel) (by first | rfl | decide +kernel)
set_option maxRecDepth 20000 in
theorem tw_109 : (Cond.code yX2_add cX2_add (4 : Nat) (Option.none : Option FieldType)) ∈ tg := tg_at 143 (by first | rfl | decide +kernel) (by first | rfl | decide +kernel)
set_option maxRecDepth 20000 in
theorem tw_110 : (Cond.methodLink RL (24 : Nat) yX3_path) ∈ tg := tg_at 144 (by first | rfl | decide +kernel) (by first | rfl | decide +kernel)
set_option maxRecDepth 20000 in
theorem tw_111 : (Cond.instanceMethod yX3_path) ∈ tg := tg_at 145 (by first | rfl | decide +kernel) (by first | rfl | decide +kernel)
set_option maxRecDepth 20000 in
theorem tw_112 : (Cond.selects RX3 yX3_path yX3_path) ∈ tg := tg_at 146 (by first | rfl | decide +kernel) (by first | rfl | decide +kernel)
set_option maxRecDepth 20000 in
theorem tw_113 : (Cond.code yX3_path cX3_path (4 : Nat) (Option.some FieldType.int)) ∈ tg := tg_at 147 (by first | rfl | decide +kernel) (by first | rfl | decide +kernel)
set_option maxRecDepth 20000 in
theorem tw_114 : (Cond.methodLink RX3 (58 : Nat) yX3_keepPath) ∈ tg := tg_at 148 (by first | rfl | decide +kernel) (by first | rfl | decide +kernel)
set_option maxRecDepth 20000 in
theorem tw_116 : (Cond.instanceMethod yX3_keepPath) ∈ tg := tg_at 150 (by first | rfl | decide +kernel) (by first | rfl | decide +kernel)
set_option maxRecDepth 20000 in
theorem tw_117 : (Cond.code yX3_keepPath cX3_keepPath (5 : Nat) (Option.some FieldType.int)) ∈ tg := tg_at 151 (by first | rfl | decide +kernel) (by first | rfl | decide +kernel)
set_option maxRecDepth 20000 in
theorem tw_118 : (Cond.instantiable RX0 (10 : Nat)) ∈ tg := tg_at 152 (by first | rfl | decide +kernel) (by first | rfl | decide +kernel)
set_option maxRecDepth 20000 in
theorem tw_119 : (Cond.methodLink RX3 (119 : Nat) yX0_init) ∈ tg := tg_at 153 (by first | rfl | decide +kernel) (by first | rfl | decide +kernel)
set_option maxRecDepth 20000 in
theorem tw_120 : (Cond.instanceMethod yX0_init) ∈ tg := tg_at 154 (by first | rfl | decide +kernel) (by first | rfl | decide +kernel)
set_option maxRecDepth 20000 in
theorem tw_121 : (Cond.code yX0_init cX0_init (8 : Nat) (Option.none : Option FieldType)) ∈ tg := tg_at 155 (by first | rfl | decide +kernel) (by first | rfl | decide +kernel)
set_option maxRecDepth 20000 in
theorem tw_122 : (Cond.methodLink RX0 (3 : Nat) objectInit) ∈ tg := tg_at 156 (by first | rfl | decide +kernel) (by first | rfl | decide +kernel)
set_option maxRecDepth 20000 in
theorem tw_123 : (Cond.fieldLink RX0 (9 : Nat) "PathSteps$Path" "number" "I") ∈ tg := tg_at 157 (by first | rfl | decide +kernel) (by first | rfl | decide +kernel)
set_option maxRecDepth 20000 in
theorem tw_124 : (Cond.fieldLink RX3 (128 : Nat) "PathSteps$Path" "number" "I") ∈ tg := tg_at 158 (by first | rfl | decide +kernel) (by first | rfl | decide +kernel)
set_option maxRecDepth 20000 in
theorem tw_125 : (Cond.fieldLink RX0 (15 : Nat) "PathSteps$Path" "kind" "I") ∈ tg := tg_at 159 (by first | rfl | decide +kernel) (by first | rfl | decide +kernel)
set_option maxRecDepth 20000 in
theorem tw_126 : (Cond.fieldLink RX0 (18 : Nat) "PathSteps$Path" "links" "I") ∈ tg := tg_at 160 (by first | rfl | decide +kernel) (by first | rfl | decide +kernel)
set_option maxRecDepth 20000 in
theorem tw_127 : (Cond.fieldLink RX0 (21 : Nat) "PathSteps$Path" "inner" "LPathSteps$Path;") ∈ tg := tg_at 161 (by first | rfl | decide +kernel) (by first | rfl | decide +kernel)
set_option maxRecDepth 20000 in
theorem tw_128 : (Cond.fieldLink RX0 (25 : Nat) "PathSteps$Path" "other" "LPathSteps$Path;") ∈ tg := tg_at 162 (by first | rfl | decide +kernel) (by first | rfl | decide +kernel)
set_option maxRecDepth 20000 in
theorem tw_129 : (Cond.fieldLink RX0 (28 : Nat) "PathSteps$Path" "parts" "J") ∈ tg := tg_at 163 (by first | rfl | decide +kernel) (by first | rfl | decide +kernel)
set_option maxRecDepth 20000 in
theorem tw_130 : (Cond.fieldLink RX0 (32 : Nat) "PathSteps$Path" "times" "[I") ∈ tg := tg_at 164 (by first | rfl | decide +kernel) (by first | rfl | decide +kernel)
set_option maxRecDepth 20000 in
theorem tw_131 : (Cond.fieldLink RX0 (36 : Nat) "PathSteps$Path" "joined" "[I") ∈ tg := tg_at 165 (by first | rfl | decide +kernel) (by first | rfl | decide +kernel)
set_option maxRecDepth 20000 in
theorem tw_132 : (Cond.fieldLink RX3 (155 : Nat) "PathSteps$Path" "joined" "[I") ∈ tg := tg_at 166 (by first | rfl | decide +kernel) (by first | rfl | decide +kernel)
set_option maxRecDepth 20000 in
theorem tw_133 : (Cond.fieldLink RX0 (39 : Nat) "PathSteps$Path" "countedSize" "I") ∈ tg := tg_at 167 (by first | rfl | decide +kernel) (by first | rfl | decide +kernel)
set_option maxRecDepth 20000 in
theorem tw_134 : (Cond.fieldLink RX0 (42 : Nat) "PathSteps$Path" "countedGraph" "I") ∈ tg := tg_at 168 (by first | rfl | decide +kernel) (by first | rfl | decide +kernel)
set_option maxRecDepth 20000 in
theorem tw_135 : (Cond.laysFinal RX0 "PathSteps$Path" "number" "I") ∈ tg := tg_at 169 (by first | rfl | decide +kernel) (by first | rfl | decide +kernel)
set_option maxRecDepth 20000 in
theorem tw_137 : (Cond.laysFinal RX0 "PathSteps$Path" "kind" "I") ∈ tg := tg_at 171 (by first | rfl | decide +kernel) (by first | rfl | decide +kernel)
set_option maxRecDepth 20000 in
theorem tw_139 : (Cond.laysFinal RX0 "PathSteps$Path" "links" "I") ∈ tg := tg_at 173 (by first | rfl | decide +kernel) (by first | rfl | decide +kernel)
set_option maxRecDepth 20000 in
theorem tw_141 : (Cond.laysFinal RX0 "PathSteps$Path" "inner" "LPathSteps$Path;") ∈ tg := tg_at 175 (by first | rfl | decide +kernel) (by first | rfl | decide +kernel)
set_option maxRecDepth 20000 in
theorem tw_143 : (Cond.laysFinal RX0 "PathSteps$Path" "other" "LPathSteps$Path;") ∈ tg := tg_at 177 (by first | rfl | decide +kernel) (by first | rfl | decide +kernel)
set_option maxRecDepth 20000 in
theorem tw_145 : (Cond.laysFinal RX0 "PathSteps$Path" "parts" "J") ∈ tg := tg_at 179 (by first | rfl | decide +kernel) (by first | rfl | decide +kernel)
set_option maxRecDepth 20000 in
theorem tw_147 : (Cond.laysFinal RX0 "PathSteps$Path" "times" "[I") ∈ tg := tg_at 181 (by first | rfl | decide +kernel) (by first | rfl | decide +kernel)
set_option maxRecDepth 20000 in
theorem tw_149 : (Cond.laysFinal RX0 "PathSteps$Path" "joined" "[I") ∈ tg := tg_at 183 (by first | rfl | decide +kernel) (by first | rfl | decide +kernel)
set_option maxRecDepth 20000 in
theorem tw_151 : (Cond.lays RX0 "PathSteps$Path" "countedSize" "I") ∈ tg := tg_at 185 (by first | rfl | decide +kernel) (by first | rfl | decide +kernel)
set_option maxRecDepth 20000 in
theorem tw_153 : (Cond.lays RX0 "PathSteps$Path" "countedGraph" "I") ∈ tg := tg_at 187 (by first | rfl | decide +kernel) (by first | rfl | decide +kernel)
set_option maxRecDepth 20000 in
theorem tw_155 : (Cond.superclass "PathSteps$Path" "java/lang/Object") ∈ tg := tg_at 189 (by first | rfl | decide +kernel) (by first | rfl | decide +kernel)
set_option maxRecDepth 20000 in
theorem tw_156 : (Cond.methodLink RX3 (62 : Nat) yX3_known) ∈ tg := tg_at 190 (by first | rfl | decide +kernel) (by first | rfl | decide +kernel)
set_option maxRecDepth 20000 in
theorem tw_158 : (Cond.instanceMethod yX3_known) ∈ tg := tg_at 192 (by first | rfl | decide +kernel) (by first | rfl | decide +kernel)
set_option maxRecDepth 20000 in
theorem tw_159 : (Cond.code yX3_known cX3_known (2 : Nat) (Option.some (FieldType.object "PathSteps$Path"))) ∈ tg := tg_at 193 (by first | rfl | decide +kernel) (by first | rfl | decide +kernel)
set_option maxRecDepth 20000 in
theorem tw_160 : (Cond.methodLink RX3 (66 : Nat) yX3_keepOverTwo) ∈ tg := tg_at 194 (by first | rfl | decide +kernel) (by first | rfl | decide +kernel)
set_option maxRecDepth 20000 in
theorem tw_162 : (Cond.instanceMethod yX3_keepOverTwo) ∈ tg := tg_at 196 (by first | rfl | decide +kernel) (by first | rfl | decide +kernel)
set_option maxRecDepth 20000 in
theorem tw_163 : (Cond.code yX3_keepOverTwo cX3_keepOverTwo (4 : Nat) (Option.some FieldType.int)) ∈ tg := tg_at 197 (by first | rfl | decide +kernel) (by first | rfl | decide +kernel)
set_option maxRecDepth 20000 in
theorem tw_164 : (Cond.methodLink RX3 (70 : Nat) yX3_keepOverOne) ∈ tg := tg_at 198 (by first | rfl | decide +kernel) (by first | rfl | decide +kernel)
set_option maxRecDepth 20000 in
theorem tw_166 : (Cond.instanceMethod yX3_keepOverOne) ∈ tg := tg_at 200 (by first | rfl | decide +kernel) (by first | rfl | decide +kernel)
set_option maxRecDepth 20000 in
theorem tw_167 : (Cond.code yX3_keepOverOne cX3_keepOverOne (3 : Nat) (Option.some FieldType.int)) ∈ tg := tg_at 201 (by first | rfl | decide +kernel) (by first | rfl | decide +kernel)
set_option maxRecDepth 20000 in
theorem tw_168 : (Cond.methodLink RL (28 : Nat) yX3_from) ∈ tg := tg_at 202 (by first | rfl | decide +kernel) (by first | rfl | decide +kernel)
set_option maxRecDepth 20000 in
theorem tw_169 : (Cond.instanceMethod yX3_from) ∈ tg := tg_at 203 (by first | rfl | decide +kernel) (by first | rfl | decide +kernel)
set_option maxRecDepth 20000 in
theorem tw_170 : (Cond.selects RX3 yX3_from yX3_from) ∈ tg := tg_at 204 (by first | rfl | decide +kernel) (by first | rfl | decide +kernel)
set_option maxRecDepth 20000 in
theorem tw_171 : (Cond.code yX3_from cX3_from (2 : Nat) (Option.some FieldType.int)) ∈ tg := tg_at 205 (by first | rfl | decide +kernel) (by first | rfl | decide +kernel)
set_option maxRecDepth 20000 in
theorem tw_172 : (Cond.methodLink RX3 (74 : Nat) yX2_countFrom) ∈ tg := tg_at 206 (by first | rfl | decide +kernel) (by first | rfl | decide +kernel)
set_option maxRecDepth 20000 in
theorem tw_173 : (Cond.instanceMethod yX2_countFrom) ∈ tg := tg_at 207 (by first | rfl | decide +kernel) (by first | rfl | decide +kernel)
set_option maxRecDepth 20000 in
theorem tw_174 : (Cond.selects RX2 yX2_countFrom yX2_countFrom) ∈ tg := tg_at 208 (by first | rfl | decide +kernel) (by first | rfl | decide +kernel)
set_option maxRecDepth 20000 in
theorem tw_175 : (Cond.code yX2_countFrom cX2_countFrom (4 : Nat) (Option.some FieldType.int)) ∈ tg := tg_at 209 (by first | rfl | decide +kernel) (by first | rfl | decide +kernel)
set_option maxRecDepth 20000 in
theorem tw_176 : (Cond.methodLink RX2 (26 : Nat) yJ6_bitCount_0f7a4) ∈ tg := tg_at 210 (by first | rfl | decide +kernel) (by first | rfl | decide +kernel)
set_option maxRecDepth 20000 in
theorem tw_177 : (Cond.static yJ6_bitCount_0f7a4) ∈ tg := tg_at 211 (by first | rfl | decide +kernel) (by first | rfl | decide +kernel)
set_option maxRecDepth 20000 in
theorem tw_178 : (Cond.code yJ6_bitCount_0f7a4 cJ6_bitCount_0f7a4 (1 : Nat) (Option.some FieldType.int)) ∈ tg := tg_at 212 (by first | rfl | decide +kernel) (by first | rfl | decide +kernel)
set_option maxRecDepth 20000 in
theorem tw_179 : (Cond.constant RJ6 (265 : Nat) (1431655765 : Int32)) ∈ tg := tg_at 213 (by first | rfl | decide +kernel) (by first | rfl | decide +kernel)
set_option maxRecDepth 20000 in
theorem tw_180 : (Cond.constant RJ6 (266 : Nat) (858993459 : Int32)) ∈ tg := tg_at 214 (by first | rfl | decide +kernel) (by first | rfl | decide +kernel)
set_option maxRecDepth 20000 in
theorem tw_181 : (Cond.constant RJ6 (267 : Nat) (252645135 : Int32)) ∈ tg := tg_at 215 (by first | rfl | decide +kernel) (by first | rfl | decide +kernel)
set_option maxRecDepth 20000 in
theorem tw_182 : (Cond.methodLink RL (32 : Nat) yX3_run) ∈ tg := tg_at 216 (by first | rfl | decide +kernel) (by first | rfl | decide +kernel)
set_option maxRecDepth 20000 in
theorem tw_183 : (Cond.instanceMethod yX3_run) ∈ tg := tg_at 217 (by first | rfl | decide +kernel) (by first | rfl | decide +kernel)
set_option maxRecDepth 20000 in
theorem tw_184 : (Cond.selects RX3 yX3_run yX3_run) ∈ tg := tg_at 218 (by first | rfl | decide +kernel) (by first | rfl | decide +kernel)
set_option maxRecDepth 20000 in
theorem tw_185 : (Cond.code yX3_run cX3_run (6 : Nat) (Option.some FieldType.int)) ∈ tg := tg_at 219 (by first | rfl | decide +kernel) (by first | rfl | decide +kernel)
set_option maxRecDepth 20000 in
theorem tw_186 : (Cond.methodLink RX3 (78 : Nat) yX3_isEnd) ∈ tg := tg_at 220 (by first | rfl | decide +kernel) (by first | rfl | decide +kernel)
set_option maxRecDepth 20000 in
theorem tw_187 : (Cond.static yX3_isEnd) ∈ tg := tg_at 221 (by first | rfl | decide +kernel) (by first | rfl | decide +kernel)
set_option maxRecDepth 20000 in
theorem tw_188 : (Cond.code yX3_isEnd cX3_isEnd (1 : Nat) (Option.some FieldType.boolean)) ∈ tg := tg_at 222 (by first | rfl | decide +kernel) (by first | rfl | decide +kernel)
set_option maxRecDepth 20000 in
theorem tw_189 : (Cond.methodLink RX3 (81 : Nat) yX3_countParts) ∈ tg := tg_at 223 (by first | rfl | decide +kernel) (by first | rfl | decide +kernel)
set_option maxRecDepth 20000 in
theorem tw_191 : (Cond.instanceMethod yX3_countParts) ∈ tg := tg_at 225 (by first | rfl | decide +kernel) (by first | rfl | decide +kernel)
set_option maxRecDepth 20000 in
theorem tw_192 : (Cond.code yX3_countParts cX3_countParts (7 : Nat) (Option.none : Option FieldType)) ∈ tg := tg_at 226 (by first | rfl | decide +kernel) (by first | rfl | decide +kernel)
set_option maxRecDepth 20000 in
theorem tw_193 : (Cond.methodLink RX3 (125 : Nat) yX3_bitOf) ∈ tg := tg_at 227 (by first | rfl | decide +kernel) (by first | rfl | decide +kernel)
set_option maxRecDepth 20000 in
theorem tw_194 : (Cond.static yX3_bitOf) ∈ tg := tg_at 228 (by first | rfl | decide +kernel) (by first | rfl | decide +kernel)
set_option maxRecDepth 20000 in
theorem tw_195 : (Cond.code yX3_bitOf cX3_bitOf (1 : Nat) (Option.some FieldType.int)) ∈ tg := tg_at 229 (by first | rfl | decide +kernel) (by first | rfl | decide +kernel)
set_option maxRecDepth 20000 in
theorem tw_196 : (Cond.methodLink RX3 (131 : Nat) yX0_isMadeOf) ∈ tg := tg_at 230 (by first | rfl | decide +kernel) (by first | rfl | decide +kernel)
set_option maxRecDepth 20000 in
theorem tw_197 : (Cond.instanceMethod yX0_isMadeOf) ∈ tg := tg_at 231 (by first | rfl | decide +kernel) (by first | rfl | decide +kernel)
set_option maxRecDepth 20000 in
theorem tw_198 : (Cond.selects RX0 yX0_isMadeOf yX0_isMadeOf) ∈ tg := tg_at 232 (by first | rfl | decide +kernel) (by first | rfl | decide +kernel)
set_option maxRecDepth 20000 in
theorem tw_199 : (Cond.code yX0_isMadeOf cX0_isMadeOf (2 : Nat) (Option.some FieldType.boolean)) ∈ tg := tg_at 233 (by first | rfl | decide +kernel) (by first | rfl | decide +kernel)
set_option maxRecDepth 20000 in
theorem tw_200 : (Cond.methodLink RX3 (134 : Nat) yX0_countIn) ∈ tg := tg_at 234 (by first | rfl | decide +kernel) (by first | rfl | decide +kernel)
set_option maxRecDepth 20000 in
theorem tw_201 : (Cond.instanceMethod yX0_countIn) ∈ tg := tg_at 235 (by first | rfl | decide +kernel) (by first | rfl | decide +kernel)
set_option maxRecDepth 20000 in
theorem tw_202 : (Cond.selects RX0 yX0_countIn yX0_countIn) ∈ tg := tg_at 236 (by first | rfl | decide +kernel) (by first | rfl | decide +kernel)
set_option maxRecDepth 20000 in
theorem tw_203 : (Cond.code yX0_countIn cX0_countIn (3 : Nat) (Option.none : Option FieldType)) ∈ tg := tg_at 237 (by first | rfl | decide +kernel) (by first | rfl | decide +kernel)
set_option maxRecDepth 20000 in
theorem tw_204 : (Cond.methodLink RX0 (66 : Nat) yX0_forget) ∈ tg := tg_at 238 (by first | rfl | decide +kernel) (by first | rfl | decide +kernel)
set_option maxRecDepth 20000 in
theorem tw_206 : (Cond.instanceMethod yX0_forget) ∈ tg := tg_at 240 (by first | rfl | decide +kernel) (by first | rfl | decide +kernel)
set_option maxRecDepth 20000 in
theorem tw_207 : (Cond.code yX0_forget cX0_forget (2 : Nat) (Option.none : Option FieldType)) ∈ tg := tg_at 241 (by first | rfl | decide +kernel) (by first | rfl | decide +kernel)
set_option maxRecDepth 20000 in
theorem tw_208 : (Cond.methodLink RX0 (69 : Nat) yX0_countLinks) ∈ tg := tg_at 242 (by first | rfl | decide +kernel) (by first | rfl | decide +kernel)
set_option maxRecDepth 20000 in
theorem tw_210 : (Cond.instanceMethod yX0_countLinks) ∈ tg := tg_at 244 (by first | rfl | decide +kernel) (by first | rfl | decide +kernel)
set_option maxRecDepth 20000 in
theorem tw_211 : (Cond.code yX0_countLinks cX0_countLinks (4 : Nat) (Option.none : Option FieldType)) ∈ tg := tg_at 245 (by first | rfl | decide +kernel) (by first | rfl | decide +kernel)
set_option maxRecDepth 20000 in
theorem tw_212 : (Cond.methodLink RX0 (45 : Nat) yJ6_bitCount_0f7a4) ∈ tg := tg_at 246 (by first | rfl | decide +kernel) (by first | rfl | decide +kernel)
set_option maxRecDepth 20000 in
theorem tw_213 : (Cond.methodLink RX0 (91 : Nat) yX0_addTimes) ∈ tg := tg_at 247 (by first | rfl | decide +kernel) (by first | rfl | decide +kernel)
set_option maxRecDepth 20000 in
theorem tw_215 : (Cond.instanceMethod yX0_addTimes) ∈ tg := tg_at 249 (by first | rfl | decide +kernel) (by first | rfl | decide +kernel)
set_option maxRecDepth 20000 in
theorem tw_216 : (Cond.code yX0_addTimes cX0_addTimes (6 : Nat) (Option.none : Option FieldType)) ∈ tg := tg_at 250 (by first | rfl | decide +kernel) (by first | rfl | decide +kernel)
set_option maxRecDepth 20000 in
theorem tw_217 : (Cond.constantLong RX0 (81 : Nat) (1000000 : Int64)) ∈ tg := tg_at 251 (by first | rfl | decide +kernel) (by first | rfl | decide +kernel)
set_option maxRecDepth 20000 in
theorem tw_218 : (Cond.methodLink RX0 (83 : Nat) yJ9_min_f86c9) ∈ tg := tg_at 252 (by first | rfl | decide +kernel) (by first | rfl | decide +kernel)
set_option maxRecDepth 20000 in
theorem tw_219 : (Cond.static yJ9_min_f86c9) ∈ tg := tg_at 253 (by first | rfl | decide +kernel) (by first | rfl | decide +kernel)
set_option maxRecDepth 20000 in
theorem tw_220 : (Cond.code yJ9_min_f86c9 cJ9_min_f86c9 (4 : Nat) (Option.some FieldType.long)) ∈ tg := tg_at 254 (by first | rfl | decide +kernel) (by first | rfl | decide +kernel)
set_option maxRecDepth 20000 in
theorem tw_221 : (Cond.methodLink RX0 (73 : Nat) yX0_countOverOne) ∈ tg := tg_at 255 (by first | rfl | decide +kernel) (by first | rfl | decide +kernel)
set_option maxRecDepth 20000 in
theorem tw_223 : (Cond.instanceMethod yX0_countOverOne) ∈ tg := tg_at 257 (by first | rfl | decide +kernel) (by first | rfl | decide +kernel)
set_option maxRecDepth 20000 in
theorem tw_224 : (Cond.code yX0_countOverOne cX0_countOverOne (3 : Nat) (Option.none : Option FieldType)) ∈ tg := tg_at 258 (by first | rfl | decide +kernel) (by first | rfl | decide +kernel)
set_option maxRecDepth 20000 in
theorem tw_225 : (Cond.methodLink RX0 (95 : Nat) yX0_countTurned) ∈ tg := tg_at 259 (by first | rfl | decide +kernel) (by first | rfl | decide +kernel)
set_option maxRecDepth 20000 in
theorem tw_227 : (Cond.instanceMethod yX0_countTurned) ∈ tg := tg_at 261 (by first | rfl | decide +kernel) (by first | rfl | decide +kernel)
set_option maxRecDepth 20000 in
theorem tw_228 : (Cond.code yX0_countTurned cX0_countTurned (4 : Nat) (Option.none : Option FieldType)) ∈ tg := tg_at 262 (by first | rfl | decide +kernel) (by first | rfl | decide +kernel)
set_option maxRecDepth 20000 in
theorem tw_229 : (Cond.methodLink RX0 (57 : Nat) yX0_timesOf) ∈ tg := tg_at 263 (by first | rfl | decide +kernel) (by first | rfl | decide +kernel)
set_option maxRecDepth 20000 in
theorem tw_230 : (Cond.instanceMethod yX0_timesOf) ∈ tg := tg_at 264 (by first | rfl | decide +kernel) (by first | rfl | decide +kernel)
set_option maxRecDepth 20000 in
theorem tw_231 : (Cond.selects RX0 yX0_timesOf yX0_timesOf) ∈ tg := tg_at 265 (by first | rfl | decide +kernel) (by first | rfl | decide +kernel)
set_option maxRecDepth 20000 in
theorem tw_232 : (Cond.code yX0_timesOf cX0_timesOf (3 : Nat) (Option.some FieldType.int)) ∈ tg := tg_at 266 (by first | rfl | decide +kernel) (by first | rfl | decide +kernel)
set_option maxRecDepth 20000 in
theorem tw_233 : (Cond.methodLink RX0 (99 : Nat) yX0_joinByStep) ∈ tg := tg_at 267 (by first | rfl | decide +kernel) (by first | rfl | decide +kernel)
set_option maxRecDepth 20000 in
theorem tw_235 : (Cond.instanceMethod yX0_joinByStep) ∈ tg := tg_at 269 (by first | rfl | decide +kernel) (by first | rfl | decide +kernel)
set_option maxRecDepth 20000 in
theorem tw_236 : (Cond.code yX0_joinByStep cX0_joinByStep (4 : Nat) (Option.none : Option FieldType)) ∈ tg := tg_at 270 (by first | rfl | decide +kernel) (by first | rfl | decide +kernel)
set_option maxRecDepth 20000 in
theorem tw_237 : (Cond.methodLink RX0 (115 : Nat) yX0_walks) ∈ tg := tg_at 271 (by first | rfl | decide +kernel) (by first | rfl | decide +kernel)
set_option maxRecDepth 20000 in
theorem tw_238 : (Cond.instanceMethod yX0_walks) ∈ tg := tg_at 272 (by first | rfl | decide +kernel) (by first | rfl | decide +kernel)
set_option maxRecDepth 20000 in
theorem tw_239 : (Cond.selects RX0 yX0_walks yX0_walks) ∈ tg := tg_at 273 (by first | rfl | decide +kernel) (by first | rfl | decide +kernel)
set_option maxRecDepth 20000 in
theorem tw_240 : (Cond.code yX0_walks cX0_walks (1 : Nat) (Option.some FieldType.boolean)) ∈ tg := tg_at 274 (by first | rfl | decide +kernel) (by first | rfl | decide +kernel)
set_option maxRecDepth 20000 in
theorem tw_241 : (Cond.methodLink RX0 (119 : Nat) yX0_joinOnwards) ∈ tg := tg_at 275 (by first | rfl | decide +kernel) (by first | rfl | decide +kernel)
set_option maxRecDepth 20000 in
theorem tw_243 : (Cond.instanceMethod yX0_joinOnwards) ∈ tg := tg_at 277 (by first | rfl | decide +kernel) (by first | rfl | decide +kernel)
set_option maxRecDepth 20000 in
theorem tw_244 : (Cond.code yX0_joinOnwards cX0_joinOnwards (3 : Nat) (Option.none : Option FieldType)) ∈ tg := tg_at 278 (by first | rfl | decide +kernel) (by first | rfl | decide +kernel)
set_option maxRecDepth 20000 in
theorem tn_245 : (Cond.methodLinkNest RX0 (126 : Nat) yX3_holds "PathSteps") ∈ lw_tbl := List.mem_of_getElem? (i := 279) (by first | rfl | decide +kernel)
set_option maxRecDepth 20000 in
theorem tw_246 : (Cond.methodLink RX0 (122 : Nat) yX0_joinSelves) ∈ tg := tg_at 280 (by first | rfl | decide +kernel) (by first | rfl | decide +kernel)
set_option maxRecDepth 20000 in
theorem tw_248 : (Cond.instanceMethod yX0_joinSelves) ∈ tg := tg_at 282 (by first | rfl | decide +kernel) (by first | rfl | decide +kernel)
set_option maxRecDepth 20000 in
theorem tw_249 : (Cond.code yX0_joinSelves cX0_joinSelves (3 : Nat) (Option.none : Option FieldType)) ∈ tg := tg_at 283 (by first | rfl | decide +kernel) (by first | rfl | decide +kernel)
set_option maxRecDepth 20000 in
theorem tw_250 : (Cond.methodLink RX0 (102 : Nat) yX0_countJoinedOnce) ∈ tg := tg_at 284 (by first | rfl | decide +kernel) (by first | rfl | decide +kernel)
set_option maxRecDepth 20000 in
theorem tw_252 : (Cond.instanceMethod yX0_countJoinedOnce) ∈ tg := tg_at 286 (by first | rfl | decide +kernel) (by first | rfl | decide +kernel)
set_option maxRecDepth 20000 in
theorem tw_253 : (Cond.code yX0_countJoinedOnce cX0_countJoinedOnce (3 : Nat) (Option.none : Option FieldType)) ∈ tg := tg_at 287 (by first | rfl | decide +kernel) (by first | rfl | decide +kernel)
set_option maxRecDepth 20000 in
theorem tw_254 : (Cond.methodLink RX0 (77 : Nat) yX0_countOverTwo) ∈ tg := tg_at 288 (by first | rfl | decide +kernel) (by first | rfl | decide +kernel)
set_option maxRecDepth 20000 in
theorem tw_256 : (Cond.instanceMethod yX0_countOverTwo) ∈ tg := tg_at 290 (by first | rfl | decide +kernel) (by first | rfl | decide +kernel)
set_option maxRecDepth 20000 in
theorem tw_257 : (Cond.code yX0_countOverTwo cX0_countOverTwo (3 : Nat) (Option.none : Option FieldType)) ∈ tg := tg_at 291 (by first | rfl | decide +kernel) (by first | rfl | decide +kernel)
set_option maxRecDepth 20000 in
theorem tw_258 : (Cond.methodLink RX0 (105 : Nat) yX0_countAll) ∈ tg := tg_at 292 (by first | rfl | decide +kernel) (by first | rfl | decide +kernel)
set_option maxRecDepth 20000 in
theorem tw_260 : (Cond.instanceMethod yX0_countAll) ∈ tg := tg_at 294 (by first | rfl | decide +kernel) (by first | rfl | decide +kernel)
set_option maxRecDepth 20000 in
theorem tw_261 : (Cond.code yX0_countAll cX0_countAll (4 : Nat) (Option.none : Option FieldType)) ∈ tg := tg_at 295 (by first | rfl | decide +kernel) (by first | rfl | decide +kernel)
set_option maxRecDepth 20000 in
theorem tw_262 : (Cond.methodLink RX0 (108 : Nat) yX0_countBehind) ∈ tg := tg_at 296 (by first | rfl | decide +kernel) (by first | rfl | decide +kernel)
set_option maxRecDepth 20000 in
theorem tw_264 : (Cond.instanceMethod yX0_countBehind) ∈ tg := tg_at 298 (by first | rfl | decide +kernel) (by first | rfl | decide +kernel)
set_option maxRecDepth 20000 in
theorem tw_265 : (Cond.code yX0_countBehind cX0_countBehind (7 : Nat) (Option.none : Option FieldType)) ∈ tg := tg_at 299 (by first | rfl | decide +kernel) (by first | rfl | decide +kernel)
set_option maxRecDepth 20000 in
theorem tw_266 : (Cond.methodLink RX0 (111 : Nat) yX0_addBehind) ∈ tg := tg_at 300 (by first | rfl | decide +kernel) (by first | rfl | decide +kernel)
set_option maxRecDepth 20000 in
theorem tw_268 : (Cond.instanceMethod yX0_addBehind) ∈ tg := tg_at 302 (by first | rfl | decide +kernel) (by first | rfl | decide +kernel)
set_option maxRecDepth 20000 in
theorem tw_269 : (Cond.code yX0_addBehind cX0_addBehind (7 : Nat) (Option.none : Option FieldType)) ∈ tg := tg_at 303 (by first | rfl | decide +kernel) (by first | rfl | decide +kernel)
set_option maxRecDepth 20000 in
theorem tw_270 : (Cond.methodLink RX3 (85 : Nat) yX3_goesBeyond) ∈ tg := tg_at 304 (by first | rfl | decide +kernel) (by first | rfl | decide +kernel)
set_option maxRecDepth 20000 in
theorem tw_272 : (Cond.instanceMethod yX3_goesBeyond) ∈ tg := tg_at 306 (by first | rfl | decide +kernel) (by first | rfl | decide +kernel)
set_option maxRecDepth 20000 in
theorem tw_273 : (Cond.code yX3_goesBeyond cX3_goesBeyond (4 : Nat) (Option.some FieldType.boolean)) ∈ tg := tg_at 307 (by first | rfl | decide +kernel) (by first | rfl | decide +kernel)
set_option maxRecDepth 20000 in
theorem tw_274 : (Cond.methodLink RX3 (138 : Nat) yX0_walks) ∈ tg := tg_at 308 (by first | rfl | decide +kernel) (by first | rfl | decide +kernel)
set_option maxRecDepth 20000 in
theorem tw_275 : (Cond.methodLink RX3 (142 : Nat) yX0_pairs) ∈ tg := tg_at 309 (by first | rfl | decide +kernel) (by first | rfl | decide +kernel)
set_option maxRecDepth 20000 in
theorem tw_276 : (Cond.instanceMethod yX0_pairs) ∈ tg := tg_at 310 (by first | rfl | decide +kernel) (by first | rfl | decide +kernel)
set_option maxRecDepth 20000 in
theorem tw_277 : (Cond.selects RX0 yX0_pairs yX0_pairs) ∈ tg := tg_at 311 (by first | rfl | decide +kernel) (by first | rfl | decide +kernel)
set_option maxRecDepth 20000 in
theorem tw_278 : (Cond.code yX0_pairs cX0_pairs (3 : Nat) (Option.some FieldType.int)) ∈ tg := tg_at 312 (by first | rfl | decide +kernel) (by first | rfl | decide +kernel)
set_option maxRecDepth 20000 in
theorem tw_279 : (Cond.methodLink RX3 (89 : Nat) yX0_countBetween) ∈ tg := tg_at 313 (by first | rfl | decide +kernel) (by first | rfl | decide +kernel)
set_option maxRecDepth 20000 in
theorem tw_280 : (Cond.instanceMethod yX0_countBetween) ∈ tg := tg_at 314 (by first | rfl | decide +kernel) (by first | rfl | decide +kernel)
set_option maxRecDepth 20000 in
theorem tw_281 : (Cond.selects RX0 yX0_countBetween yX0_countBetween) ∈ tg := tg_at 315 (by first | rfl | decide +kernel) (by first | rfl | decide +kernel)
set_option maxRecDepth 20000 in
theorem tw_282 : (Cond.code yX0_countBetween cX0_countBetween (6 : Nat) (Option.some FieldType.int)) ∈ tg := tg_at 316 (by first | rfl | decide +kernel) (by first | rfl | decide +kernel)
set_option maxRecDepth 20000 in
theorem tn_283 : (Cond.methodLinkNest RX0 (51 : Nat) yX3_lowest "PathSteps") ∈ lw_tbl := List.mem_of_getElem? (i := 317) (by first | rfl | decide +kernel)
set_option maxRecDepth 20000 in
theorem tw_284 : (Cond.static yX3_lowest) ∈ tg := tg_at 318 (by first | rfl | decide +kernel) (by first | rfl | decide +kernel)
set_option maxRecDepth 20000 in
theorem tw_285 : (Cond.code yX3_lowest cX3_lowest (1 : Nat) (Option.some FieldType.int)) ∈ tg := tg_at 319 (by first | rfl | decide +kernel) (by first | rfl | decide +kernel)
set_option maxRecDepth 20000 in
theorem tn_286 : (Cond.methodLinkNest RX0 (54 : Nat) yX3_highest "PathSteps") ∈ lw_tbl := List.mem_of_getElem? (i := 320) (by first | rfl | decide +kernel)
set_option maxRecDepth 20000 in
theorem tw_287 : (Cond.static yX3_highest) ∈ tg := tg_at 321 (by first | rfl | decide +kernel) (by first | rfl | decide +kernel)
set_option maxRecDepth 20000 in
theorem tw_288 : (Cond.code yX3_highest cX3_highest (1 : Nat) (Option.some FieldType.int)) ∈ tg := tg_at 322 (by first | rfl | decide +kernel) (by first | rfl | decide +kernel)
set_option maxRecDepth 20000 in
theorem tw_289 : (Cond.methodLink RX3 (93 : Nat) yX3_keepRows) ∈ tg := tg_at 323 (by first | rfl | decide +kernel) (by first | rfl | decide +kernel)
set_option maxRecDepth 20000 in
theorem tw_291 : (Cond.instanceMethod yX3_keepRows) ∈ tg := tg_at 325 (by first | rfl | decide +kernel) (by first | rfl | decide +kernel)
set_option maxRecDepth 20000 in
theorem tw_292 : (Cond.code yX3_keepRows cX3_keepRows (6 : Nat) (Option.none : Option FieldType)) ∈ tg := tg_at 326 (by first | rfl | decide +kernel) (by first | rfl | decide +kernel)
set_option maxRecDepth 20000 in
theorem tw_293 : (Cond.methodLink RX3 (146 : Nat) yX1_begin) ∈ tg := tg_at 327 (by first | rfl | decide +kernel) (by first | rfl | decide +kernel)
set_option maxRecDepth 20000 in
theorem tw_294 : (Cond.instanceMethod yX1_begin) ∈ tg := tg_at 328 (by first | rfl | decide +kernel) (by first | rfl | decide +kernel)
set_option maxRecDepth 20000 in
theorem tw_295 : (Cond.selects RX1 yX1_begin yX1_begin) ∈ tg := tg_at 329 (by first | rfl | decide +kernel) (by first | rfl | decide +kernel)
set_option maxRecDepth 20000 in
theorem tw_296 : (Cond.code yX1_begin cX1_begin (1 : Nat) (Option.none : Option FieldType)) ∈ tg := tg_at 330 (by first | rfl | decide +kernel) (by first | rfl | decide +kernel)
set_option maxRecDepth 20000 in
theorem tw_297 : (Cond.methodLink RX3 (149 : Nat) yX3_lowest) ∈ tg := tg_at 331 (by first | rfl | decide +kernel) (by first | rfl | decide +kernel)
set_option maxRecDepth 20000 in
theorem tw_298 : (Cond.methodLink RX3 (152 : Nat) yX3_highest) ∈ tg := tg_at 332 (by first | rfl | decide +kernel) (by first | rfl | decide +kernel)
set_option maxRecDepth 20000 in
theorem tw_299 : (Cond.methodLink RX3 (158 : Nat) yX0_measure) ∈ tg := tg_at 333 (by first | rfl | decide +kernel) (by first | rfl | decide +kernel)
set_option maxRecDepth 20000 in
theorem tw_300 : (Cond.instanceMethod yX0_measure) ∈ tg := tg_at 334 (by first | rfl | decide +kernel) (by first | rfl | decide +kernel)
set_option maxRecDepth 20000 in
theorem tw_301 : (Cond.selects RX0 yX0_measure yX0_measure) ∈ tg := tg_at 335 (by first | rfl | decide +kernel) (by first | rfl | decide +kernel)
set_option maxRecDepth 20000 in
theorem tw_302 : (Cond.code yX0_measure cX0_measure (4 : Nat) (Option.none : Option FieldType)) ∈ tg := tg_at 336 (by first | rfl | decide +kernel) (by first | rfl | decide +kernel)
set_option maxRecDepth 20000 in
theorem tw_303 : (Cond.methodLink RX0 (130 : Nat) yX0_measureWalk) ∈ tg := tg_at 337 (by first | rfl | decide +kernel) (by first | rfl | decide +kernel)
set_option maxRecDepth 20000 in
theorem tw_304 : (Cond.static yX0_measureWalk) ∈ tg := tg_at 338 (by first | rfl | decide +kernel) (by first | rfl | decide +kernel)
set_option maxRecDepth 20000 in
theorem tw_305 : (Cond.code yX0_measureWalk cX0_measureWalk (8 : Nat) (Option.none : Option FieldType)) ∈ tg := tg_at 339 (by first | rfl | decide +kernel) (by first | rfl | decide +kernel)
set_option maxRecDepth 20000 in
theorem tw_306 : (Cond.methodLink RX3 (162 : Nat) yX0_timesOf) ∈ tg := tg_at 340 (by first | rfl | decide +kernel) (by first | rfl | decide +kernel)
set_option maxRecDepth 20000 in
theorem tw_307 : (Cond.methodLink RX3 (165 : Nat) yX1_add) ∈ tg := tg_at 341 (by first | rfl | decide +kernel) (by first | rfl | decide +kernel)
set_option maxRecDepth 20000 in
theorem tw_308 : (Cond.instanceMethod yX1_add) ∈ tg := tg_at 342 (by first | rfl | decide +kernel) (by first | rfl | decide +kernel)
set_option maxRecDepth 20000 in
theorem tw_309 : (Cond.selects RX1 yX1_add yX1_add) ∈ tg := tg_at 343 (by first | rfl | decide +kernel) (by first | rfl | decide +kernel)
set_option maxRecDepth 20000 in
theorem tw_310 : (Cond.code yX1_add cX1_add (6 : Nat) (Option.none : Option FieldType)) ∈ tg := tg_at 344 (by first | rfl | decide +kernel) (by first | rfl | decide +kernel)
set_option maxRecDepth 20000 in
theorem tw_311 : (Cond.methodLink RL (36 : Nat) yX3_at) ∈ tg := tg_at 345 (by first | rfl | decide +kernel) (by first | rfl | decide +kernel)
set_option maxRecDepth 20000 in
theorem tw_312 : (Cond.instanceMethod yX3_at) ∈ tg := tg_at 346 (by first | rfl | decide +kernel) (by first | rfl | decide +kernel)
set_option maxRecDepth 20000 in
theorem tw_313 : (Cond.selects RX3 yX3_at yX3_at) ∈ tg := tg_at 347 (by first | rfl | decide +kernel) (by first | rfl | decide +kernel)
set_option maxRecDepth 20000 in
theorem tw_314 : (Cond.code yX3_at cX3_at (3 : Nat) (Option.some FieldType.int)) ∈ tg := tg_at 348 (by first | rfl | decide +kernel) (by first | rfl | decide +kernel)
set_option maxRecDepth 20000 in
theorem tw_315 : (Cond.methodLink RX3 (100 : Nat) yX1_has) ∈ tg := tg_at 349 (by first | rfl | decide +kernel) (by first | rfl | decide +kernel)
set_option maxRecDepth 20000 in
theorem tw_316 : (Cond.instanceMethod yX1_has) ∈ tg := tg_at 350 (by first | rfl | decide +kernel) (by first | rfl | decide +kernel)
set_option maxRecDepth 20000 in
theorem tw_317 : (Cond.selects RX1 yX1_has yX1_has) ∈ tg := tg_at 351 (by first | rfl | decide +kernel) (by first | rfl | decide +kernel)
set_option maxRecDepth 20000 in
theorem tw_318 : (Cond.code yX1_has cX1_has (2 : Nat) (Option.some FieldType.boolean)) ∈ tg := tg_at 352 (by first | rfl | decide +kernel) (by first | rfl | decide +kernel)
set_option maxRecDepth 20000 in
theorem tw_319 : (Cond.methodLink RL (41 : Nat) yX3_plain) ∈ tg := tg_at 353 (by first | rfl | decide +kernel) (by first | rfl | decide +kernel)
set_option maxRecDepth 20000 in
theorem tw_320 : (Cond.instanceMethod yX3_plain) ∈ tg := tg_at 354 (by first | rfl | decide +kernel) (by first | rfl | decide +kernel)
set_option maxRecDepth 20000 in
theorem tw_321 : (Cond.selects RX3 yX3_plain yX3_plain) ∈ tg := tg_at 355 (by first | rfl | decide +kernel) (by first | rfl | decide +kernel)
set_option maxRecDepth 20000 in
theorem tw_322 : (Cond.code yX3_plain cX3_plain (5 : Nat) (Option.some FieldType.int)) ∈ tg := tg_at 356 (by first | rfl | decide +kernel) (by first | rfl | decide +kernel)
set_option maxRecDepth 20000 in
theorem tw_323 : (Cond.methodLink RL (45 : Nat) yX3_steps) ∈ tg := tg_at 357 (by first | rfl | decide +kernel) (by first | rfl | decide +kernel)
set_option maxRecDepth 20000 in
theorem tw_324 : (Cond.instanceMethod yX3_steps) ∈ tg := tg_at 358 (by first | rfl | decide +kernel) (by first | rfl | decide +kernel)
set_option maxRecDepth 20000 in
theorem tw_325 : (Cond.selects RX3 yX3_steps yX3_steps) ∈ tg := tg_at 359 (by first | rfl | decide +kernel) (by first | rfl | decide +kernel)
set_option maxRecDepth 20000 in
theorem tw_326 : (Cond.code yX3_steps cX3_steps (2 : Nat) (Option.some FieldType.int)) ∈ tg := tg_at 360 (by first | rfl | decide +kernel) (by first | rfl | decide +kernel)
set_option maxRecDepth 20000 in
theorem tw_327 : (Cond.methodLink RL (49 : Nat) yX3_cycle) ∈ tg := tg_at 361 (by first | rfl | decide +kernel) (by first | rfl | decide +kernel)
set_option maxRecDepth 20000 in
theorem tw_328 : (Cond.instanceMethod yX3_cycle) ∈ tg := tg_at 362 (by first | rfl | decide +kernel) (by first | rfl | decide +kernel)
set_option maxRecDepth 20000 in
theorem tw_329 : (Cond.selects RX3 yX3_cycle yX3_cycle) ∈ tg := tg_at 363 (by first | rfl | decide +kernel) (by first | rfl | decide +kernel)
set_option maxRecDepth 20000 in
theorem tw_330 : (Cond.code yX3_cycle cX3_cycle (2 : Nat) (Option.some FieldType.boolean)) ∈ tg := tg_at 364 (by first | rfl | decide +kernel) (by first | rfl | decide +kernel)
set_option maxRecDepth 20000 in
theorem tw_331 : (Cond.methodLink RL (64 : Nat) yX3_inverse) ∈ tg := tg_at 365 (by first | rfl | decide +kernel) (by first | rfl | decide +kernel)
set_option maxRecDepth 20000 in
theorem tw_332 : (Cond.instanceMethod yX3_inverse) ∈ tg := tg_at 366 (by first | rfl | decide +kernel) (by first | rfl | decide +kernel)
set_option maxRecDepth 20000 in
theorem tw_333 : (Cond.selects RX3 yX3_inverse yX3_inverse) ∈ tg := tg_at 367 (by first | rfl | decide +kernel) (by first | rfl | decide +kernel)
set_option maxRecDepth 20000 in
theorem tw_334 : (Cond.code yX3_inverse cX3_inverse (2 : Nat) (Option.some FieldType.int)) ∈ tg := tg_at 368 (by first | rfl | decide +kernel) (by first | rfl | decide +kernel)
set_option maxRecDepth 20000 in
theorem tw_335 : (Cond.methodLink RL (68 : Nat) yX3_negated) ∈ tg := tg_at 369 (by first | rfl | decide +kernel) (by first | rfl | decide +kernel)
set_option maxRecDepth 20000 in
theorem tw_336 : (Cond.instanceMethod yX3_negated) ∈ tg := tg_at 370 (by first | rfl | decide +kernel) (by first | rfl | decide +kernel)
set_option maxRecDepth 20000 in
theorem tw_337 : (Cond.selects RX3 yX3_negated yX3_negated) ∈ tg := tg_at 371 (by first | rfl | decide +kernel) (by first | rfl | decide +kernel)
set_option maxRecDepth 20000 in
theorem tw_338 : (Cond.code yX3_negated cX3_negated (4 : Nat) (Option.some FieldType.int)) ∈ tg := tg_at 372 (by first | rfl | decide +kernel) (by first | rfl | decide +kernel)
set_option maxRecDepth 20000 in
theorem tw_339 : (Cond.constant RX3 (118 : Nat) (65535 : Int32)) ∈ tg := tg_at 373 (by first | rfl | decide +kernel) (by first | rfl | decide +kernel)
set_option maxRecDepth 20000 in
theorem tw_340 : (Cond.methodLink RL (54 : Nat) yL_depth) ∈ tg := tg_at 374 (by first | rfl | decide +kernel) (by first | rfl | decide +kernel)
set_option maxRecDepth 20000 in
theorem tw_341 : (Cond.static yL_depth) ∈ tg := tg_at 375 (by first | rfl | decide +kernel) (by first | rfl | decide +kernel)
set_option maxRecDepth 20000 in
theorem tw_342 : (Cond.codeWith yL_depth cL_depth (4 : Nat) (Option.some FieldType.int) [((0 : Nat), (9 : Nat), (12 : Nat), (13 : Nat))]) ∈ tg := tg_at 376 (by first | rfl | decide +kernel) (by first | rfl | decide +kernel)
set_option maxRecDepth 20000 in
theorem tw_343 : (Cond.classLink RL (13 : Nat) RJx00060) ∈ tg := tg_at 377 (by first | rfl | decide +kernel) (by first | rfl | decide +kernel)
set_option maxRecDepth 20000 in
theorem tw_344 : (Cond.methodLink RL (7 : Nat) yX3_depth) ∈ tg := tg_at 378 (by first | rfl | decide +kernel) (by first | rfl | decide +kernel)
set_option maxRecDepth 20000 in
theorem tw_345 : (Cond.instanceMethod yX3_depth) ∈ tg := tg_at 379 (by first | rfl | decide +kernel) (by first | rfl | decide +kernel)
set_option maxRecDepth 20000 in
theorem tw_346 : (Cond.selects RX3 yX3_depth yX3_depth) ∈ tg := tg_at 380 (by first | rfl | decide +kernel) (by first | rfl | decide +kernel)
set_option maxRecDepth 20000 in
theorem tw_347 : (Cond.code yX3_depth cX3_depth (2 : Nat) (Option.some FieldType.int)) ∈ tg := tg_at 381 (by first | rfl | decide +kernel) (by first | rfl | decide +kernel)
set_option maxRecDepth 20000 in
theorem tw_348 : (Cond.classLink RX3 (108 : Nat) RJx00060) ∈ tg := tg_at 382 (by first | rfl | decide +kernel) (by first | rfl | decide +kernel)
set_option maxRecDepth 20000 in
theorem tw_349 : (Cond.instantiable RJx00060 (6 : Nat)) ∈ tg := tg_at 383 (by first | rfl | decide +kernel) (by first | rfl | decide +kernel)
set_option maxRecDepth 20000 in
theorem tn_350 : (Cond.castable "java/lang/ArrayIndexOutOfBoundsException" "java/lang/ArrayIndexOutOfBoundsException") ∈ lw_tbl := List.mem_of_getElem? (i := 384) (by first | rfl | decide +kernel)
set_option maxRecDepth 20000 in
theorem tn_351 : (Cond.declares (⟨"java/lang/IndexOutOfBoundsException", "<init>", "()V"⟩ : MethodName)) ∈ lw_tbl := List.mem_of_getElem? (i := 385) (by first | rfl | decide +kernel)
set_option maxRecDepth 20000 in
theorem tn_352 : (Cond.declares (⟨"java/lang/IndexOutOfBoundsException", "<init>", "(Ljava/lang/String;)V"⟩ : MethodName)) ∈ lw_tbl := List.mem_of_getElem? (i := 386) (by first | rfl | decide +kernel)
set_option maxRecDepth 20000 in
theorem tn_353 : (Cond.declares (⟨"java/lang/RuntimeException", "<init>", "()V"⟩ : MethodName)) ∈ lw_tbl := List.mem_of_getElem? (i := 387) (by first | rfl | decide +kernel)
set_option maxRecDepth 20000 in
theorem tn_354 : (Cond.declares (⟨"java/lang/RuntimeException", "<init>", "(Ljava/lang/String;)V"⟩ : MethodName)) ∈ lw_tbl := List.mem_of_getElem? (i := 388) (by first | rfl | decide +kernel)
set_option maxRecDepth 20000 in
theorem tn_355 : (Cond.declares (⟨"java/lang/Exception", "<init>", "()V"⟩ : MethodName)) ∈ lw_tbl := List.mem_of_getElem? (i := 389) (by first | rfl | decide +kernel)
set_option maxRecDepth 20000 in
theorem tn_356 : (Cond.declares (⟨"java/lang/Exception", "<init>", "(Ljava/lang/String;)V"⟩ : MethodName)) ∈ lw_tbl := List.mem_of_getElem? (i := 390) (by first | rfl | decide +kernel)
set_option maxRecDepth 20000 in
theorem tn_357 : (Cond.declares (⟨"java/lang/Throwable", "<init>", "()V"⟩ : MethodName)) ∈ lw_tbl := List.mem_of_getElem? (i := 391) (by first | rfl | decide +kernel)
set_option maxRecDepth 20000 in
theorem tn_358 : (Cond.declares (⟨"java/lang/Throwable", "<init>", "(Ljava/lang/String;)V"⟩ : MethodName)) ∈ lw_tbl := List.mem_of_getElem? (i := 392) (by first | rfl | decide +kernel)
set_option maxRecDepth 20000 in
theorem tw_359 : (Cond.selects RJx00060 (⟨"java/lang/Throwable", "fillInStackTrace", "(I)Ljava/lang/Throwable;"⟩ : MethodName) (⟨"java/lang/Throwable", "fillInStackTrace", "(I)Ljava/lang/Throwable;"⟩ : MethodName)) ∈ tg := tg_at 393 (by first | rfl | decide +kernel) (by first | rfl | decide +kernel)
set_option maxRecDepth 20000 in
theorem tw_360 : (Cond.selects RJx00060 (⟨"java/lang/Throwable", "fillInStackTrace", "()Ljava/lang/Throwable;"⟩ : MethodName) (⟨"java/lang/Throwable", "fillInStackTrace", "()Ljava/lang/Throwable;"⟩ : MethodName)) ∈ tg := tg_at 394 (by first | rfl | decide +kernel) (by first | rfl | decide +kernel)
set_option maxRecDepth 20000 in
theorem tw_361 : (Cond.lays RJx00060 "java/lang/Throwable" "cause" "Ljava/lang/Throwable;") ∈ tg := tg_at 395 (by first | rfl | decide +kernel) (by first | rfl | decide +kernel)
set_option maxRecDepth 20000 in
theorem tw_362 : (Cond.lays "java/lang/Throwable" "java/lang/Throwable" "cause" "Ljava/lang/Throwable;") ∈ tg := tg_at 396 (by first | rfl | decide +kernel) (by first | rfl | decide +kernel)
set_option maxRecDepth 20000 in
theorem tw_363 : (Cond.lays RJx00060 "java/lang/Throwable" "stackTrace" "[Ljava/lang/StackTraceElement;") ∈ tg := tg_at 397 (by first | rfl | decide +kernel) (by first | rfl | decide +kernel)
set_option maxRecDepth 20000 in
theorem tw_364 : (Cond.lays "java/lang/Throwable" "java/lang/Throwable" "stackTrace" "[Ljava/lang/StackTraceElement;") ∈ tg := tg_at 398 (by first | rfl | decide +kernel) (by first | rfl | decide +kernel)
set_option maxRecDepth 20000 in
theorem tw_365 : (Cond.lays RJx00060 "java/lang/Throwable" "suppressedExceptions" "Ljava/util/List;") ∈ tg := tg_at 399 (by first | rfl | decide +kernel) (by first | rfl | decide +kernel)
set_option maxRecDepth 20000 in
theorem tw_366 : (Cond.lays "java/lang/Throwable" "java/lang/Throwable" "suppressedExceptions" "Ljava/util/List;") ∈ tg := tg_at 400 (by first | rfl | decide +kernel) (by first | rfl | decide +kernel)
set_option maxRecDepth 20000 in
theorem tw_367 : (Cond.lays RJx00060 "java/lang/Throwable" "detailMessage" "Ljava/lang/String;") ∈ tg := tg_at 401 (by first | rfl | decide +kernel) (by first | rfl | decide +kernel)
set_option maxRecDepth 20000 in
theorem tw_368 : (Cond.lays "java/lang/Throwable" "java/lang/Throwable" "detailMessage" "Ljava/lang/String;") ∈ tg := tg_at 402 (by first | rfl | decide +kernel) (by first | rfl | decide +kernel)
set_option maxRecDepth 20000 in
theorem tw_369 : (Cond.lays RJx00060 "java/lang/Throwable" "backtrace" "Ljava/lang/Object;") ∈ tg := tg_at 403 (by first | rfl | decide +kernel) (by first | rfl | decide +kernel)
set_option maxRecDepth 20000 in
theorem tw_370 : (Cond.lays "java/lang/Throwable" "java/lang/Throwable" "backtrace" "Ljava/lang/Object;") ∈ tg := tg_at 404 (by first | rfl | decide +kernel) (by first | rfl | decide +kernel)
set_option maxRecDepth 20000 in
theorem tw_371 : (Cond.fieldLink "java/lang/Throwable" (198 : Nat) "java/lang/Throwable" "backtrace" "Ljava/lang/Object;") ∈ tg := tg_at 405 (by first | rfl | decide +kernel) (by first | rfl | decide +kernel)
set_option maxRecDepth 20000 in
theorem tw_372 : (Cond.superclass "java/lang/Throwable" "java/lang/Object") ∈ tg := tg_at 406 (by first | rfl | decide +kernel) (by first | rfl | decide +kernel)
set_option maxRecDepth 20000 in
theorem tw_373 : (Cond.instanceMethod (⟨"java/lang/Throwable", "<init>", "()V"⟩ : MethodName)) ∈ tg := tg_at 407 (by first | rfl | decide +kernel) (by first | rfl | decide +kernel)
set_option maxRecDepth 20000 in
theorem tw_374 : (Cond.code (⟨"java/lang/Throwable", "<init>", "()V"⟩ : MethodName) prog_14_method_1_code (1 : Nat) (Option.none : Option FieldType)) ∈ tg := tg_at 408 (by first | rfl | decide +kernel) (by first | rfl | decide +kernel)
set_option maxRecDepth 20000 in
theorem tw_375 : (Cond.methodLink "java/lang/Throwable" (1 : Nat) objectInit) ∈ tg := tg_at 409 (by first | rfl | decide +kernel) (by first | rfl | decide +kernel)
set_option maxRecDepth 20000 in
theorem tw_376 : (Cond.fieldLink "java/lang/Throwable" (13 : Nat) "java/lang/Throwable" "UNASSIGNED_STACK" "[Ljava/lang/StackTraceElement;") ∈ tg := tg_at 410 (by first | rfl | decide +kernel) (by first | rfl | decide +kernel)
set_option maxRecDepth 20000 in
theorem tn_377 : (Cond.laysStatic "java/lang/Throwable" "UNASSIGNED_STACK" "[Ljava/lang/StackTraceElement;") ∈ lw_tbl := List.mem_of_getElem? (i := 411) (by first | rfl | decide +kernel)
set_option maxRecDepth 20000 in
theorem tw_378 : (Cond.fieldLink "java/lang/Throwable" (20 : Nat) "java/lang/Throwable" "SUPPRESSED_SENTINEL" "Ljava/util/List;") ∈ tg := tg_at 412 (by first | rfl | decide +kernel) (by first | rfl | decide +kernel)
set_option maxRecDepth 20000 in
theorem tn_379 : (Cond.laysStatic "java/lang/Throwable" "SUPPRESSED_SENTINEL" "Ljava/util/List;") ∈ lw_tbl := List.mem_of_getElem? (i := 413) (by first | rfl | decide +kernel)
set_option maxRecDepth 20000 in
theorem tw_380 : (Cond.methodLink "java/lang/Throwable" (27 : Nat) (⟨"java/lang/Throwable", "fillInStackTrace", "()Ljava/lang/Throwable;"⟩ : MethodName)) ∈ tg := tg_at 414 (by first | rfl | decide +kernel) (by first | rfl | decide +kernel)
set_option maxRecDepth 20000 in
theorem tw_381 : (Cond.instanceMethod (⟨"java/lang/Throwable", "fillInStackTrace", "()Ljava/lang/Throwable;"⟩ : MethodName)) ∈ tg := tg_at 415 (by first | rfl | decide +kernel) (by first | rfl | decide +kernel)
set_option maxRecDepth 20000 in
theorem tw_382 : (Cond.sameMethod "java/lang/Throwable" "java/lang/Throwable" "fillInStackTrace" "()Ljava/lang/Throwable;") ∈ tg := tg_at 416 (by first | rfl | decide +kernel) (by first | rfl | decide +kernel)
set_option maxRecDepth 20000 in
theorem tw_383 : (Cond.codeSync (⟨"java/lang/Throwable", "fillInStackTrace", "()Ljava/lang/Throwable;"⟩ : MethodName) prog_14_method_18_code (1 : Nat) (Option.some (FieldType.object "java/lang/Throwable"))) ∈ tg := tg_at 417 (by first | rfl | decide +kernel) (by first | rfl | decide +kernel)
set_option maxRecDepth 20000 in
theorem tw_384 : (Cond.methodLink "java/lang/Throwable" (202 : Nat) (⟨"java/lang/Throwable", "fillInStackTrace", "(I)Ljava/lang/Throwable;"⟩ : MethodName)) ∈ tg := tg_at 418 (by first | rfl | decide +kernel) (by first | rfl | decide +kernel)
set_option maxRecDepth 20000 in
theorem tw_386 : (Cond.instanceMethod (⟨"java/lang/Throwable", "fillInStackTrace", "(I)Ljava/lang/Throwable;"⟩ : MethodName)) ∈ tg := tg_at 420 (by first | rfl | decide +kernel) (by first | rfl | decide +kernel)
set_option maxRecDepth 20000 in
theorem tw_387 : (Cond.instantiable "java/lang/Throwable" (6 : Nat)) ∈ tg := tg_at 421 (by first | rfl | decide +kernel) (by first | rfl | decide +kernel)
set_option maxRecDepth 20000 in
theorem tw_388 : (Cond.native (⟨"java/lang/Throwable", "fillInStackTrace", "(I)Ljava/lang/Throwable;"⟩ : MethodName)) ∈ tg := tg_at 422 (by first | rfl | decide +kernel) (by first | rfl | decide +kernel)
set_option maxRecDepth 20000 in
theorem tn_389 : (Cond.stringRef "PathSteps" (110 : Nat) "no such row") ∈ lw_tbl := List.mem_of_getElem? (i := 423) (by first | rfl | decide +kernel)
set_option maxRecDepth 20000 in
theorem tw_390 : (Cond.methodLink RX3 (112 : Nat) yJx00060_init_a7421) ∈ tg := tg_at 424 (by first | rfl | decide +kernel) (by first | rfl | decide +kernel)
set_option maxRecDepth 20000 in
theorem tw_391 : (Cond.instanceMethod yJx00060_init_a7421) ∈ tg := tg_at 425 (by first | rfl | decide +kernel) (by first | rfl | decide +kernel)
set_option maxRecDepth 20000 in
theorem tw_392 : (Cond.code yJx00060_init_a7421 cJx00060_init_a7421 (2 : Nat) (Option.none : Option FieldType)) ∈ tg := tg_at 426 (by first | rfl | decide +kernel) (by first | rfl | decide +kernel)
set_option maxRecDepth 20000 in
theorem tw_393 : (Cond.methodLink RJx00060 (7 : Nat) (⟨"java/lang/IndexOutOfBoundsException", "<init>", "(Ljava/lang/String;)V"⟩ : MethodName)) ∈ tg := tg_at 427 (by first | rfl | decide +kernel) (by first | rfl | decide +kernel)
set_option maxRecDepth 20000 in
theorem tw_394 : (Cond.instanceMethod (⟨"java/lang/IndexOutOfBoundsException", "<init>", "(Ljava/lang/String;)V"⟩ : MethodName)) ∈ tg := tg_at 428 (by first | rfl | decide +kernel) (by first | rfl | decide +kernel)
set_option maxRecDepth 20000 in
theorem tw_395 : (Cond.code (⟨"java/lang/IndexOutOfBoundsException", "<init>", "(Ljava/lang/String;)V"⟩ : MethodName) prog_9_method_2_code (2 : Nat) (Option.none : Option FieldType)) ∈ tg := tg_at 429 (by first | rfl | decide +kernel) (by first | rfl | decide +kernel)
set_option maxRecDepth 20000 in
theorem tw_396 : (Cond.methodLink "java/lang/IndexOutOfBoundsException" (7 : Nat) (⟨"java/lang/RuntimeException", "<init>", "(Ljava/lang/String;)V"⟩ : MethodName)) ∈ tg := tg_at 430 (by first | rfl | decide +kernel) (by first | rfl | decide +kernel)
set_option maxRecDepth 20000 in
theorem tw_397 : (Cond.instanceMethod (⟨"java/lang/RuntimeException", "<init>", "(Ljava/lang/String;)V"⟩ : MethodName)) ∈ tg := tg_at 431 (by first | rfl | decide +kernel) (by first | rfl | decide +kernel)
set_option maxRecDepth 20000 in
theorem tw_398 : (Cond.code (⟨"java/lang/RuntimeException", "<init>", "(Ljava/lang/String;)V"⟩ : MethodName) prog_12_method_2_code (2 : Nat) (Option.none : Option FieldType)) ∈ tg := tg_at 432 (by first | rfl | decide +kernel) (by first | rfl | decide +kernel)
set_option maxRecDepth 20000 in
theorem tw_399 : (Cond.methodLink "java/lang/RuntimeException" (7 : Nat) (⟨"java/lang/Exception", "<init>", "(Ljava/lang/String;)V"⟩ : MethodName)) ∈ tg := tg_at 433 (by first | rfl | decide +kernel) (by first | rfl | decide +kernel)
set_option maxRecDepth 20000 in
theorem tw_400 : (Cond.instanceMethod (⟨"java/lang/Exception", "<init>", "(Ljava/lang/String;)V"⟩ : MethodName)) ∈ tg := tg_at 434 (by first | rfl | decide +kernel) (by first | rfl | decide +kernel)
set_option maxRecDepth 20000 in
theorem tw_401 : (Cond.code (⟨"java/lang/Exception", "<init>", "(Ljava/lang/String;)V"⟩ : MethodName) prog_8_method_2_code (2 : Nat) (Option.none : Option FieldType)) ∈ tg := tg_at 435 (by first | rfl | decide +kernel) (by first | rfl | decide +kernel)
set_option maxRecDepth 20000 in
theorem tw_402 : (Cond.methodLink "java/lang/Exception" (7 : Nat) (⟨"java/lang/Throwable", "<init>", "(Ljava/lang/String;)V"⟩ : MethodName)) ∈ tg := tg_at 436 (by first | rfl | decide +kernel) (by first | rfl | decide +kernel)
set_option maxRecDepth 20000 in
theorem tw_403 : (Cond.instanceMethod (⟨"java/lang/Throwable", "<init>", "(Ljava/lang/String;)V"⟩ : MethodName)) ∈ tg := tg_at 437 (by first | rfl | decide +kernel) (by first | rfl | decide +kernel)
set_option maxRecDepth 20000 in
theorem tw_404 : (Cond.code (⟨"java/lang/Throwable", "<init>", "(Ljava/lang/String;)V"⟩ : MethodName) prog_14_method_2_code (2 : Nat) (Option.none : Option FieldType)) ∈ tg := tg_at 438 (by first | rfl | decide +kernel) (by first | rfl | decide +kernel)
set_option maxRecDepth 20000 in
theorem tw_405 : (Cond.fieldLink "java/lang/Throwable" (198 : Nat) "java/lang/Throwable" "backtrace" "Ljava/lang/Object;") ∈ tg := tg_at 439 (by first | rfl | decide +kernel) (by first | rfl | decide +kernel)
set_option maxRecDepth 20000 in
theorem tw_406 : (Cond.fieldLink "java/lang/Throwable" (31 : Nat) "java/lang/Throwable" "detailMessage" "Ljava/lang/String;") ∈ tg := tg_at 440 (by first | rfl | decide +kernel) (by first | rfl | decide +kernel)
set_option maxRecDepth 20000 in
theorem tw_407 : (Cond.fieldLink "java/lang/Throwable" (7 : Nat) "java/lang/Throwable" "cause" "Ljava/lang/Throwable;") ∈ tg := tg_at 441 (by first | rfl | decide +kernel) (by first | rfl | decide +kernel)
set_option maxRecDepth 20000 in
theorem tw_408 : (Cond.fieldLink "java/lang/Throwable" (17 : Nat) "java/lang/Throwable" "stackTrace" "[Ljava/lang/StackTraceElement;") ∈ tg := tg_at 442 (by first | rfl | decide +kernel) (by first | rfl | decide +kernel)
set_option maxRecDepth 20000 in
theorem tw_409 : (Cond.fieldLink "java/lang/Throwable" (24 : Nat) "java/lang/Throwable" "suppressedExceptions" "Ljava/util/List;") ∈ tg := tg_at 443 (by first | rfl | decide +kernel) (by first | rfl | decide +kernel)
set_option maxRecDepth 20000 in
theorem tw_414 : (Cond.lays RJx00060 "java/lang/Throwable" "depth" "I") ∈ tg := tg_at 448 (by first | rfl | decide +kernel) (by first | rfl | decide +kernel)
set_option maxRecDepth 20000 in
theorem tw_417 : (Cond.superclass "java/lang/ArrayIndexOutOfBoundsException" "java/lang/IndexOutOfBoundsException") ∈ tg := tg_at 451 (by first | rfl | decide +kernel) (by first | rfl | decide +kernel)
set_option maxRecDepth 20000 in
theorem tw_418 : (Cond.arrayClass FieldType.byte) ∈ tg := tg_at 452 (by first | rfl | decide +kernel) (by first | rfl | decide +kernel)
set_option maxRecDepth 20000 in
theorem tw_419 : (Cond.classLink RL (16 : Nat) RX4) ∈ tg := tg_at 453 (by first | rfl | decide +kernel) (by first | rfl | decide +kernel)
set_option maxRecDepth 20000 in
theorem tw_420 : (Cond.instantiable RX4 (21 : Nat)) ∈ tg := tg_at 454 (by first | rfl | decide +kernel) (by first | rfl | decide +kernel)
set_option maxRecDepth 20000 in
theorem tw_421 : (Cond.methodLink RL (18 : Nat) yX4_init) ∈ tg := tg_at 455 (by first | rfl | decide +kernel) (by first | rfl | decide +kernel)
set_option maxRecDepth 20000 in
theorem tw_422 : (Cond.instanceMethod yX4_init) ∈ tg := tg_at 456 (by first | rfl | decide +kernel) (by first | rfl | decide +kernel)
set_option maxRecDepth 20000 in
theorem tw_423 : (Cond.code yX4_init cX4_init (1 : Nat) (Option.none : Option FieldType)) ∈ tg := tg_at 457 (by first | rfl | decide +kernel) (by first | rfl | decide +kernel)
set_option maxRecDepth 20000 in
theorem tw_424 : (Cond.methodLink RX4 (1 : Nat) objectInit) ∈ tg := tg_at 458 (by first | rfl | decide +kernel) (by first | rfl | decide +kernel)
set_option maxRecDepth 20000 in
theorem tw_425 : (Cond.constant RX4 (32 : Nat) (41984 : Int32)) ∈ tg := tg_at 459 (by first | rfl | decide +kernel) (by first | rfl | decide +kernel)
set_option maxRecDepth 20000 in
theorem tw_426 : (Cond.fieldLink RX4 (58 : Nat) "PathStepsModel" "refusal" "I") ∈ tg := tg_at 460 (by first | rfl | decide +kernel) (by first | rfl | decide +kernel)
set_option maxRecDepth 20000 in
theorem tw_427 : (Cond.fieldLink RX4 (7 : Nat) "PathStepsModel" "subjects" "[I") ∈ tg := tg_at 461 (by first | rfl | decide +kernel) (by first | rfl | decide +kernel)
set_option maxRecDepth 20000 in
theorem tw_428 : (Cond.fieldLink RX4 (13 : Nat) "PathStepsModel" "predicates" "[I") ∈ tg := tg_at 462 (by first | rfl | decide +kernel) (by first | rfl | decide +kernel)
set_option maxRecDepth 20000 in
theorem tw_429 : (Cond.fieldLink RX4 (16 : Nat) "PathStepsModel" "objects" "[I") ∈ tg := tg_at 463 (by first | rfl | decide +kernel) (by first | rfl | decide +kernel)
set_option maxRecDepth 20000 in
theorem tw_430 : (Cond.fieldLink RX4 (72 : Nat) "PathStepsModel" "triples" "I") ∈ tg := tg_at 464 (by first | rfl | decide +kernel) (by first | rfl | decide +kernel)
set_option maxRecDepth 20000 in
theorem tw_431 : (Cond.fieldLink RX4 (19 : Nat) "PathStepsModel" "kinds" "[I") ∈ tg := tg_at 465 (by first | rfl | decide +kernel) (by first | rfl | decide +kernel)
set_option maxRecDepth 20000 in
theorem tw_432 : (Cond.fieldLink RX4 (22 : Nat) "PathStepsModel" "first" "[I") ∈ tg := tg_at 466 (by first | rfl | decide +kernel) (by first | rfl | decide +kernel)
set_option maxRecDepth 20000 in
theorem tw_433 : (Cond.fieldLink RX4 (25 : Nat) "PathStepsModel" "second" "[I") ∈ tg := tg_at 467 (by first | rfl | decide +kernel) (by first | rfl | decide +kernel)
set_option maxRecDepth 20000 in
theorem tw_434 : (Cond.fieldLink RX4 (65 : Nat) "PathStepsModel" "paths" "I") ∈ tg := tg_at 468 (by first | rfl | decide +kernel) (by first | rfl | decide +kernel)
set_option maxRecDepth 20000 in
theorem tw_435 : (Cond.fieldLink RX4 (28 : Nat) "PathStepsModel" "most" "I") ∈ tg := tg_at 469 (by first | rfl | decide +kernel) (by first | rfl | decide +kernel)
set_option maxRecDepth 20000 in
theorem tw_436 : (Cond.fieldLink RX4 (33 : Nat) "PathStepsModel" "table" "[I") ∈ tg := tg_at 470 (by first | rfl | decide +kernel) (by first | rfl | decide +kernel)
set_option maxRecDepth 20000 in
theorem tw_437 : (Cond.fieldLink RX4 (36 : Nat) "PathStepsModel" "isNeeded" "[Z") ∈ tg := tg_at 471 (by first | rfl | decide +kernel) (by first | rfl | decide +kernel)
set_option maxRecDepth 20000 in
theorem tw_438 : (Cond.fieldLink RX4 (40 : Nat) "PathStepsModel" "isIn" "[Z") ∈ tg := tg_at 472 (by first | rfl | decide +kernel) (by first | rfl | decide +kernel)
set_option maxRecDepth 20000 in
theorem tw_439 : (Cond.fieldLink RX4 (95 : Nat) "PathStepsModel" "goesBeyond" "Z") ∈ tg := tg_at 473 (by first | rfl | decide +kernel) (by first | rfl | decide +kernel)
set_option maxRecDepth 20000 in
theorem tw_440 : (Cond.fieldLink RX4 (43 : Nat) "PathStepsModel" "steps" "[I") ∈ tg := tg_at 474 (by first | rfl | decide +kernel) (by first | rfl | decide +kernel)
set_option maxRecDepth 20000 in
theorem tw_441 : (Cond.fieldLink RX4 (46 : Nat) "PathStepsModel" "queue" "[I") ∈ tg := tg_at 475 (by first | rfl | decide +kernel) (by first | rfl | decide +kernel)
set_option maxRecDepth 20000 in
theorem tw_442 : (Cond.fieldLink RX4 (129 : Nat) "PathStepsModel" "wasRun" "Z") ∈ tg := tg_at 476 (by first | rfl | decide +kernel) (by first | rfl | decide +kernel)
set_option maxRecDepth 20000 in
theorem tw_443 : (Cond.fieldLink RX4 (132 : Nat) "PathStepsModel" "rows" "I") ∈ tg := tg_at 477 (by first | rfl | decide +kernel) (by first | rfl | decide +kernel)
set_option maxRecDepth 20000 in
theorem tw_444 : (Cond.fieldLink RX4 (49 : Nat) "PathStepsModel" "rowFrom" "[I") ∈ tg := tg_at 478 (by first | rfl | decide +kernel) (by first | rfl | decide +kernel)
set_option maxRecDepth 20000 in
theorem tw_445 : (Cond.fieldLink RX4 (52 : Nat) "PathStepsModel" "rowTo" "[I") ∈ tg := tg_at 479 (by first | rfl | decide +kernel) (by first | rfl | decide +kernel)
set_option maxRecDepth 20000 in
theorem tw_446 : (Cond.fieldLink RX4 (55 : Nat) "PathStepsModel" "rowDepth" "[I") ∈ tg := tg_at 480 (by first | rfl | decide +kernel) (by first | rfl | decide +kernel)
set_option maxRecDepth 20000 in
theorem tw_447 : (Cond.lays RX4 "PathStepsModel" "refusal" "I") ∈ tg := tg_at 481 (by first | rfl | decide +kernel) (by first | rfl | decide +kernel)
set_option maxRecDepth 20000 in
theorem tw_449 : (Cond.laysFinal RX4 "PathStepsModel" "subjects" "[I") ∈ tg := tg_at 483 (by first | rfl | decide +kernel) (by first | rfl | decide +kernel)
set_option maxRecDepth 20000 in
theorem tw_451 : (Cond.laysFinal RX4 "PathStepsModel" "predicates" "[I") ∈ tg := tg_at 485 (by first | rfl | decide +kernel) (by first | rfl | decide +kernel)
set_option maxRecDepth 20000 in
theorem tw_453 : (Cond.laysFinal RX4 "PathStepsModel" "objects" "[I") ∈ tg := tg_at 487 (by first | rfl | decide +kernel) (by first | rfl | decide +kernel)
set_option maxRecDepth 20000 in
theorem tw_455 : (Cond.lays RX4 "PathStepsModel" "triples" "I") ∈ tg := tg_at 489 (by first | rfl | decide +kernel) (by first | rfl | decide +kernel)
set_option maxRecDepth 20000 in
theorem tw_457 : (Cond.laysFinal RX4 "PathStepsModel" "kinds" "[I") ∈ tg := tg_at 491 (by first | rfl | decide +kernel) (by first | rfl | decide +kernel)
set_option maxRecDepth 20000 in
theorem tw_459 : (Cond.laysFinal RX4 "PathStepsModel" "first" "[I") ∈ tg := tg_at 493 (by first | rfl | decide +kernel) (by first | rfl | decide +kernel)
set_option maxRecDepth 20000 in
theorem tw_461 : (Cond.laysFinal RX4 "PathStepsModel" "second" "[I") ∈ tg := tg_at 495 (by first | rfl | decide +kernel) (by first | rfl | decide +kernel)
set_option maxRecDepth 20000 in
theorem tw_463 : (Cond.lays RX4 "PathStepsModel" "paths" "I") ∈ tg := tg_at 497 (by first | rfl | decide +kernel) (by first | rfl | decide +kernel)
set_option maxRecDepth 20000 in
theorem tw_465 : (Cond.lays RX4 "PathStepsModel" "most" "I") ∈ tg := tg_at 499 (by first | rfl | decide +kernel) (by first | rfl | decide +kernel)
set_option maxRecDepth 20000 in
theorem tw_467 : (Cond.laysFinal RX4 "PathStepsModel" "table" "[I") ∈ tg := tg_at 501 (by first | rfl | decide +kernel) (by first | rfl | decide +kernel)
set_option maxRecDepth 20000 in
theorem tw_469 : (Cond.laysFinal RX4 "PathStepsModel" "isNeeded" "[Z") ∈ tg := tg_at 503 (by first | rfl | decide +kernel) (by first | rfl | decide +kernel)
set_option maxRecDepth 20000 in
theorem tw_471 : (Cond.laysFinal RX4 "PathStepsModel" "isIn" "[Z") ∈ tg := tg_at 505 (by first | rfl | decide +kernel) (by first | rfl | decide +kernel)
set_option maxRecDepth 20000 in
theorem tw_473 : (Cond.lays RX4 "PathStepsModel" "goesBeyond" "Z") ∈ tg := tg_at 507 (by first | rfl | decide +kernel) (by first | rfl | decide +kernel)
set_option maxRecDepth 20000 in
theorem tw_475 : (Cond.laysFinal RX4 "PathStepsModel" "steps" "[I") ∈ tg := tg_at 509 (by first | rfl | decide +kernel) (by first | rfl | decide +kernel)
set_option maxRecDepth 20000 in
theorem tw_477 : (Cond.laysFinal RX4 "PathStepsModel" "queue" "[I") ∈ tg := tg_at 511 (by first | rfl | decide +kernel) (by first | rfl | decide +kernel)
set_option maxRecDepth 20000 in
theorem tw_479 : (Cond.lays RX4 "PathStepsModel" "wasRun" "Z") ∈ tg := tg_at 513 (by first | rfl | decide +kernel) (by first | rfl | decide +kernel)
set_option maxRecDepth 20000 in
theorem tw_481 : (Cond.lays RX4 "PathStepsModel" "rows" "I") ∈ tg := tg_at 515 (by first | rfl | decide +kernel) (by first | rfl | decide +kernel)
set_option maxRecDepth 20000 in
theorem tw_483 : (Cond.laysFinal RX4 "PathStepsModel" "rowFrom" "[I") ∈ tg := tg_at 517 (by first | rfl | decide +kernel) (by first | rfl | decide +kernel)
set_option maxRecDepth 20000 in
theorem tw_485 : (Cond.laysFinal RX4 "PathStepsModel" "rowTo" "[I") ∈ tg := tg_at 519 (by first | rfl | decide +kernel) (by first | rfl | decide +kernel)
set_option maxRecDepth 20000 in
theorem tw_487 : (Cond.laysFinal RX4 "PathStepsModel" "rowDepth" "[I") ∈ tg := tg_at 521 (by first | rfl | decide +kernel) (by first | rfl | decide +kernel)
set_option maxRecDepth 20000 in
theorem tw_489 : (Cond.superclass "PathStepsModel" "java/lang/Object") ∈ tg := tg_at 523 (by first | rfl | decide +kernel) (by first | rfl | decide +kernel)
set_option maxRecDepth 20000 in
theorem tw_490 : (Cond.arrayClass FieldType.boolean) ∈ tg := tg_at 524 (by first | rfl | decide +kernel) (by first | rfl | decide +kernel)
set_option maxRecDepth 20000 in
theorem tw_491 : (Cond.methodLink RL (60 : Nat) yX4_thrown) ∈ tg := tg_at 525 (by first | rfl | decide +kernel) (by first | rfl | decide +kernel)
set_option maxRecDepth 20000 in
theorem tw_492 : (Cond.instanceMethod yX4_thrown) ∈ tg := tg_at 526 (by first | rfl | decide +kernel) (by first | rfl | decide +kernel)
set_option maxRecDepth 20000 in
theorem tw_493 : (Cond.selects RX4 yX4_thrown yX4_thrown) ∈ tg := tg_at 527 (by first | rfl | decide +kernel) (by first | rfl | decide +kernel)
set_option maxRecDepth 20000 in
theorem tw_494 : (Cond.code yX4_thrown cX4_thrown (1 : Nat) (Option.some FieldType.int)) ∈ tg := tg_at 528 (by first | rfl | decide +kernel) (by first | rfl | decide +kernel)
set_option maxRecDepth 20000 in
theorem tw_495 : (Cond.methodLink RL (23 : Nat) yX4_triple) ∈ tg := tg_at 529 (by first | rfl | decide +kernel) (by first | rfl | decide +kernel)
set_option maxRecDepth 20000 in
theorem tw_496 : (Cond.instanceMethod yX4_triple) ∈ tg := tg_at 530 (by first | rfl | decide +kernel) (by first | rfl | decide +kernel)
set_option maxRecDepth 20000 in
theorem tw_497 : (Cond.selects RX4 yX4_triple yX4_triple) ∈ tg := tg_at 531 (by first | rfl | decide +kernel) (by first | rfl | decide +kernel)
set_option maxRecDepth 20000 in
theorem tw_498 : (Cond.code yX4_triple cX4_triple (5 : Nat) (Option.some FieldType.int)) ∈ tg := tg_at 532 (by first | rfl | decide +kernel) (by first | rfl | decide +kernel)
set_option maxRecDepth 20000 in
theorem tw_499 : (Cond.methodLink RX4 (68 : Nat) yX4_isNode) ∈ tg := tg_at 533 (by first | rfl | decide +kernel) (by first | rfl | decide +kernel)
set_option maxRecDepth 20000 in
theorem tw_500 : (Cond.static yX4_isNode) ∈ tg := tg_at 534 (by first | rfl | decide +kernel) (by first | rfl | decide +kernel)
set_option maxRecDepth 20000 in
theorem tw_501 : (Cond.code yX4_isNode cX4_isNode (1 : Nat) (Option.some FieldType.boolean)) ∈ tg := tg_at 535 (by first | rfl | decide +kernel) (by first | rfl | decide +kernel)
set_option maxRecDepth 20000 in
theorem tw_502 : (Cond.methodLink RX4 (61 : Nat) yX4_isBetween) ∈ tg := tg_at 536 (by first | rfl | decide +kernel) (by first | rfl | decide +kernel)
set_option maxRecDepth 20000 in
theorem tw_503 : (Cond.static yX4_isBetween) ∈ tg := tg_at 537 (by first | rfl | decide +kernel) (by first | rfl | decide +kernel)
set_option maxRecDepth 20000 in
theorem tw_504 : (Cond.code yX4_isBetween cX4_isBetween (3 : Nat) (Option.some FieldType.boolean)) ∈ tg := tg_at 538 (by first | rfl | decide +kernel) (by first | rfl | decide +kernel)
set_option maxRecDepth 20000 in
theorem tw_505 : (Cond.methodLink RL (27 : Nat) yX4_path) ∈ tg := tg_at 539 (by first | rfl | decide +kernel) (by first | rfl | decide +kernel)
set_option maxRecDepth 20000 in
theorem tw_506 : (Cond.instanceMethod yX4_path) ∈ tg := tg_at 540 (by first | rfl | decide +kernel) (by first | rfl | decide +kernel)
set_option maxRecDepth 20000 in
theorem tw_507 : (Cond.selects RX4 yX4_path yX4_path) ∈ tg := tg_at 541 (by first | rfl | decide +kernel) (by first | rfl | decide +kernel)
set_option maxRecDepth 20000 in
theorem tw_508 : (Cond.code yX4_path cX4_path (4 : Nat) (Option.some FieldType.int)) ∈ tg := tg_at 542 (by first | rfl | decide +kernel) (by first | rfl | decide +kernel)
set_option maxRecDepth 20000 in
theorem tw_509 : (Cond.methodLink RX4 (75 : Nat) yX4_isPath) ∈ tg := tg_at 543 (by first | rfl | decide +kernel) (by first | rfl | decide +kernel)
set_option maxRecDepth 20000 in
theorem tw_511 : (Cond.instanceMethod yX4_isPath) ∈ tg := tg_at 545 (by first | rfl | decide +kernel) (by first | rfl | decide +kernel)
set_option maxRecDepth 20000 in
theorem tw_512 : (Cond.code yX4_isPath cX4_isPath (2 : Nat) (Option.some FieldType.boolean)) ∈ tg := tg_at 546 (by first | rfl | decide +kernel) (by first | rfl | decide +kernel)
set_option maxRecDepth 20000 in
theorem tw_513 : (Cond.methodLink RX4 (78 : Nat) yX4_made) ∈ tg := tg_at 547 (by first | rfl | decide +kernel) (by first | rfl | decide +kernel)
set_option maxRecDepth 20000 in
theorem tw_515 : (Cond.instanceMethod yX4_made) ∈ tg := tg_at 549 (by first | rfl | decide +kernel) (by first | rfl | decide +kernel)
set_option maxRecDepth 20000 in
theorem tw_516 : (Cond.code yX4_made cX4_made (4 : Nat) (Option.some FieldType.int)) ∈ tg := tg_at 550 (by first | rfl | decide +kernel) (by first | rfl | decide +kernel)
set_option maxRecDepth 20000 in
theorem tw_517 : (Cond.methodLink RL (67 : Nat) yX4_inverse) ∈ tg := tg_at 551 (by first | rfl | decide +kernel) (by first | rfl | decide +kernel)
set_option maxRecDepth 20000 in
theorem tw_518 : (Cond.instanceMethod yX4_inverse) ∈ tg := tg_at 552 (by first | rfl | decide +kernel) (by first | rfl | decide +kernel)
set_option maxRecDepth 20000 in
theorem tw_519 : (Cond.selects RX4 yX4_inverse yX4_inverse) ∈ tg := tg_at 553 (by first | rfl | decide +kernel) (by first | rfl | decide +kernel)
set_option maxRecDepth 20000 in
theorem tw_520 : (Cond.code yX4_inverse cX4_inverse (2 : Nat) (Option.some FieldType.int)) ∈ tg := tg_at 554 (by first | rfl | decide +kernel) (by first | rfl | decide +kernel)
set_option maxRecDepth 20000 in
theorem tw_521 : (Cond.methodLink RL (71 : Nat) yX4_negated) ∈ tg := tg_at 555 (by first | rfl | decide +kernel) (by first | rfl | decide +kernel)
set_option maxRecDepth 20000 in
theorem tw_522 : (Cond.instanceMethod yX4_negated) ∈ tg := tg_at 556 (by first | rfl | decide +kernel) (by first | rfl | decide +kernel)
set_option maxRecDepth 20000 in
theorem tw_523 : (Cond.selects RX4 yX4_negated yX4_negated) ∈ tg := tg_at 557 (by first | rfl | decide +kernel) (by first | rfl | decide +kernel)
set_option maxRecDepth 20000 in
theorem tw_524 : (Cond.code yX4_negated cX4_negated (3 : Nat) (Option.some FieldType.int)) ∈ tg := tg_at 558 (by first | rfl | decide +kernel) (by first | rfl | decide +kernel)
set_option maxRecDepth 20000 in
theorem tw_525 : (Cond.methodLink RL (31 : Nat) yX4_from) ∈ tg := tg_at 559 (by first | rfl | decide +kernel) (by first | rfl | decide +kernel)
set_option maxRecDepth 20000 in
theorem tw_526 : (Cond.instanceMethod yX4_from) ∈ tg := tg_at 560 (by first | rfl | decide +kernel) (by first | rfl | decide +kernel)
set_option maxRecDepth 20000 in
theorem tw_527 : (Cond.selects RX4 yX4_from yX4_from) ∈ tg := tg_at 561 (by first | rfl | decide +kernel) (by first | rfl | decide +kernel)
set_option maxRecDepth 20000 in
theorem tw_528 : (Cond.code yX4_from cX4_from (4 : Nat) (Option.some FieldType.int)) ∈ tg := tg_at 562 (by first | rfl | decide +kernel) (by first | rfl | decide +kernel)
set_option maxRecDepth 20000 in
theorem tw_529 : (Cond.methodLink RL (48 : Nat) yX4_steps) ∈ tg := tg_at 563 (by first | rfl | decide +kernel) (by first | rfl | decide +kernel)
set_option maxRecDepth 20000 in
theorem tw_530 : (Cond.instanceMethod yX4_steps) ∈ tg := tg_at 564 (by first | rfl | decide +kernel) (by first | rfl | decide +kernel)
set_option maxRecDepth 20000 in
theorem tw_531 : (Cond.selects RX4 yX4_steps yX4_steps) ∈ tg := tg_at 565 (by first | rfl | decide +kernel) (by first | rfl | decide +kernel)
set_option maxRecDepth 20000 in
theorem tw_532 : (Cond.code yX4_steps cX4_steps (2 : Nat) (Option.some FieldType.int)) ∈ tg := tg_at 566 (by first | rfl | decide +kernel) (by first | rfl | decide +kernel)
set_option maxRecDepth 20000 in
theorem tw_533 : (Cond.methodLink RL (35 : Nat) yX4_run) ∈ tg := tg_at 567 (by first | rfl | decide +kernel) (by first | rfl | decide +kernel)
set_option maxRecDepth 20000 in
theorem tw_534 : (Cond.instanceMethod yX4_run) ∈ tg := tg_at 568 (by first | rfl | decide +kernel) (by first | rfl | decide +kernel)
set_option maxRecDepth 20000 in
theorem tw_535 : (Cond.selects RX4 yX4_run yX4_run) ∈ tg := tg_at 569 (by first | rfl | decide +kernel) (by first | rfl | decide +kernel)
set_option maxRecDepth 20000 in
theorem tw_536 : (Cond.code yX4_run cX4_run (11 : Nat) (Option.some FieldType.int)) ∈ tg := tg_at 570 (by first | rfl | decide +kernel) (by first | rfl | decide +kernel)
set_option maxRecDepth 20000 in
theorem tw_537 : (Cond.methodLink RX4 (123 : Nat) yX4_isEnd) ∈ tg := tg_at 571 (by first | rfl | decide +kernel) (by first | rfl | decide +kernel)
set_option maxRecDepth 20000 in
theorem tw_538 : (Cond.static yX4_isEnd) ∈ tg := tg_at 572 (by first | rfl | decide +kernel) (by first | rfl | decide +kernel)
set_option maxRecDepth 20000 in
theorem tw_539 : (Cond.code yX4_isEnd cX4_isEnd (1 : Nat) (Option.some FieldType.boolean)) ∈ tg := tg_at 573 (by first | rfl | decide +kernel) (by first | rfl | decide +kernel)
set_option maxRecDepth 20000 in
theorem tw_540 : (Cond.methodLink RX4 (126 : Nat) yX4_prepare) ∈ tg := tg_at 574 (by first | rfl | decide +kernel) (by first | rfl | decide +kernel)
set_option maxRecDepth 20000 in
theorem tw_542 : (Cond.instanceMethod yX4_prepare) ∈ tg := tg_at 576 (by first | rfl | decide +kernel) (by first | rfl | decide +kernel)
set_option maxRecDepth 20000 in
theorem tw_543 : (Cond.code yX4_prepare cX4_prepare (7 : Nat) (Option.some FieldType.int)) ∈ tg := tg_at 577 (by first | rfl | decide +kernel) (by first | rfl | decide +kernel)
set_option maxRecDepth 20000 in
theorem tw_544 : (Cond.methodLink RX4 (110 : Nat) yX4_findNeeded) ∈ tg := tg_at 578 (by first | rfl | decide +kernel) (by first | rfl | decide +kernel)
set_option maxRecDepth 20000 in
theorem tw_546 : (Cond.instanceMethod yX4_findNeeded) ∈ tg := tg_at 580 (by first | rfl | decide +kernel) (by first | rfl | decide +kernel)
set_option maxRecDepth 20000 in
theorem tw_547 : (Cond.code yX4_findNeeded cX4_findNeeded (3 : Nat) (Option.none : Option FieldType)) ∈ tg := tg_at 581 (by first | rfl | decide +kernel) (by first | rfl | decide +kernel)
set_option maxRecDepth 20000 in
theorem tw_548 : (Cond.methodLink RX4 (113 : Nat) yX4_findGraph) ∈ tg := tg_at 582 (by first | rfl | decide +kernel) (by first | rfl | decide +kernel)
set_option maxRecDepth 20000 in
theorem tw_550 : (Cond.instanceMethod yX4_findGraph) ∈ tg := tg_at 584 (by first | rfl | decide +kernel) (by first | rfl | decide +kernel)
set_option maxRecDepth 20000 in
theorem tw_551 : (Cond.code yX4_findGraph cX4_findGraph (4 : Nat) (Option.none : Option FieldType)) ∈ tg := tg_at 585 (by first | rfl | decide +kernel) (by first | rfl | decide +kernel)
set_option maxRecDepth 20000 in
theorem tw_552 : (Cond.methodLink RX4 (116 : Nat) yX4_makeTable) ∈ tg := tg_at 586 (by first | rfl | decide +kernel) (by first | rfl | decide +kernel)
set_option maxRecDepth 20000 in
theorem tw_554 : (Cond.instanceMethod yX4_makeTable) ∈ tg := tg_at 588 (by first | rfl | decide +kernel) (by first | rfl | decide +kernel)
set_option maxRecDepth 20000 in
theorem tw_555 : (Cond.code yX4_makeTable cX4_makeTable (4 : Nat) (Option.none : Option FieldType)) ∈ tg := tg_at 589 (by first | rfl | decide +kernel) (by first | rfl | decide +kernel)
set_option maxRecDepth 20000 in
theorem tw_556 : (Cond.methodLink RX4 (99 : Nat) yX4_makeLinks) ∈ tg := tg_at 590 (by first | rfl | decide +kernel) (by first | rfl | decide +kernel)
set_option maxRecDepth 20000 in
theorem tw_558 : (Cond.instanceMethod yX4_makeLinks) ∈ tg := tg_at 592 (by first | rfl | decide +kernel) (by first | rfl | decide +kernel)
set_option maxRecDepth 20000 in
theorem tw_559 : (Cond.code yX4_makeLinks cX4_makeLinks (5 : Nat) (Option.none : Option FieldType)) ∈ tg := tg_at 593 (by first | rfl | decide +kernel) (by first | rfl | decide +kernel)
set_option maxRecDepth 20000 in
theorem tw_560 : (Cond.methodLink RX4 (84 : Nat) yX4_cell) ∈ tg := tg_at 594 (by first | rfl | decide +kernel) (by first | rfl | decide +kernel)
set_option maxRecDepth 20000 in
theorem tw_562 : (Cond.instanceMethod yX4_cell) ∈ tg := tg_at 596 (by first | rfl | decide +kernel) (by first | rfl | decide +kernel)
set_option maxRecDepth 20000 in
theorem tw_563 : (Cond.code yX4_cell cX4_cell (4 : Nat) (Option.some FieldType.int)) ∈ tg := tg_at 597 (by first | rfl | decide +kernel) (by first | rfl | decide +kernel)
set_option maxRecDepth 20000 in
theorem tw_564 : (Cond.methodLink RX4 (87 : Nat) yX4_put) ∈ tg := tg_at 598 (by first | rfl | decide +kernel) (by first | rfl | decide +kernel)
set_option maxRecDepth 20000 in
theorem tw_566 : (Cond.instanceMethod yX4_put) ∈ tg := tg_at 600 (by first | rfl | decide +kernel) (by first | rfl | decide +kernel)
set_option maxRecDepth 20000 in
theorem tw_567 : (Cond.code yX4_put cX4_put (6 : Nat) (Option.none : Option FieldType)) ∈ tg := tg_at 601 (by first | rfl | decide +kernel) (by first | rfl | decide +kernel)
set_option maxRecDepth 20000 in
theorem tw_568 : (Cond.constantLong RX4 (82 : Nat) (1000000 : Int64)) ∈ tg := tg_at 602 (by first | rfl | decide +kernel) (by first | rfl | decide +kernel)
set_option maxRecDepth 20000 in
theorem tw_569 : (Cond.methodLink RX4 (103 : Nat) yX4_makeWalks) ∈ tg := tg_at 603 (by first | rfl | decide +kernel) (by first | rfl | decide +kernel)
set_option maxRecDepth 20000 in
theorem tw_571 : (Cond.instanceMethod yX4_makeWalks) ∈ tg := tg_at 605 (by first | rfl | decide +kernel) (by first | rfl | decide +kernel)
set_option maxRecDepth 20000 in
theorem tw_572 : (Cond.code yX4_makeWalks cX4_makeWalks (6 : Nat) (Option.none : Option FieldType)) ∈ tg := tg_at 606 (by first | rfl | decide +kernel) (by first | rfl | decide +kernel)
set_option maxRecDepth 20000 in
theorem tw_573 : (Cond.methodLink RX4 (91 : Nat) yX4_walk) ∈ tg := tg_at 607 (by first | rfl | decide +kernel) (by first | rfl | decide +kernel)
set_option maxRecDepth 20000 in
theorem tw_575 : (Cond.instanceMethod yX4_walk) ∈ tg := tg_at 609 (by first | rfl | decide +kernel) (by first | rfl | decide +kernel)
set_option maxRecDepth 20000 in
theorem tw_576 : (Cond.code yX4_walk cX4_walk (7 : Nat) (Option.none : Option FieldType)) ∈ tg := tg_at 610 (by first | rfl | decide +kernel) (by first | rfl | decide +kernel)
set_option maxRecDepth 20000 in
theorem tw_577 : (Cond.methodLink RX4 (106 : Nat) yX4_joined) ∈ tg := tg_at 611 (by first | rfl | decide +kernel) (by first | rfl | decide +kernel)
set_option maxRecDepth 20000 in
theorem tw_579 : (Cond.instanceMethod yX4_joined) ∈ tg := tg_at 613 (by first | rfl | decide +kernel) (by first | rfl | decide +kernel)
set_option maxRecDepth 20000 in
theorem tw_580 : (Cond.code yX4_joined cX4_joined (9 : Nat) (Option.some FieldType.long)) ∈ tg := tg_at 614 (by first | rfl | decide +kernel) (by first | rfl | decide +kernel)
set_option maxRecDepth 20000 in
theorem tw_581 : (Cond.methodLink RX4 (119 : Nat) yX4_fits) ∈ tg := tg_at 615 (by first | rfl | decide +kernel) (by first | rfl | decide +kernel)
set_option maxRecDepth 20000 in
theorem tw_582 : (Cond.static yX4_fits) ∈ tg := tg_at 616 (by first | rfl | decide +kernel) (by first | rfl | decide +kernel)
set_option maxRecDepth 20000 in
theorem tw_583 : (Cond.code yX4_fits cX4_fits (4 : Nat) (Option.some FieldType.boolean)) ∈ tg := tg_at 617 (by first | rfl | decide +kernel) (by first | rfl | decide +kernel)
set_option maxRecDepth 20000 in
theorem tw_584 : (Cond.methodLink RL (44 : Nat) yX4_plain) ∈ tg := tg_at 618 (by first | rfl | decide +kernel) (by first | rfl | decide +kernel)
set_option maxRecDepth 20000 in
theorem tw_585 : (Cond.instanceMethod yX4_plain) ∈ tg := tg_at 619 (by first | rfl | decide +kernel) (by first | rfl | decide +kernel)
set_option maxRecDepth 20000 in
theorem tw_586 : (Cond.selects RX4 yX4_plain yX4_plain) ∈ tg := tg_at 620 (by first | rfl | decide +kernel) (by first | rfl | decide +kernel)
set_option maxRecDepth 20000 in
theorem tw_587 : (Cond.code yX4_plain cX4_plain (4 : Nat) (Option.some FieldType.int)) ∈ tg := tg_at 621 (by first | rfl | decide +kernel) (by first | rfl | decide +kernel)
set_option maxRecDepth 20000 in
theorem tw_588 : (Cond.methodLink RL (40 : Nat) yX4_at) ∈ tg := tg_at 622 (by first | rfl | decide +kernel) (by first | rfl | decide +kernel)
set_option maxRecDepth 20000 in
theorem tw_589 : (Cond.instanceMethod yX4_at) ∈ tg := tg_at 623 (by first | rfl | decide +kernel) (by first | rfl | decide +kernel)
set_option maxRecDepth 20000 in
theorem tw_590 : (Cond.selects RX4 yX4_at yX4_at) ∈ tg := tg_at 624 (by first | rfl | decide +kernel) (by first | rfl | decide +kernel)
set_option maxRecDepth 20000 in
theorem tw_591 : (Cond.code yX4_at cX4_at (3 : Nat) (Option.some FieldType.int)) ∈ tg := tg_at 625 (by first | rfl | decide +kernel) (by first | rfl | decide +kernel)
set_option maxRecDepth 20000 in
theorem tw_592 : (Cond.methodLink RX4 (135 : Nat) yX4_isRow) ∈ tg := tg_at 626 (by first | rfl | decide +kernel) (by first | rfl | decide +kernel)
set_option maxRecDepth 20000 in
theorem tw_594 : (Cond.instanceMethod yX4_isRow) ∈ tg := tg_at 628 (by first | rfl | decide +kernel) (by first | rfl | decide +kernel)
set_option maxRecDepth 20000 in
theorem tw_595 : (Cond.code yX4_isRow cX4_isRow (2 : Nat) (Option.some FieldType.boolean)) ∈ tg := tg_at 629 (by first | rfl | decide +kernel) (by first | rfl | decide +kernel)
set_option maxRecDepth 20000 in
theorem tw_596 : (Cond.methodLink RL (53 : Nat) yX4_cycle) ∈ tg := tg_at 630 (by first | rfl | decide +kernel) (by first | rfl | decide +kernel)
set_option maxRecDepth 20000 in
theorem tw_597 : (Cond.instanceMethod yX4_cycle) ∈ tg := tg_at 631 (by first | rfl | decide +kernel) (by first | rfl | decide +kernel)
set_option maxRecDepth 20000 in
theorem tw_598 : (Cond.selects RX4 yX4_cycle yX4_cycle) ∈ tg := tg_at 632 (by first | rfl | decide +kernel) (by first | rfl | decide +kernel)
set_option maxRecDepth 20000 in
theorem tw_599 : (Cond.code yX4_cycle cX4_cycle (2 : Nat) (Option.some FieldType.boolean)) ∈ tg := tg_at 633 (by first | rfl | decide +kernel) (by first | rfl | decide +kernel)
set_option maxRecDepth 20000 in
theorem tw_600 : (Cond.methodLink RL (59 : Nat) yX4_depth) ∈ tg := tg_at 634 (by first | rfl | decide +kernel) (by first | rfl | decide +kernel)
set_option maxRecDepth 20000 in
theorem tw_601 : (Cond.instanceMethod yX4_depth) ∈ tg := tg_at 635 (by first | rfl | decide +kernel) (by first | rfl | decide +kernel)
set_option maxRecDepth 20000 in
theorem tw_602 : (Cond.selects RX4 yX4_depth yX4_depth) ∈ tg := tg_at 636 (by first | rfl | decide +kernel) (by first | rfl | decide +kernel)
set_option maxRecDepth 20000 in
theorem tw_603 : (Cond.code yX4_depth cX4_depth (2 : Nat) (Option.some FieldType.int)) ∈ tg := tg_at 637 (by first | rfl | decide +kernel) (by first | rfl | decide +kernel)
set_option maxRecDepth 20000 in
theorem tw_604 : (Cond.arrayClass FieldType.long) ∈ tg := tg_at 638 (by first | rfl | decide +kernel) (by first | rfl | decide +kernel)
set_option maxRecDepth 20000 in
theorem tw_605 : (Cond.sameMethod "java/lang/Throwable" "java/lang/Throwable" "fillInStackTrace" "(I)Ljava/lang/Throwable;") ∈ tg := tg_at 639 (by first | rfl | decide +kernel) (by first | rfl | decide +kernel)
theorem tp_0 : Cond.selects RX3 yX3_keepPath yX3_keepPath ∈ tg := tg_at 0 (by first | rfl | decide +kernel) (by first | rfl | decide +kernel)
theorem tp_1 : Cond.selects RX3 yX3_known yX3_known ∈ tg := tg_at 1 (by first | rfl | decide +kernel) (by first | rfl | decide +kernel)
theorem tp_2 : Cond.selects RX3 yX3_keepOverTwo yX3_keepOverTwo ∈ tg := tg_at 2 (by first | rfl | decide +kernel) (by first | rfl | decide +kernel)
theorem tp_3 : Cond.selects RX3 yX3_keepOverOne yX3_keepOverOne ∈ tg := tg_at 3 (by first | rfl | decide +kernel) (by first | rfl | decide +kernel)
theorem tp_4 : Cond.selects RX3 yX3_countParts yX3_countParts ∈ tg := tg_at 4 (by first | rfl | decide +kernel) (by first | rfl | decide +kernel)
theorem tp_5 : Cond.selects RX0 yX0_forget yX0_forget ∈ tg := tg_at 5 (by first | rfl | decide +kernel) (by first | rfl | decide +kernel)
theorem tp_6 : Cond.selects RX0 yX0_countLinks yX0_countLinks ∈ tg := tg_at 6 (by first | rfl | decide +kernel) (by first | rfl | decide +kernel)
theorem tp_7 : Cond.selects RX0 yX0_addTimes yX0_addTimes ∈ tg := tg_at 7 (by first | rfl | decide +kernel) (by first | rfl | decide +kernel)
theorem tp_8 : Cond.selects RX0 yX0_countOverOne yX0_countOverOne ∈ tg := tg_at 8 (by first | rfl | decide +kernel) (by first | rfl | decide +kernel)
theorem tp_9 : Cond.selects RX0 yX0_countTurned yX0_countTurned ∈ tg := tg_at 9 (by first | rfl | decide +kernel) (by first | rfl | decide +kernel)
theorem tp_10 : Cond.selects RX0 yX0_joinByStep yX0_joinByStep ∈ tg := tg_at 10 (by first | rfl | decide +kernel) (by first | rfl | decide +kernel)
theorem tp_11 : Cond.selects RX0 yX0_joinOnwards yX0_joinOnwards ∈ tg := tg_at 11 (by first | rfl | decide +kernel) (by first | rfl | decide +kernel)
theorem tp_12 : Cond.selects RX0 yX0_joinSelves yX0_joinSelves ∈ tg := tg_at 12 (by first | rfl | decide +kernel) (by first | rfl | decide +kernel)
theorem tp_13 : Cond.selects RX0 yX0_countJoinedOnce yX0_countJoinedOnce ∈ tg := tg_at 13 (by first | rfl | decide +kernel) (by first | rfl | decide +kernel)
theorem tp_14 : Cond.selects RX0 yX0_countOverTwo yX0_countOverTwo ∈ tg := tg_at 14 (by first | rfl | decide +kernel) (by first | rfl | decide +kernel)
theorem tp_15 : Cond.selects RX0 yX0_countAll yX0_countAll ∈ tg := tg_at 15 (by first | rfl | decide +kernel) (by first | rfl | decide +kernel)
theorem tp_16 : Cond.selects RX0 yX0_countBehind yX0_countBehind ∈ tg := tg_at 16 (by first | rfl | decide +kernel) (by first | rfl | decide +kernel)
theorem tp_17 : Cond.selects RX0 yX0_addBehind yX0_addBehind ∈ tg := tg_at 17 (by first | rfl | decide +kernel) (by first | rfl | decide +kernel)
theorem tp_18 : Cond.selects RX3 yX3_goesBeyond yX3_goesBeyond ∈ tg := tg_at 18 (by first | rfl | decide +kernel) (by first | rfl | decide +kernel)
theorem tp_19 : Cond.selects RX3 yX3_keepRows yX3_keepRows ∈ tg := tg_at 19 (by first | rfl | decide +kernel) (by first | rfl | decide +kernel)
theorem tp_20 : Cond.selects "java/lang/Throwable" (⟨"java/lang/Throwable", "fillInStackTrace", "(I)Ljava/lang/Throwable;"⟩ : MethodName) (⟨"java/lang/Throwable", "fillInStackTrace", "(I)Ljava/lang/Throwable;"⟩ : MethodName) ∈ tg := tg_at 20 (by first | rfl | decide +kernel) (by first | rfl | decide +kernel)
theorem tp_21 : Cond.selects RX4 yX4_isPath yX4_isPath ∈ tg := tg_at 21 (by first | rfl | decide +kernel) (by first | rfl | decide +kernel)
theorem tp_22 : Cond.selects RX4 yX4_made yX4_made ∈ tg := tg_at 22 (by first | rfl | decide +kernel) (by first | rfl | decide +kernel)
theorem tp_23 : Cond.selects RX4 yX4_prepare yX4_prepare ∈ tg := tg_at 23 (by first | rfl | decide +kernel) (by first | rfl | decide +kernel)
theorem tp_24 : Cond.selects RX4 yX4_findNeeded yX4_findNeeded ∈ tg := tg_at 24 (by first | rfl | decide +kernel) (by first | rfl | decide +kernel)
theorem tp_25 : Cond.selects RX4 yX4_findGraph yX4_findGraph ∈ tg := tg_at 25 (by first | rfl | decide +kernel) (by first | rfl | decide +kernel)
theorem tp_26 : Cond.selects RX4 yX4_makeTable yX4_makeTable ∈ tg := tg_at 26 (by first | rfl | decide +kernel) (by first | rfl | decide +kernel)
theorem tp_27 : Cond.selects RX4 yX4_makeLinks yX4_makeLinks ∈ tg := tg_at 27 (by first | rfl | decide +kernel) (by first | rfl | decide +kernel)
theorem tp_28 : Cond.selects RX4 yX4_cell yX4_cell ∈ tg := tg_at 28 (by first | rfl | decide +kernel) (by first | rfl | decide +kernel)
theorem tp_29 : Cond.selects RX4 yX4_put yX4_put ∈ tg := tg_at 29 (by first | rfl | decide +kernel) (by first | rfl | decide +kernel)
theorem tp_30 : Cond.selects RX4 yX4_makeWalks yX4_makeWalks ∈ tg := tg_at 30 (by first | rfl | decide +kernel) (by first | rfl | decide +kernel)
theorem tp_31 : Cond.selects RX4 yX4_walk yX4_walk ∈ tg := tg_at 31 (by first | rfl | decide +kernel) (by first | rfl | decide +kernel)
theorem tp_32 : Cond.selects RX4 yX4_joined yX4_joined ∈ tg := tg_at 32 (by first | rfl | decide +kernel) (by first | rfl | decide +kernel)
theorem tp_33 : Cond.selects RX4 yX4_isRow yX4_isRow ∈ tg := tg_at 33 (by first | rfl | decide +kernel) (by first | rfl | decide +kernel)
end
section
theorem dX0_init_0 : decode cX0_init 0 = .ok (.aload_n 0, 1) := by decide +kernel
theorem dX0_init_1 : decode cX0_init 1 = .ok (.invokespecial 3, 3) := by decide +kernel
theorem dX0_init_4 : decode cX0_init 4 = .ok (.aload_n 0, 1) := by decide +kernel
theorem dX0_init_5 : decode cX0_init 5 = .ok (.iload_n 1, 1) := by decide +kernel
theorem dX0_init_6 : decode cX0_init 6 = .ok (.putfield 9, 3) := by decide +kernel
theorem dX0_init_9 : decode cX0_init 9 = .ok (.aload_n 0, 1) := by decide +kernel
theorem dX0_init_10 : decode cX0_init 10 = .ok (.iload_n 2, 1) := by decide +kernel
theorem dX0_init_11 : decode cX0_init 11 = .ok (.putfield 15, 3) := by decide +kernel
theorem dX0_init_14 : decode cX0_init 14 = .ok (.aload_n 0, 1) := by decide +kernel
theorem dX0_init_15 : decode cX0_init 15 = .ok (.iload_n 3, 1) := by decide +kernel
theorem dX0_init_16 : decode cX0_init 16 = .ok (.putfield 18, 3) := by decide +kernel
theorem dX0_init_19 : decode cX0_init 19 = .ok (.aload_n 0, 1) := by decide +kernel
theorem dX0_init_20 : decode cX0_init 20 = .ok (.aload 4, 2) := by decide +kernel
theorem dX0_init_22 : decode cX0_init 22 = .ok (.putfield 21, 3) := by decide +kernel
theorem dX0_init_25 : decode cX0_init 25 = .ok (.aload_n 0, 1) := by decide +kernel
theorem dX0_init_26 : decode cX0_init 26 = .ok (.aload 5, 2) := by decide +kernel
theorem dX0_init_28 : decode cX0_init 28 = .ok (.putfield 25, 3) := by decide +kernel
theorem dX0_init_31 : decode cX0_init 31 = .ok (.lconst 1, 1) := by decide +kernel
theorem dX0_init_32 : decode cX0_init 32 = .ok (.iload_n 1, 1) := by decide +kernel
theorem dX0_init_33 : decode cX0_init 33 = .ok (.lshl, 1) := by decide +kernel
theorem dX0_init_34 : decode cX0_init 34 = .ok (.lstore 6, 2) := by decide +kernel
theorem dX0_init_36 : decode cX0_init 36 = .ok (.aload 4, 2) := by decide +kernel
theorem dX0_init_38 : decode cX0_init 38 = .ok (.ifnull 13, 3) := by decide +kernel
theorem dX0_init_41 : decode cX0_init 41 = .ok (.lload 6, 2) := by decide +kernel
theorem dX0_init_43 : decode cX0_init 43 = .ok (.aload 4, 2) := by decide +kernel
theorem dX0_init_45 : decode cX0_init 45 = .ok (.getfield 28, 3) := by decide +kernel
theorem dX0_init_48 : decode cX0_init 48 = .ok (.lor, 1) := by decide +kernel
theorem dX0_init_49 : decode cX0_init 49 = .ok (.lstore 6, 2) := by decide +kernel
theorem dX0_init_51 : decode cX0_init 51 = .ok (.aload 5, 2) := by decide +kernel
theorem dX0_init_53 : decode cX0_init 53 = .ok (.ifnull 13, 3) := by decide +kernel
theorem dX0_init_56 : decode cX0_init 56 = .ok (.lload 6, 2) := by decide +kernel
theorem dX0_init_58 : decode cX0_init 58 = .ok (.aload 5, 2) := by decide +kernel
theorem dX0_init_60 : decode cX0_init 60 = .ok (.getfield 28, 3) := by decide +kernel
theorem dX0_init_63 : decode cX0_init 63 = .ok (.lor, 1) := by decide +kernel
theorem dX0_init_64 : decode cX0_init 64 = .ok (.lstore 6, 2) := by decide +kernel
theorem dX0_init_66 : decode cX0_init 66 = .ok (.aload_n 0, 1) := by decide +kernel
theorem dX0_init_67 : decode cX0_init 67 = .ok (.lload 6, 2) := by decide +kernel
theorem dX0_init_69 : decode cX0_init 69 = .ok (.putfield 28, 3) := by decide +kernel
theorem dX0_init_72 : decode cX0_init 72 = .ok (.aload_n 0, 1) := by decide +kernel
theorem dX0_init_73 : decode cX0_init 73 = .ok (.sipush 1024, 3) := by decide +kernel
theorem dX0_init_76 : decode cX0_init 76 = .ok (.newarray .int, 2) := by decide +kernel
theorem dX0_init_78 : decode cX0_init 78 = .ok (.putfield 32, 3) := by decide +kernel
theorem dX0_init_81 : decode cX0_init 81 = .ok (.aload_n 0, 1) := by decide +kernel
theorem dX0_init_82 : decode cX0_init 82 = .ok (.bipush 32, 2) := by decide +kernel
theorem dX0_init_84 : decode cX0_init 84 = .ok (.newarray .int, 2) := by decide +kernel
theorem dX0_init_86 : decode cX0_init 86 = .ok (.putfield 36, 3) := by decide +kernel
theorem dX0_init_89 : decode cX0_init 89 = .ok (.aload_n 0, 1) := by decide +kernel
theorem dX0_init_90 : decode cX0_init 90 = .ok (.iconst (-1), 1) := by decide +kernel
theorem dX0_init_91 : decode cX0_init 91 = .ok (.putfield 39, 3) := by decide +kernel
theorem dX0_init_94 : decode cX0_init 94 = .ok (.aload_n 0, 1) := by decide +kernel
theorem dX0_init_95 : decode cX0_init 95 = .ok (.iconst 0, 1) := by decide +kernel
theorem dX0_init_96 : decode cX0_init 96 = .ok (.putfield 42, 3) := by decide +kernel
theorem dX0_init_99 : decode cX0_init 99 = .ok (.return_, 1) := by decide +kernel
theorem dX0_isMadeOf_0 : decode cX0_isMadeOf 0 = .ok (.aload_n 0, 1) := by decide +kernel
theorem dX0_isMadeOf_1 : decode cX0_isMadeOf 1 = .ok (.getfield 28, 3) := by decide +kernel
theorem dX0_isMadeOf_4 : decode cX0_isMadeOf 4 = .ok (.iload_n 1, 1) := by decide +kernel
theorem dX0_isMadeOf_5 : decode cX0_isMadeOf 5 = .ok (.lushr, 1) := by decide +kernel
theorem dX0_isMadeOf_6 : decode cX0_isMadeOf 6 = .ok (.lconst 1, 1) := by decide +kernel
theorem dX0_isMadeOf_7 : decode cX0_isMadeOf 7 = .ok (.land, 1) := by decide +kernel
theorem dX0_isMadeOf_8 : decode cX0_isMadeOf 8 = .ok (.lconst 0, 1) := by decide +kernel
theorem dX0_isMadeOf_9 : decode cX0_isMadeOf 9 = .ok (.lcmp, 1) := by decide +kernel
theorem dX0_isMadeOf_10 : decode cX0_isMadeOf 10 = .ok (.ifCond .eq 7, 3) := by decide +kernel
theorem dX0_isMadeOf_13 : decode cX0_isMadeOf 13 = .ok (.iconst 1, 1) := by decide +kernel
theorem dX0_isMadeOf_14 : decode cX0_isMadeOf 14 = .ok (.goto 4, 3) := by decide +kernel
theorem dX0_isMadeOf_17 : decode cX0_isMadeOf 17 = .ok (.iconst 0, 1) := by decide +kernel
theorem dX0_isMadeOf_18 : decode cX0_isMadeOf 18 = .ok (.ireturn, 1) := by decide +kernel
theorem dX0_walks_0 : decode cX0_walks 0 = .ok (.aload_n 0, 1) := by decide +kernel
theorem dX0_walks_1 : decode cX0_walks 1 = .ok (.getfield 15, 3) := by decide +kernel
theorem dX0_walks_4 : decode cX0_walks 4 = .ok (.iconst 4, 1) := by decide +kernel
theorem dX0_walks_5 : decode cX0_walks 5 = .ok (.if_icmp .eq 11, 3) := by decide +kernel
theorem dX0_walks_8 : decode cX0_walks 8 = .ok (.aload_n 0, 1) := by decide +kernel
theorem dX0_walks_9 : decode cX0_walks 9 = .ok (.getfield 15, 3) := by decide +kernel
theorem dX0_walks_12 : decode cX0_walks 12 = .ok (.iconst 5, 1) := by decide +kernel
theorem dX0_walks_13 : decode cX0_walks 13 = .ok (.if_icmp .ne 7, 3) := by decide +kernel
theorem dX0_walks_16 : decode cX0_walks 16 = .ok (.iconst 1, 1) := by decide +kernel
theorem dX0_walks_17 : decode cX0_walks 17 = .ok (.goto 4, 3) := by decide +kernel
theorem dX0_walks_20 : decode cX0_walks 20 = .ok (.iconst 0, 1) := by decide +kernel
theorem dX0_walks_21 : decode cX0_walks 21 = .ok (.ireturn, 1) := by decide +kernel
theorem dX0_timesOf_0 : decode cX0_timesOf 0 = .ok (.aload_n 0, 1) := by decide +kernel
theorem dX0_timesOf_1 : decode cX0_timesOf 1 = .ok (.getfield 32, 3) := by decide +kernel
theorem dX0_timesOf_4 : decode cX0_timesOf 4 = .ok (.iload_n 1, 1) := by decide +kernel
theorem dX0_timesOf_5 : decode cX0_timesOf 5 = .ok (.bipush 32, 2) := by decide +kernel
theorem dX0_timesOf_7 : decode cX0_timesOf 7 = .ok (.imul, 1) := by decide +kernel
theorem dX0_timesOf_8 : decode cX0_timesOf 8 = .ok (.iload_n 2, 1) := by decide +kernel
theorem dX0_timesOf_9 : decode cX0_timesOf 9 = .ok (.iadd, 1) := by decide +kernel
theorem dX0_timesOf_10 : decode cX0_timesOf 10 = .ok (.iaload, 1) := by decide +kernel
theorem dX0_timesOf_11 : decode cX0_timesOf 11 = .ok (.ireturn, 1) := by decide +kernel
theorem dX0_pairs_0 : decode cX0_pairs 0 = .ok (.iconst 0, 1) := by decide +kernel
theorem dX0_pairs_1 : decode cX0_pairs 1 = .ok (.istore_n 1, 1) := by decide +kernel
theorem dX0_pairs_2 : decode cX0_pairs 2 = .ok (.iconst 0, 1) := by decide +kernel
theorem dX0_pairs_3 : decode cX0_pairs 3 = .ok (.istore_n 2, 1) := by decide +kernel
theorem dX0_pairs_4 : decode cX0_pairs 4 = .ok (.iload_n 2, 1) := by decide +kernel
theorem dX0_pairs_5 : decode cX0_pairs 5 = .ok (.bipush 32, 2) := by decide +kernel
theorem dX0_pairs_7 : decode cX0_pairs 7 = .ok (.if_icmp .ge 21, 3) := by decide +kernel
theorem dX0_pairs_10 : decode cX0_pairs 10 = .ok (.iload_n 1, 1) := by decide +kernel
theorem dX0_pairs_11 : decode cX0_pairs 11 = .ok (.aload_n 0, 1) := by decide +kernel
theorem dX0_pairs_12 : decode cX0_pairs 12 = .ok (.getfield 36, 3) := by decide +kernel
theorem dX0_pairs_15 : decode cX0_pairs 15 = .ok (.iload_n 2, 1) := by decide +kernel
theorem dX0_pairs_16 : decode cX0_pairs 16 = .ok (.iaload, 1) := by decide +kernel
theorem dX0_pairs_17 : decode cX0_pairs 17 = .ok (.invokestatic 45, 3) := by decide +kernel
theorem dX0_pairs_20 : decode cX0_pairs 20 = .ok (.iadd, 1) := by decide +kernel
theorem dX0_pairs_21 : decode cX0_pairs 21 = .ok (.istore_n 1, 1) := by decide +kernel
theorem dX0_pairs_22 : decode cX0_pairs 22 = .ok (.iinc 2 1, 3) := by decide +kernel
theorem dX0_pairs_25 : decode cX0_pairs 25 = .ok (.goto (-21), 3) := by decide +kernel
theorem dX0_pairs_28 : decode cX0_pairs 28 = .ok (.iload_n 1, 1) := by decide +kernel
theorem dX0_pairs_29 : decode cX0_pairs 29 = .ok (.ireturn, 1) := by decide +kernel
theorem dX0_countBetween_0 : decode cX0_countBetween 0 = .ok (.iconst 0, 1) := by decide +kernel
theorem dX0_countBetween_1 : decode cX0_countBetween 1 = .ok (.istore_n 3, 1) := by decide +kernel
theorem dX0_countBetween_2 : decode cX0_countBetween 2 = .ok (.iload_n 1, 1) := by decide +kernel
theorem dX0_countBetween_3 : decode cX0_countBetween 3 = .ok (.invokestatic 51, 3) := by decide +kernel
theorem dX0_countBetween_6 : decode cX0_countBetween 6 = .ok (.istore 4, 2) := by decide +kernel
theorem dX0_countBetween_8 : decode cX0_countBetween 8 = .ok (.iload 4, 2) := by decide +kernel
theorem dX0_countBetween_10 : decode cX0_countBetween 10 = .ok (.iload_n 1, 1) := by decide +kernel
theorem dX0_countBetween_11 : decode cX0_countBetween 11 = .ok (.invokestatic 54, 3) := by decide +kernel
theorem dX0_countBetween_14 : decode cX0_countBetween 14 = .ok (.if_icmp .gt 41, 3) := by decide +kernel
theorem dX0_countBetween_17 : decode cX0_countBetween 17 = .ok (.iload_n 2, 1) := by decide +kernel
theorem dX0_countBetween_18 : decode cX0_countBetween 18 = .ok (.invokestatic 51, 3) := by decide +kernel
theorem dX0_countBetween_21 : decode cX0_countBetween 21 = .ok (.istore 5, 2) := by decide +kernel
theorem dX0_countBetween_23 : decode cX0_countBetween 23 = .ok (.iload 5, 2) := by decide +kernel
theorem dX0_countBetween_25 : decode cX0_countBetween 25 = .ok (.iload_n 2, 1) := by decide +kernel
theorem dX0_countBetween_26 : decode cX0_countBetween 26 = .ok (.invokestatic 54, 3) := by decide +kernel
theorem dX0_countBetween_29 : decode cX0_countBetween 29 = .ok (.if_icmp .gt 20, 3) := by decide +kernel
theorem dX0_countBetween_32 : decode cX0_countBetween 32 = .ok (.iload_n 3, 1) := by decide +kernel
theorem dX0_countBetween_33 : decode cX0_countBetween 33 = .ok (.aload_n 0, 1) := by decide +kernel
theorem dX0_countBetween_34 : decode cX0_countBetween 34 = .ok (.iload 4, 2) := by decide +kernel
theorem dX0_countBetween_36 : decode cX0_countBetween 36 = .ok (.iload 5, 2) := by decide +kernel
theorem dX0_countBetween_38 : decode cX0_countBetween 38 = .ok (.invokevirtual 57, 3) := by decide +kernel
theorem dX0_countBetween_41 : decode cX0_countBetween 41 = .ok (.iadd, 1) := by decide +kernel
theorem dX0_countBetween_42 : decode cX0_countBetween 42 = .ok (.istore_n 3, 1) := by decide +kernel
theorem dX0_countBetween_43 : decode cX0_countBetween 43 = .ok (.iinc 5 1, 3) := by decide +kernel
theorem dX0_countBetween_46 : decode cX0_countBetween 46 = .ok (.goto (-23), 3) := by decide +kernel
theorem dX0_countBetween_49 : decode cX0_countBetween 49 = .ok (.iinc 4 1, 3) := by decide +kernel
theorem dX0_countBetween_52 : decode cX0_countBetween 52 = .ok (.goto (-44), 3) := by decide +kernel
theorem dX0_countBetween_55 : decode cX0_countBetween 55 = .ok (.iload_n 3, 1) := by decide +kernel
theorem dX0_countBetween_56 : decode cX0_countBetween 56 = .ok (.ireturn, 1) := by decide +kernel
theorem dX0_countIn_0 : decode cX0_countIn 0 = .ok (.aload_n 0, 1) := by decide +kernel
theorem dX0_countIn_1 : decode cX0_countIn 1 = .ok (.getfield 39, 3) := by decide +kernel
theorem dX0_countIn_4 : decode cX0_countIn 4 = .ok (.aload_n 1, 1) := by decide +kernel
theorem dX0_countIn_5 : decode cX0_countIn 5 = .ok (.getfield 61, 3) := by decide +kernel
theorem dX0_countIn_8 : decode cX0_countIn 8 = .ok (.if_icmp .ne 12, 3) := by decide +kernel
theorem dX0_countIn_11 : decode cX0_countIn 11 = .ok (.aload_n 0, 1) := by decide +kernel
theorem dX0_countIn_12 : decode cX0_countIn 12 = .ok (.getfield 42, 3) := by decide +kernel
theorem dX0_countIn_15 : decode cX0_countIn 15 = .ok (.iload_n 2, 1) := by decide +kernel
theorem dX0_countIn_16 : decode cX0_countIn 16 = .ok (.if_icmp .ne 4, 3) := by decide +kernel
theorem dX0_countIn_19 : decode cX0_countIn 19 = .ok (.return_, 1) := by decide +kernel
theorem dX0_countIn_20 : decode cX0_countIn 20 = .ok (.aload_n 0, 1) := by decide +kernel
theorem dX0_countIn_21 : decode cX0_countIn 21 = .ok (.aload_n 1, 1) := by decide +kernel
theorem dX0_countIn_22 : decode cX0_countIn 22 = .ok (.getfield 61, 3) := by decide +kernel
theorem dX0_countIn_25 : decode cX0_countIn 25 = .ok (.putfield 39, 3) := by decide +kernel
theorem dX0_countIn_28 : decode cX0_countIn 28 = .ok (.aload_n 0, 1) := by decide +kernel
theorem dX0_countIn_29 : decode cX0_countIn 29 = .ok (.iload_n 2, 1) := by decide +kernel
theorem dX0_countIn_30 : decode cX0_countIn 30 = .ok (.putfield 42, 3) := by decide +kernel
theorem dX0_countIn_33 : decode cX0_countIn 33 = .ok (.aload_n 0, 1) := by decide +kernel
theorem dX0_countIn_34 : decode cX0_countIn 34 = .ok (.invokevirtual 66, 3) := by decide +kernel
theorem dX0_countIn_37 : decode cX0_countIn 37 = .ok (.aload_n 0, 1) := by decide +kernel
theorem dX0_countIn_38 : decode cX0_countIn 38 = .ok (.getfield 21, 3) := by decide +kernel
theorem dX0_countIn_41 : decode cX0_countIn 41 = .ok (.ifnonnull 11, 3) := by decide +kernel
theorem dX0_countIn_44 : decode cX0_countIn 44 = .ok (.aload_n 0, 1) := by decide +kernel
theorem dX0_countIn_45 : decode cX0_countIn 45 = .ok (.aload_n 1, 1) := by decide +kernel
theorem dX0_countIn_46 : decode cX0_countIn 46 = .ok (.invokevirtual 69, 3) := by decide +kernel
theorem dX0_countIn_49 : decode cX0_countIn 49 = .ok (.goto 34, 3) := by decide +kernel
theorem dX0_countIn_52 : decode cX0_countIn 52 = .ok (.aload_n 0, 1) := by decide +kernel
theorem dX0_countIn_53 : decode cX0_countIn 53 = .ok (.getfield 25, 3) := by decide +kernel
theorem dX0_countIn_56 : decode cX0_countIn 56 = .ok (.ifnonnull 15, 3) := by decide +kernel
theorem dX0_countIn_59 : decode cX0_countIn 59 = .ok (.aload_n 0, 1) := by decide +kernel
theorem dX0_countIn_60 : decode cX0_countIn 60 = .ok (.aload_n 0, 1) := by decide +kernel
theorem dX0_countIn_61 : decode cX0_countIn 61 = .ok (.getfield 21, 3) := by decide +kernel
theorem dX0_countIn_64 : decode cX0_countIn 64 = .ok (.iload_n 2, 1) := by decide +kernel
theorem dX0_countIn_65 : decode cX0_countIn 65 = .ok (.invokevirtual 73, 3) := by decide +kernel
theorem dX0_countIn_68 : decode cX0_countIn 68 = .ok (.goto 15, 3) := by decide +kernel
theorem dX0_countIn_71 : decode cX0_countIn 71 = .ok (.aload_n 0, 1) := by decide +kernel
theorem dX0_countIn_72 : decode cX0_countIn 72 = .ok (.aload_n 0, 1) := by decide +kernel
theorem dX0_countIn_73 : decode cX0_countIn 73 = .ok (.getfield 21, 3) := by decide +kernel
theorem dX0_countIn_76 : decode cX0_countIn 76 = .ok (.aload_n 0, 1) := by decide +kernel
theorem dX0_countIn_77 : decode cX0_countIn 77 = .ok (.getfield 25, 3) := by decide +kernel
theorem dX0_countIn_80 : decode cX0_countIn 80 = .ok (.invokevirtual 77, 3) := by decide +kernel
theorem dX0_countIn_83 : decode cX0_countIn 83 = .ok (.return_, 1) := by decide +kernel
theorem dX0_forget_0 : decode cX0_forget 0 = .ok (.iconst 0, 1) := by decide +kernel
theorem dX0_forget_1 : decode cX0_forget 1 = .ok (.istore_n 1, 1) := by decide +kernel
theorem dX0_forget_2 : decode cX0_forget 2 = .ok (.iload_n 1, 1) := by decide +kernel
theorem dX0_forget_3 : decode cX0_forget 3 = .ok (.bipush 32, 2) := by decide +kernel
theorem dX0_forget_5 : decode cX0_forget 5 = .ok (.if_icmp .ge 16, 3) := by decide +kernel
theorem dX0_forget_8 : decode cX0_forget 8 = .ok (.aload_n 0, 1) := by decide +kernel
theorem dX0_forget_9 : decode cX0_forget 9 = .ok (.getfield 36, 3) := by decide +kernel
theorem dX0_forget_12 : decode cX0_forget 12 = .ok (.iload_n 1, 1) := by decide +kernel
theorem dX0_forget_13 : decode cX0_forget 13 = .ok (.iconst 0, 1) := by decide +kernel
theorem dX0_forget_14 : decode cX0_forget 14 = .ok (.iastore, 1) := by decide +kernel
theorem dX0_forget_15 : decode cX0_forget 15 = .ok (.iinc 1 1, 3) := by decide +kernel
theorem dX0_forget_18 : decode cX0_forget 18 = .ok (.goto (-16), 3) := by decide +kernel
theorem dX0_forget_21 : decode cX0_forget 21 = .ok (.iconst 0, 1) := by decide +kernel
theorem dX0_forget_22 : decode cX0_forget 22 = .ok (.istore_n 1, 1) := by decide +kernel
theorem dX0_forget_23 : decode cX0_forget 23 = .ok (.iload_n 1, 1) := by decide +kernel
theorem dX0_forget_24 : decode cX0_forget 24 = .ok (.sipush 1024, 3) := by decide +kernel
theorem dX0_forget_27 : decode cX0_forget 27 = .ok (.if_icmp .ge 16, 3) := by decide +kernel
theorem dX0_forget_30 : decode cX0_forget 30 = .ok (.aload_n 0, 1) := by decide +kernel
theorem dX0_forget_31 : decode cX0_forget 31 = .ok (.getfield 32, 3) := by decide +kernel
theorem dX0_forget_34 : decode cX0_forget 34 = .ok (.iload_n 1, 1) := by decide +kernel
theorem dX0_forget_35 : decode cX0_forget 35 = .ok (.iconst 0, 1) := by decide +kernel
theorem dX0_forget_36 : decode cX0_forget 36 = .ok (.iastore, 1) := by decide +kernel
theorem dX0_forget_37 : decode cX0_forget 37 = .ok (.iinc 1 1, 3) := by decide +kernel
theorem dX0_forget_40 : decode cX0_forget 40 = .ok (.goto (-17), 3) := by decide +kernel
theorem dX0_forget_43 : decode cX0_forget 43 = .ok (.return_, 1) := by decide +kernel
theorem dX0_addTimes_0 : decode cX0_addTimes 0 = .ok (.lload_n 3, 1) := by decide +kernel
theorem dX0_addTimes_1 : decode cX0_addTimes 1 = .ok (.lconst 0, 1) := by decide +kernel
theorem dX0_addTimes_2 : decode cX0_addTimes 2 = .ok (.lcmp, 1) := by decide +kernel
theorem dX0_addTimes_3 : decode cX0_addTimes 3 = .ok (.ifCond .le 47, 3) := by decide +kernel
theorem dX0_addTimes_6 : decode cX0_addTimes 6 = .ok (.iload_n 1, 1) := by decide +kernel
theorem dX0_addTimes_7 : decode cX0_addTimes 7 = .ok (.bipush 32, 2) := by decide +kernel
theorem dX0_addTimes_9 : decode cX0_addTimes 9 = .ok (.imul, 1) := by decide +kernel
theorem dX0_addTimes_10 : decode cX0_addTimes 10 = .ok (.iload_n 2, 1) := by decide +kernel
theorem dX0_addTimes_11 : decode cX0_addTimes 11 = .ok (.iadd, 1) := by decide +kernel
theorem dX0_addTimes_12 : decode cX0_addTimes 12 = .ok (.istore 5, 2) := by decide +kernel
theorem dX0_addTimes_14 : decode cX0_addTimes 14 = .ok (.aload_n 0, 1) := by decide +kernel
theorem dX0_addTimes_15 : decode cX0_addTimes 15 = .ok (.getfield 32, 3) := by decide +kernel
theorem dX0_addTimes_18 : decode cX0_addTimes 18 = .ok (.iload 5, 2) := by decide +kernel
theorem dX0_addTimes_20 : decode cX0_addTimes 20 = .ok (.aload_n 0, 1) := by decide +kernel
theorem dX0_addTimes_21 : decode cX0_addTimes 21 = .ok (.getfield 32, 3) := by decide +kernel
theorem dX0_addTimes_24 : decode cX0_addTimes 24 = .ok (.iload 5, 2) := by decide +kernel
theorem dX0_addTimes_26 : decode cX0_addTimes 26 = .ok (.iaload, 1) := by decide +kernel
theorem dX0_addTimes_27 : decode cX0_addTimes 27 = .ok (.i2l, 1) := by decide +kernel
theorem dX0_addTimes_28 : decode cX0_addTimes 28 = .ok (.lload_n 3, 1) := by decide +kernel
theorem dX0_addTimes_29 : decode cX0_addTimes 29 = .ok (.ladd, 1) := by decide +kernel
theorem dX0_addTimes_30 : decode cX0_addTimes 30 = .ok (.ldc2_w 81, 3) := by decide +kernel
theorem dX0_addTimes_33 : decode cX0_addTimes 33 = .ok (.invokestatic 83, 3) := by decide +kernel
theorem dX0_addTimes_36 : decode cX0_addTimes 36 = .ok (.l2i, 1) := by decide +kernel
theorem dX0_addTimes_37 : decode cX0_addTimes 37 = .ok (.iastore, 1) := by decide +kernel
theorem dX0_addTimes_38 : decode cX0_addTimes 38 = .ok (.aload_n 0, 1) := by decide +kernel
theorem dX0_addTimes_39 : decode cX0_addTimes 39 = .ok (.getfield 36, 3) := by decide +kernel
theorem dX0_addTimes_42 : decode cX0_addTimes 42 = .ok (.iload_n 1, 1) := by decide +kernel
theorem dX0_addTimes_43 : decode cX0_addTimes 43 = .ok (.dup2, 1) := by decide +kernel
theorem dX0_addTimes_44 : decode cX0_addTimes 44 = .ok (.iaload, 1) := by decide +kernel
theorem dX0_addTimes_45 : decode cX0_addTimes 45 = .ok (.iconst 1, 1) := by decide +kernel
theorem dX0_addTimes_46 : decode cX0_addTimes 46 = .ok (.iload_n 2, 1) := by decide +kernel
theorem dX0_addTimes_47 : decode cX0_addTimes 47 = .ok (.ishl, 1) := by decide +kernel
theorem dX0_addTimes_48 : decode cX0_addTimes 48 = .ok (.ior, 1) := by decide +kernel
theorem dX0_addTimes_49 : decode cX0_addTimes 49 = .ok (.iastore, 1) := by decide +kernel
theorem dX0_addTimes_50 : decode cX0_addTimes 50 = .ok (.return_, 1) := by decide +kernel
theorem dX0_countLinks_0 : decode cX0_countLinks 0 = .ok (.iconst 0, 1) := by decide +kernel
theorem dX0_countLinks_1 : decode cX0_countLinks 1 = .ok (.istore_n 2, 1) := by decide +kernel
theorem dX0_countLinks_2 : decode cX0_countLinks 2 = .ok (.iload_n 2, 1) := by decide +kernel
theorem dX0_countLinks_3 : decode cX0_countLinks 3 = .ok (.bipush 32, 2) := by decide +kernel
theorem dX0_countLinks_5 : decode cX0_countLinks 5 = .ok (.if_icmp .ge 49, 3) := by decide +kernel
theorem dX0_countLinks_8 : decode cX0_countLinks 8 = .ok (.iconst 0, 1) := by decide +kernel
theorem dX0_countLinks_9 : decode cX0_countLinks 9 = .ok (.istore_n 3, 1) := by decide +kernel
theorem dX0_countLinks_10 : decode cX0_countLinks 10 = .ok (.iload_n 3, 1) := by decide +kernel
theorem dX0_countLinks_11 : decode cX0_countLinks 11 = .ok (.bipush 32, 2) := by decide +kernel
theorem dX0_countLinks_13 : decode cX0_countLinks 13 = .ok (.if_icmp .ge 35, 3) := by decide +kernel
theorem dX0_countLinks_16 : decode cX0_countLinks 16 = .ok (.aload_n 0, 1) := by decide +kernel
theorem dX0_countLinks_17 : decode cX0_countLinks 17 = .ok (.iload_n 2, 1) := by decide +kernel
theorem dX0_countLinks_18 : decode cX0_countLinks 18 = .ok (.iload_n 3, 1) := by decide +kernel
theorem dX0_countLinks_19 : decode cX0_countLinks 19 = .ok (.aload_n 1, 1) := by decide +kernel
theorem dX0_countLinks_20 : decode cX0_countLinks 20 = .ok (.getfield 89, 3) := by decide +kernel
theorem dX0_countLinks_23 : decode cX0_countLinks 23 = .ok (.iload_n 2, 1) := by decide +kernel
theorem dX0_countLinks_24 : decode cX0_countLinks 24 = .ok (.bipush 32, 2) := by decide +kernel
theorem dX0_countLinks_26 : decode cX0_countLinks 26 = .ok (.imul, 1) := by decide +kernel
theorem dX0_countLinks_27 : decode cX0_countLinks 27 = .ok (.iload_n 3, 1) := by decide +kernel
theorem dX0_countLinks_28 : decode cX0_countLinks 28 = .ok (.iadd, 1) := by decide +kernel
theorem dX0_countLinks_29 : decode cX0_countLinks 29 = .ok (.iaload, 1) := by decide +kernel
theorem dX0_countLinks_30 : decode cX0_countLinks 30 = .ok (.aload_n 0, 1) := by decide +kernel
theorem dX0_countLinks_31 : decode cX0_countLinks 31 = .ok (.getfield 18, 3) := by decide +kernel
theorem dX0_countLinks_34 : decode cX0_countLinks 34 = .ok (.iand, 1) := by decide +kernel
theorem dX0_countLinks_35 : decode cX0_countLinks 35 = .ok (.invokestatic 45, 3) := by decide +kernel
theorem dX0_countLinks_38 : decode cX0_countLinks 38 = .ok (.i2l, 1) := by decide +kernel
theorem dX0_countLinks_39 : decode cX0_countLinks 39 = .ok (.invokevirtual 91, 3) := by decide +kernel
theorem dX0_countLinks_42 : decode cX0_countLinks 42 = .ok (.iinc 3 1, 3) := by decide +kernel
theorem dX0_countLinks_45 : decode cX0_countLinks 45 = .ok (.goto (-35), 3) := by decide +kernel
theorem dX0_countLinks_48 : decode cX0_countLinks 48 = .ok (.iinc 2 1, 3) := by decide +kernel
theorem dX0_countLinks_51 : decode cX0_countLinks 51 = .ok (.goto (-49), 3) := by decide +kernel
theorem dX0_countLinks_54 : decode cX0_countLinks 54 = .ok (.return_, 1) := by decide +kernel
theorem dX0_countOverOne_0 : decode cX0_countOverOne 0 = .ok (.aload_n 0, 1) := by decide +kernel
theorem dX0_countOverOne_1 : decode cX0_countOverOne 1 = .ok (.getfield 15, 3) := by decide +kernel
theorem dX0_countOverOne_4 : decode cX0_countOverOne 4 = .ok (.iconst 1, 1) := by decide +kernel
theorem dX0_countOverOne_5 : decode cX0_countOverOne 5 = .ok (.if_icmp .ne 11, 3) := by decide +kernel
theorem dX0_countOverOne_8 : decode cX0_countOverOne 8 = .ok (.aload_n 0, 1) := by decide +kernel
theorem dX0_countOverOne_9 : decode cX0_countOverOne 9 = .ok (.aload_n 1, 1) := by decide +kernel
theorem dX0_countOverOne_10 : decode cX0_countOverOne 10 = .ok (.invokevirtual 95, 3) := by decide +kernel
theorem dX0_countOverOne_13 : decode cX0_countOverOne 13 = .ok (.goto 13, 3) := by decide +kernel
theorem dX0_countOverOne_16 : decode cX0_countOverOne 16 = .ok (.aload_n 0, 1) := by decide +kernel
theorem dX0_countOverOne_17 : decode cX0_countOverOne 17 = .ok (.aload_n 1, 1) := by decide +kernel
theorem dX0_countOverOne_18 : decode cX0_countOverOne 18 = .ok (.iload_n 2, 1) := by decide +kernel
theorem dX0_countOverOne_19 : decode cX0_countOverOne 19 = .ok (.invokevirtual 99, 3) := by decide +kernel
theorem dX0_countOverOne_22 : decode cX0_countOverOne 22 = .ok (.aload_n 0, 1) := by decide +kernel
theorem dX0_countOverOne_23 : decode cX0_countOverOne 23 = .ok (.invokevirtual 102, 3) := by decide +kernel
theorem dX0_countOverOne_26 : decode cX0_countOverOne 26 = .ok (.return_, 1) := by decide +kernel
theorem dX0_countOverTwo_0 : decode cX0_countOverTwo 0 = .ok (.aload_n 0, 1) := by decide +kernel
theorem dX0_countOverTwo_1 : decode cX0_countOverTwo 1 = .ok (.getfield 15, 3) := by decide +kernel
theorem dX0_countOverTwo_4 : decode cX0_countOverTwo 4 = .ok (.iconst 3, 1) := by decide +kernel
theorem dX0_countOverTwo_5 : decode cX0_countOverTwo 5 = .ok (.if_icmp .ne 16, 3) := by decide +kernel
theorem dX0_countOverTwo_8 : decode cX0_countOverTwo 8 = .ok (.aload_n 0, 1) := by decide +kernel
theorem dX0_countOverTwo_9 : decode cX0_countOverTwo 9 = .ok (.aload_n 1, 1) := by decide +kernel
theorem dX0_countOverTwo_10 : decode cX0_countOverTwo 10 = .ok (.invokevirtual 105, 3) := by decide +kernel
theorem dX0_countOverTwo_13 : decode cX0_countOverTwo 13 = .ok (.aload_n 0, 1) := by decide +kernel
theorem dX0_countOverTwo_14 : decode cX0_countOverTwo 14 = .ok (.aload_n 2, 1) := by decide +kernel
theorem dX0_countOverTwo_15 : decode cX0_countOverTwo 15 = .ok (.invokevirtual 105, 3) := by decide +kernel
theorem dX0_countOverTwo_18 : decode cX0_countOverTwo 18 = .ok (.goto 9, 3) := by decide +kernel
theorem dX0_countOverTwo_21 : decode cX0_countOverTwo 21 = .ok (.aload_n 0, 1) := by decide +kernel
theorem dX0_countOverTwo_22 : decode cX0_countOverTwo 22 = .ok (.aload_n 1, 1) := by decide +kernel
theorem dX0_countOverTwo_23 : decode cX0_countOverTwo 23 = .ok (.aload_n 2, 1) := by decide +kernel
theorem dX0_countOverTwo_24 : decode cX0_countOverTwo 24 = .ok (.invokevirtual 108, 3) := by decide +kernel
theorem dX0_countOverTwo_27 : decode cX0_countOverTwo 27 = .ok (.return_, 1) := by decide +kernel
theorem dX0_countTurned_0 : decode cX0_countTurned 0 = .ok (.iconst 0, 1) := by decide +kernel
theorem dX0_countTurned_1 : decode cX0_countTurned 1 = .ok (.istore_n 2, 1) := by decide +kernel
theorem dX0_countTurned_2 : decode cX0_countTurned 2 = .ok (.iload_n 2, 1) := by decide +kernel
theorem dX0_countTurned_3 : decode cX0_countTurned 3 = .ok (.bipush 32, 2) := by decide +kernel
theorem dX0_countTurned_5 : decode cX0_countTurned 5 = .ok (.if_icmp .ge 36, 3) := by decide +kernel
theorem dX0_countTurned_8 : decode cX0_countTurned 8 = .ok (.iconst 0, 1) := by decide +kernel
theorem dX0_countTurned_9 : decode cX0_countTurned 9 = .ok (.istore_n 3, 1) := by decide +kernel
theorem dX0_countTurned_10 : decode cX0_countTurned 10 = .ok (.iload_n 3, 1) := by decide +kernel
theorem dX0_countTurned_11 : decode cX0_countTurned 11 = .ok (.bipush 32, 2) := by decide +kernel
theorem dX0_countTurned_13 : decode cX0_countTurned 13 = .ok (.if_icmp .ge 22, 3) := by decide +kernel
theorem dX0_countTurned_16 : decode cX0_countTurned 16 = .ok (.aload_n 0, 1) := by decide +kernel
theorem dX0_countTurned_17 : decode cX0_countTurned 17 = .ok (.iload_n 3, 1) := by decide +kernel
theorem dX0_countTurned_18 : decode cX0_countTurned 18 = .ok (.iload_n 2, 1) := by decide +kernel
theorem dX0_countTurned_19 : decode cX0_countTurned 19 = .ok (.aload_n 1, 1) := by decide +kernel
theorem dX0_countTurned_20 : decode cX0_countTurned 20 = .ok (.iload_n 2, 1) := by decide +kernel
theorem dX0_countTurned_21 : decode cX0_countTurned 21 = .ok (.iload_n 3, 1) := by decide +kernel
theorem dX0_countTurned_22 : decode cX0_countTurned 22 = .ok (.invokevirtual 57, 3) := by decide +kernel
theorem dX0_countTurned_25 : decode cX0_countTurned 25 = .ok (.i2l, 1) := by decide +kernel
theorem dX0_countTurned_26 : decode cX0_countTurned 26 = .ok (.invokevirtual 91, 3) := by decide +kernel
theorem dX0_countTurned_29 : decode cX0_countTurned 29 = .ok (.iinc 3 1, 3) := by decide +kernel
theorem dX0_countTurned_32 : decode cX0_countTurned 32 = .ok (.goto (-22), 3) := by decide +kernel
theorem dX0_countTurned_35 : decode cX0_countTurned 35 = .ok (.iinc 2 1, 3) := by decide +kernel
theorem dX0_countTurned_38 : decode cX0_countTurned 38 = .ok (.goto (-36), 3) := by decide +kernel
theorem dX0_countTurned_41 : decode cX0_countTurned 41 = .ok (.return_, 1) := by decide +kernel
theorem dX0_countAll_0 : decode cX0_countAll 0 = .ok (.iconst 0, 1) := by decide +kernel
theorem dX0_countAll_1 : decode cX0_countAll 1 = .ok (.istore_n 2, 1) := by decide +kernel
theorem dX0_countAll_2 : decode cX0_countAll 2 = .ok (.iload_n 2, 1) := by decide +kernel
theorem dX0_countAll_3 : decode cX0_countAll 3 = .ok (.bipush 32, 2) := by decide +kernel
theorem dX0_countAll_5 : decode cX0_countAll 5 = .ok (.if_icmp .ge 36, 3) := by decide +kernel
theorem dX0_countAll_8 : decode cX0_countAll 8 = .ok (.iconst 0, 1) := by decide +kernel
theorem dX0_countAll_9 : decode cX0_countAll 9 = .ok (.istore_n 3, 1) := by decide +kernel
theorem dX0_countAll_10 : decode cX0_countAll 10 = .ok (.iload_n 3, 1) := by decide +kernel
theorem dX0_countAll_11 : decode cX0_countAll 11 = .ok (.bipush 32, 2) := by decide +kernel
theorem dX0_countAll_13 : decode cX0_countAll 13 = .ok (.if_icmp .ge 22, 3) := by decide +kernel
theorem dX0_countAll_16 : decode cX0_countAll 16 = .ok (.aload_n 0, 1) := by decide +kernel
theorem dX0_countAll_17 : decode cX0_countAll 17 = .ok (.iload_n 2, 1) := by decide +kernel
theorem dX0_countAll_18 : decode cX0_countAll 18 = .ok (.iload_n 3, 1) := by decide +kernel
theorem dX0_countAll_19 : decode cX0_countAll 19 = .ok (.aload_n 1, 1) := by decide +kernel
theorem dX0_countAll_20 : decode cX0_countAll 20 = .ok (.iload_n 2, 1) := by decide +kernel
theorem dX0_countAll_21 : decode cX0_countAll 21 = .ok (.iload_n 3, 1) := by decide +kernel
theorem dX0_countAll_22 : decode cX0_countAll 22 = .ok (.invokevirtual 57, 3) := by decide +kernel
theorem dX0_countAll_25 : decode cX0_countAll 25 = .ok (.i2l, 1) := by decide +kernel
theorem dX0_countAll_26 : decode cX0_countAll 26 = .ok (.invokevirtual 91, 3) := by decide +kernel
theorem dX0_countAll_29 : decode cX0_countAll 29 = .ok (.iinc 3 1, 3) := by decide +kernel
theorem dX0_countAll_32 : decode cX0_countAll 32 = .ok (.goto (-22), 3) := by decide +kernel
theorem dX0_countAll_35 : decode cX0_countAll 35 = .ok (.iinc 2 1, 3) := by decide +kernel
theorem dX0_countAll_38 : decode cX0_countAll 38 = .ok (.goto (-36), 3) := by decide +kernel
theorem dX0_countAll_41 : decode cX0_countAll 41 = .ok (.return_, 1) := by decide +kernel
theorem dX0_countBehind_0 : decode cX0_countBehind 0 = .ok (.iconst 0, 1) := by decide +kernel
theorem dX0_countBehind_1 : decode cX0_countBehind 1 = .ok (.istore_n 3, 1) := by decide +kernel
theorem dX0_countBehind_2 : decode cX0_countBehind 2 = .ok (.iload_n 3, 1) := by decide +kernel
theorem dX0_countBehind_3 : decode cX0_countBehind 3 = .ok (.bipush 32, 2) := by decide +kernel
theorem dX0_countBehind_5 : decode cX0_countBehind 5 = .ok (.if_icmp .ge 62, 3) := by decide +kernel
theorem dX0_countBehind_8 : decode cX0_countBehind 8 = .ok (.iconst 0, 1) := by decide +kernel
theorem dX0_countBehind_9 : decode cX0_countBehind 9 = .ok (.istore 4, 2) := by decide +kernel
theorem dX0_countBehind_11 : decode cX0_countBehind 11 = .ok (.iload 4, 2) := by decide +kernel
theorem dX0_countBehind_13 : decode cX0_countBehind 13 = .ok (.bipush 32, 2) := by decide +kernel
theorem dX0_countBehind_15 : decode cX0_countBehind 15 = .ok (.if_icmp .ge 46, 3) := by decide +kernel
theorem dX0_countBehind_18 : decode cX0_countBehind 18 = .ok (.aload_n 1, 1) := by decide +kernel
theorem dX0_countBehind_19 : decode cX0_countBehind 19 = .ok (.iload_n 3, 1) := by decide +kernel
theorem dX0_countBehind_20 : decode cX0_countBehind 20 = .ok (.iload 4, 2) := by decide +kernel
theorem dX0_countBehind_22 : decode cX0_countBehind 22 = .ok (.invokevirtual 57, 3) := by decide +kernel
theorem dX0_countBehind_25 : decode cX0_countBehind 25 = .ok (.i2l, 1) := by decide +kernel
theorem dX0_countBehind_26 : decode cX0_countBehind 26 = .ok (.lstore 5, 2) := by decide +kernel
theorem dX0_countBehind_28 : decode cX0_countBehind 28 = .ok (.lload 5, 2) := by decide +kernel
theorem dX0_countBehind_30 : decode cX0_countBehind 30 = .ok (.lconst 0, 1) := by decide +kernel
theorem dX0_countBehind_31 : decode cX0_countBehind 31 = .ok (.lcmp, 1) := by decide +kernel
theorem dX0_countBehind_32 : decode cX0_countBehind 32 = .ok (.ifCond .eq 23, 3) := by decide +kernel
theorem dX0_countBehind_35 : decode cX0_countBehind 35 = .ok (.aload_n 2, 1) := by decide +kernel
theorem dX0_countBehind_36 : decode cX0_countBehind 36 = .ok (.getfield 36, 3) := by decide +kernel
theorem dX0_countBehind_39 : decode cX0_countBehind 39 = .ok (.iload 4, 2) := by decide +kernel
theorem dX0_countBehind_41 : decode cX0_countBehind 41 = .ok (.iaload, 1) := by decide +kernel
theorem dX0_countBehind_42 : decode cX0_countBehind 42 = .ok (.ifCond .eq 13, 3) := by decide +kernel
theorem dX0_countBehind_45 : decode cX0_countBehind 45 = .ok (.aload_n 0, 1) := by decide +kernel
theorem dX0_countBehind_46 : decode cX0_countBehind 46 = .ok (.iload_n 3, 1) := by decide +kernel
theorem dX0_countBehind_47 : decode cX0_countBehind 47 = .ok (.lload 5, 2) := by decide +kernel
theorem dX0_countBehind_49 : decode cX0_countBehind 49 = .ok (.aload_n 2, 1) := by decide +kernel
theorem dX0_countBehind_50 : decode cX0_countBehind 50 = .ok (.iload 4, 2) := by decide +kernel
theorem dX0_countBehind_52 : decode cX0_countBehind 52 = .ok (.invokevirtual 111, 3) := by decide +kernel
theorem dX0_countBehind_55 : decode cX0_countBehind 55 = .ok (.iinc 4 1, 3) := by decide +kernel
theorem dX0_countBehind_58 : decode cX0_countBehind 58 = .ok (.goto (-47), 3) := by decide +kernel
theorem dX0_countBehind_61 : decode cX0_countBehind 61 = .ok (.iinc 3 1, 3) := by decide +kernel
theorem dX0_countBehind_64 : decode cX0_countBehind 64 = .ok (.goto (-62), 3) := by decide +kernel
theorem dX0_countBehind_67 : decode cX0_countBehind 67 = .ok (.return_, 1) := by decide +kernel
theorem dX0_addBehind_0 : decode cX0_addBehind 0 = .ok (.iconst 0, 1) := by decide +kernel
theorem dX0_addBehind_1 : decode cX0_addBehind 1 = .ok (.istore 6, 2) := by decide +kernel
theorem dX0_addBehind_3 : decode cX0_addBehind 3 = .ok (.iload 6, 2) := by decide +kernel
theorem dX0_addBehind_5 : decode cX0_addBehind 5 = .ok (.bipush 32, 2) := by decide +kernel
theorem dX0_addBehind_7 : decode cX0_addBehind 7 = .ok (.if_icmp .ge 28, 3) := by decide +kernel
theorem dX0_addBehind_10 : decode cX0_addBehind 10 = .ok (.aload_n 0, 1) := by decide +kernel
theorem dX0_addBehind_11 : decode cX0_addBehind 11 = .ok (.iload_n 1, 1) := by decide +kernel
theorem dX0_addBehind_12 : decode cX0_addBehind 12 = .ok (.iload 6, 2) := by decide +kernel
theorem dX0_addBehind_14 : decode cX0_addBehind 14 = .ok (.lload_n 2, 1) := by decide +kernel
theorem dX0_addBehind_15 : decode cX0_addBehind 15 = .ok (.aload 4, 2) := by decide +kernel
theorem dX0_addBehind_17 : decode cX0_addBehind 17 = .ok (.iload 5, 2) := by decide +kernel
theorem dX0_addBehind_19 : decode cX0_addBehind 19 = .ok (.iload 6, 2) := by decide +kernel
theorem dX0_addBehind_21 : decode cX0_addBehind 21 = .ok (.invokevirtual 57, 3) := by decide +kernel
theorem dX0_addBehind_24 : decode cX0_addBehind 24 = .ok (.i2l, 1) := by decide +kernel
theorem dX0_addBehind_25 : decode cX0_addBehind 25 = .ok (.lmul, 1) := by decide +kernel
theorem dX0_addBehind_26 : decode cX0_addBehind 26 = .ok (.invokevirtual 91, 3) := by decide +kernel
theorem dX0_addBehind_29 : decode cX0_addBehind 29 = .ok (.iinc 6 1, 3) := by decide +kernel
theorem dX0_addBehind_32 : decode cX0_addBehind 32 = .ok (.goto (-29), 3) := by decide +kernel
theorem dX0_addBehind_35 : decode cX0_addBehind 35 = .ok (.return_, 1) := by decide +kernel
theorem dX0_joinByStep_0 : decode cX0_joinByStep 0 = .ok (.iconst 0, 1) := by decide +kernel
theorem dX0_joinByStep_1 : decode cX0_joinByStep 1 = .ok (.istore_n 3, 1) := by decide +kernel
theorem dX0_joinByStep_2 : decode cX0_joinByStep 2 = .ok (.iload_n 3, 1) := by decide +kernel
theorem dX0_joinByStep_3 : decode cX0_joinByStep 3 = .ok (.bipush 32, 2) := by decide +kernel
theorem dX0_joinByStep_5 : decode cX0_joinByStep 5 = .ok (.if_icmp .ge 21, 3) := by decide +kernel
theorem dX0_joinByStep_8 : decode cX0_joinByStep 8 = .ok (.aload_n 0, 1) := by decide +kernel
theorem dX0_joinByStep_9 : decode cX0_joinByStep 9 = .ok (.getfield 36, 3) := by decide +kernel
theorem dX0_joinByStep_12 : decode cX0_joinByStep 12 = .ok (.iload_n 3, 1) := by decide +kernel
theorem dX0_joinByStep_13 : decode cX0_joinByStep 13 = .ok (.aload_n 1, 1) := by decide +kernel
theorem dX0_joinByStep_14 : decode cX0_joinByStep 14 = .ok (.getfield 36, 3) := by decide +kernel
theorem dX0_joinByStep_17 : decode cX0_joinByStep 17 = .ok (.iload_n 3, 1) := by decide +kernel
theorem dX0_joinByStep_18 : decode cX0_joinByStep 18 = .ok (.iaload, 1) := by decide +kernel
theorem dX0_joinByStep_19 : decode cX0_joinByStep 19 = .ok (.iastore, 1) := by decide +kernel
theorem dX0_joinByStep_20 : decode cX0_joinByStep 20 = .ok (.iinc 3 1, 3) := by decide +kernel
theorem dX0_joinByStep_23 : decode cX0_joinByStep 23 = .ok (.goto (-21), 3) := by decide +kernel
theorem dX0_joinByStep_26 : decode cX0_joinByStep 26 = .ok (.aload_n 0, 1) := by decide +kernel
theorem dX0_joinByStep_27 : decode cX0_joinByStep 27 = .ok (.invokevirtual 115, 3) := by decide +kernel
theorem dX0_joinByStep_30 : decode cX0_joinByStep 30 = .ok (.ifCond .eq 7, 3) := by decide +kernel
theorem dX0_joinByStep_33 : decode cX0_joinByStep 33 = .ok (.aload_n 0, 1) := by decide +kernel
theorem dX0_joinByStep_34 : decode cX0_joinByStep 34 = .ok (.invokevirtual 119, 3) := by decide +kernel
theorem dX0_joinByStep_37 : decode cX0_joinByStep 37 = .ok (.aload_n 0, 1) := by decide +kernel
theorem dX0_joinByStep_38 : decode cX0_joinByStep 38 = .ok (.getfield 15, 3) := by decide +kernel
theorem dX0_joinByStep_41 : decode cX0_joinByStep 41 = .ok (.iconst 5, 1) := by decide +kernel
theorem dX0_joinByStep_42 : decode cX0_joinByStep 42 = .ok (.if_icmp .eq 8, 3) := by decide +kernel
theorem dX0_joinByStep_45 : decode cX0_joinByStep 45 = .ok (.aload_n 0, 1) := by decide +kernel
theorem dX0_joinByStep_46 : decode cX0_joinByStep 46 = .ok (.iload_n 2, 1) := by decide +kernel
theorem dX0_joinByStep_47 : decode cX0_joinByStep 47 = .ok (.invokevirtual 122, 3) := by decide +kernel
theorem dX0_joinByStep_50 : decode cX0_joinByStep 50 = .ok (.return_, 1) := by decide +kernel
theorem dX0_joinOnwards_0 : decode cX0_joinOnwards 0 = .ok (.iconst 0, 1) := by decide +kernel
theorem dX0_joinOnwards_1 : decode cX0_joinOnwards 1 = .ok (.istore_n 1, 1) := by decide +kernel
theorem dX0_joinOnwards_2 : decode cX0_joinOnwards 2 = .ok (.iload_n 1, 1) := by decide +kernel
theorem dX0_joinOnwards_3 : decode cX0_joinOnwards 3 = .ok (.bipush 32, 2) := by decide +kernel
theorem dX0_joinOnwards_5 : decode cX0_joinOnwards 5 = .ok (.if_icmp .ge 51, 3) := by decide +kernel
theorem dX0_joinOnwards_8 : decode cX0_joinOnwards 8 = .ok (.iconst 0, 1) := by decide +kernel
theorem dX0_joinOnwards_9 : decode cX0_joinOnwards 9 = .ok (.istore_n 2, 1) := by decide +kernel
theorem dX0_joinOnwards_10 : decode cX0_joinOnwards 10 = .ok (.iload_n 2, 1) := by decide +kernel
theorem dX0_joinOnwards_11 : decode cX0_joinOnwards 11 = .ok (.bipush 32, 2) := by decide +kernel
theorem dX0_joinOnwards_13 : decode cX0_joinOnwards 13 = .ok (.if_icmp .ge 37, 3) := by decide +kernel
theorem dX0_joinOnwards_16 : decode cX0_joinOnwards 16 = .ok (.aload_n 0, 1) := by decide +kernel
theorem dX0_joinOnwards_17 : decode cX0_joinOnwards 17 = .ok (.getfield 36, 3) := by decide +kernel
theorem dX0_joinOnwards_20 : decode cX0_joinOnwards 20 = .ok (.iload_n 2, 1) := by decide +kernel
theorem dX0_joinOnwards_21 : decode cX0_joinOnwards 21 = .ok (.iaload, 1) := by decide +kernel
theorem dX0_joinOnwards_22 : decode cX0_joinOnwards 22 = .ok (.iload_n 1, 1) := by decide +kernel
theorem dX0_joinOnwards_23 : decode cX0_joinOnwards 23 = .ok (.invokestatic 126, 3) := by decide +kernel
theorem dX0_joinOnwards_26 : decode cX0_joinOnwards 26 = .ok (.ifCond .eq 18, 3) := by decide +kernel
theorem dX0_joinOnwards_29 : decode cX0_joinOnwards 29 = .ok (.aload_n 0, 1) := by decide +kernel
theorem dX0_joinOnwards_30 : decode cX0_joinOnwards 30 = .ok (.getfield 36, 3) := by decide +kernel
theorem dX0_joinOnwards_33 : decode cX0_joinOnwards 33 = .ok (.iload_n 2, 1) := by decide +kernel
theorem dX0_joinOnwards_34 : decode cX0_joinOnwards 34 = .ok (.dup2, 1) := by decide +kernel
theorem dX0_joinOnwards_35 : decode cX0_joinOnwards 35 = .ok (.iaload, 1) := by decide +kernel
theorem dX0_joinOnwards_36 : decode cX0_joinOnwards 36 = .ok (.aload_n 0, 1) := by decide +kernel
theorem dX0_joinOnwards_37 : decode cX0_joinOnwards 37 = .ok (.getfield 36, 3) := by decide +kernel
theorem dX0_joinOnwards_40 : decode cX0_joinOnwards 40 = .ok (.iload_n 1, 1) := by decide +kernel
theorem dX0_joinOnwards_41 : decode cX0_joinOnwards 41 = .ok (.iaload, 1) := by decide +kernel
theorem dX0_joinOnwards_42 : decode cX0_joinOnwards 42 = .ok (.ior, 1) := by decide +kernel
theorem dX0_joinOnwards_43 : decode cX0_joinOnwards 43 = .ok (.iastore, 1) := by decide +kernel
theorem dX0_joinOnwards_44 : decode cX0_joinOnwards 44 = .ok (.iinc 2 1, 3) := by decide +kernel
theorem dX0_joinOnwards_47 : decode cX0_joinOnwards 47 = .ok (.goto (-37), 3) := by decide +kernel
theorem dX0_joinOnwards_50 : decode cX0_joinOnwards 50 = .ok (.iinc 1 1, 3) := by decide +kernel
theorem dX0_joinOnwards_53 : decode cX0_joinOnwards 53 = .ok (.goto (-51), 3) := by decide +kernel
theorem dX0_joinOnwards_56 : decode cX0_joinOnwards 56 = .ok (.return_, 1) := by decide +kernel
theorem dX0_joinSelves_0 : decode cX0_joinSelves 0 = .ok (.iconst 0, 1) := by decide +kernel
theorem dX0_joinSelves_1 : decode cX0_joinSelves 1 = .ok (.istore_n 2, 1) := by decide +kernel
theorem dX0_joinSelves_2 : decode cX0_joinSelves 2 = .ok (.iload_n 2, 1) := by decide +kernel
theorem dX0_joinSelves_3 : decode cX0_joinSelves 3 = .ok (.bipush 32, 2) := by decide +kernel
theorem dX0_joinSelves_5 : decode cX0_joinSelves 5 = .ok (.if_icmp .ge 23, 3) := by decide +kernel
theorem dX0_joinSelves_8 : decode cX0_joinSelves 8 = .ok (.aload_n 0, 1) := by decide +kernel
theorem dX0_joinSelves_9 : decode cX0_joinSelves 9 = .ok (.getfield 36, 3) := by decide +kernel
theorem dX0_joinSelves_12 : decode cX0_joinSelves 12 = .ok (.iload_n 2, 1) := by decide +kernel
theorem dX0_joinSelves_13 : decode cX0_joinSelves 13 = .ok (.dup2, 1) := by decide +kernel
theorem dX0_joinSelves_14 : decode cX0_joinSelves 14 = .ok (.iaload, 1) := by decide +kernel
theorem dX0_joinSelves_15 : decode cX0_joinSelves 15 = .ok (.iload_n 1, 1) := by decide +kernel
theorem dX0_joinSelves_16 : decode cX0_joinSelves 16 = .ok (.iconst 1, 1) := by decide +kernel
theorem dX0_joinSelves_17 : decode cX0_joinSelves 17 = .ok (.iload_n 2, 1) := by decide +kernel
theorem dX0_joinSelves_18 : decode cX0_joinSelves 18 = .ok (.ishl, 1) := by decide +kernel
theorem dX0_joinSelves_19 : decode cX0_joinSelves 19 = .ok (.iand, 1) := by decide +kernel
theorem dX0_joinSelves_20 : decode cX0_joinSelves 20 = .ok (.ior, 1) := by decide +kernel
theorem dX0_joinSelves_21 : decode cX0_joinSelves 21 = .ok (.iastore, 1) := by decide +kernel
theorem dX0_joinSelves_22 : decode cX0_joinSelves 22 = .ok (.iinc 2 1, 3) := by decide +kernel
theorem dX0_joinSelves_25 : decode cX0_joinSelves 25 = .ok (.goto (-23), 3) := by decide +kernel
theorem dX0_joinSelves_28 : decode cX0_joinSelves 28 = .ok (.return_, 1) := by decide +kernel
theorem dX0_countJoinedOnce_0 : decode cX0_countJoinedOnce 0 = .ok (.iconst 0, 1) := by decide +kernel
theorem dX0_countJoinedOnce_1 : decode cX0_countJoinedOnce 1 = .ok (.istore_n 1, 1) := by decide +kernel
theorem dX0_countJoinedOnce_2 : decode cX0_countJoinedOnce 2 = .ok (.iload_n 1, 1) := by decide +kernel
theorem dX0_countJoinedOnce_3 : decode cX0_countJoinedOnce 3 = .ok (.bipush 32, 2) := by decide +kernel
theorem dX0_countJoinedOnce_5 : decode cX0_countJoinedOnce 5 = .ok (.if_icmp .ge 44, 3) := by decide +kernel
theorem dX0_countJoinedOnce_8 : decode cX0_countJoinedOnce 8 = .ok (.iconst 0, 1) := by decide +kernel
theorem dX0_countJoinedOnce_9 : decode cX0_countJoinedOnce 9 = .ok (.istore_n 2, 1) := by decide +kernel
theorem dX0_countJoinedOnce_10 : decode cX0_countJoinedOnce 10 = .ok (.iload_n 2, 1) := by decide +kernel
theorem dX0_countJoinedOnce_11 : decode cX0_countJoinedOnce 11 = .ok (.bipush 32, 2) := by decide +kernel
theorem dX0_countJoinedOnce_13 : decode cX0_countJoinedOnce 13 = .ok (.if_icmp .ge 30, 3) := by decide +kernel
theorem dX0_countJoinedOnce_16 : decode cX0_countJoinedOnce 16 = .ok (.aload_n 0, 1) := by decide +kernel
theorem dX0_countJoinedOnce_17 : decode cX0_countJoinedOnce 17 = .ok (.getfield 32, 3) := by decide +kernel
theorem dX0_countJoinedOnce_20 : decode cX0_countJoinedOnce 20 = .ok (.iload_n 1, 1) := by decide +kernel
theorem dX0_countJoinedOnce_21 : decode cX0_countJoinedOnce 21 = .ok (.bipush 32, 2) := by decide +kernel
theorem dX0_countJoinedOnce_23 : decode cX0_countJoinedOnce 23 = .ok (.imul, 1) := by decide +kernel
theorem dX0_countJoinedOnce_24 : decode cX0_countJoinedOnce 24 = .ok (.iload_n 2, 1) := by decide +kernel
theorem dX0_countJoinedOnce_25 : decode cX0_countJoinedOnce 25 = .ok (.iadd, 1) := by decide +kernel
theorem dX0_countJoinedOnce_26 : decode cX0_countJoinedOnce 26 = .ok (.aload_n 0, 1) := by decide +kernel
theorem dX0_countJoinedOnce_27 : decode cX0_countJoinedOnce 27 = .ok (.getfield 36, 3) := by decide +kernel
theorem dX0_countJoinedOnce_30 : decode cX0_countJoinedOnce 30 = .ok (.iload_n 1, 1) := by decide +kernel
theorem dX0_countJoinedOnce_31 : decode cX0_countJoinedOnce 31 = .ok (.iaload, 1) := by decide +kernel
theorem dX0_countJoinedOnce_32 : decode cX0_countJoinedOnce 32 = .ok (.iload_n 2, 1) := by decide +kernel
theorem dX0_countJoinedOnce_33 : decode cX0_countJoinedOnce 33 = .ok (.iushr, 1) := by decide +kernel
theorem dX0_countJoinedOnce_34 : decode cX0_countJoinedOnce 34 = .ok (.iconst 1, 1) := by decide +kernel
theorem dX0_countJoinedOnce_35 : decode cX0_countJoinedOnce 35 = .ok (.iand, 1) := by decide +kernel
theorem dX0_countJoinedOnce_36 : decode cX0_countJoinedOnce 36 = .ok (.iastore, 1) := by decide +kernel
theorem dX0_countJoinedOnce_37 : decode cX0_countJoinedOnce 37 = .ok (.iinc 2 1, 3) := by decide +kernel
theorem dX0_countJoinedOnce_40 : decode cX0_countJoinedOnce 40 = .ok (.goto (-30), 3) := by decide +kernel
theorem dX0_countJoinedOnce_43 : decode cX0_countJoinedOnce 43 = .ok (.iinc 1 1, 3) := by decide +kernel
theorem dX0_countJoinedOnce_46 : decode cX0_countJoinedOnce 46 = .ok (.goto (-44), 3) := by decide +kernel
theorem dX0_countJoinedOnce_49 : decode cX0_countJoinedOnce 49 = .ok (.return_, 1) := by decide +kernel
theorem dX0_measure_0 : decode cX0_measure 0 = .ok (.iconst 0, 1) := by decide +kernel
theorem dX0_measure_1 : decode cX0_measure 1 = .ok (.istore_n 3, 1) := by decide +kernel
theorem dX0_measure_2 : decode cX0_measure 2 = .ok (.iload_n 3, 1) := by decide +kernel
theorem dX0_measure_3 : decode cX0_measure 3 = .ok (.bipush 32, 2) := by decide +kernel
theorem dX0_measure_5 : decode cX0_measure 5 = .ok (.if_icmp .ge 13, 3) := by decide +kernel
theorem dX0_measure_8 : decode cX0_measure 8 = .ok (.aload_n 2, 1) := by decide +kernel
theorem dX0_measure_9 : decode cX0_measure 9 = .ok (.iload_n 3, 1) := by decide +kernel
theorem dX0_measure_10 : decode cX0_measure 10 = .ok (.iconst 1, 1) := by decide +kernel
theorem dX0_measure_11 : decode cX0_measure 11 = .ok (.iastore, 1) := by decide +kernel
theorem dX0_measure_12 : decode cX0_measure 12 = .ok (.iinc 3 1, 3) := by decide +kernel
theorem dX0_measure_15 : decode cX0_measure 15 = .ok (.goto (-13), 3) := by decide +kernel
theorem dX0_measure_18 : decode cX0_measure 18 = .ok (.aload_n 0, 1) := by decide +kernel
theorem dX0_measure_19 : decode cX0_measure 19 = .ok (.getfield 21, 3) := by decide +kernel
theorem dX0_measure_22 : decode cX0_measure 22 = .ok (.ifnull 19, 3) := by decide +kernel
theorem dX0_measure_25 : decode cX0_measure 25 = .ok (.aload_n 0, 1) := by decide +kernel
theorem dX0_measure_26 : decode cX0_measure 26 = .ok (.invokevirtual 115, 3) := by decide +kernel
theorem dX0_measure_29 : decode cX0_measure 29 = .ok (.ifCond .eq 12, 3) := by decide +kernel
theorem dX0_measure_32 : decode cX0_measure 32 = .ok (.aload_n 0, 1) := by decide +kernel
theorem dX0_measure_33 : decode cX0_measure 33 = .ok (.getfield 21, 3) := by decide +kernel
theorem dX0_measure_36 : decode cX0_measure 36 = .ok (.iload_n 1, 1) := by decide +kernel
theorem dX0_measure_37 : decode cX0_measure 37 = .ok (.aload_n 2, 1) := by decide +kernel
theorem dX0_measure_38 : decode cX0_measure 38 = .ok (.invokestatic 130, 3) := by decide +kernel
theorem dX0_measure_41 : decode cX0_measure 41 = .ok (.aload_n 0, 1) := by decide +kernel
theorem dX0_measure_42 : decode cX0_measure 42 = .ok (.getfield 15, 3) := by decide +kernel
theorem dX0_measure_45 : decode cX0_measure 45 = .ok (.iconst 4, 1) := by decide +kernel
theorem dX0_measure_46 : decode cX0_measure 46 = .ok (.if_icmp .eq 12, 3) := by decide +kernel
theorem dX0_measure_49 : decode cX0_measure 49 = .ok (.aload_n 0, 1) := by decide +kernel
theorem dX0_measure_50 : decode cX0_measure 50 = .ok (.getfield 15, 3) := by decide +kernel
theorem dX0_measure_53 : decode cX0_measure 53 = .ok (.bipush 6, 2) := by decide +kernel
theorem dX0_measure_55 : decode cX0_measure 55 = .ok (.if_icmp .ne 7, 3) := by decide +kernel
theorem dX0_measure_58 : decode cX0_measure 58 = .ok (.aload_n 2, 1) := by decide +kernel
theorem dX0_measure_59 : decode cX0_measure 59 = .ok (.iload_n 1, 1) := by decide +kernel
theorem dX0_measure_60 : decode cX0_measure 60 = .ok (.iconst 0, 1) := by decide +kernel
theorem dX0_measure_61 : decode cX0_measure 61 = .ok (.iastore, 1) := by decide +kernel
theorem dX0_measure_62 : decode cX0_measure 62 = .ok (.return_, 1) := by decide +kernel
theorem dX0_measureWalk_0 : decode cX0_measureWalk 0 = .ok (.iconst 0, 1) := by decide +kernel
theorem dX0_measureWalk_1 : decode cX0_measureWalk 1 = .ok (.istore_n 3, 1) := by decide +kernel
theorem dX0_measureWalk_2 : decode cX0_measureWalk 2 = .ok (.aload_n 0, 1) := by decide +kernel
theorem dX0_measureWalk_3 : decode cX0_measureWalk 3 = .ok (.getfield 36, 3) := by decide +kernel
theorem dX0_measureWalk_6 : decode cX0_measureWalk 6 = .ok (.iload_n 1, 1) := by decide +kernel
theorem dX0_measureWalk_7 : decode cX0_measureWalk 7 = .ok (.iaload, 1) := by decide +kernel
theorem dX0_measureWalk_8 : decode cX0_measureWalk 8 = .ok (.istore 4, 2) := by decide +kernel
theorem dX0_measureWalk_10 : decode cX0_measureWalk 10 = .ok (.iconst 1, 1) := by decide +kernel
theorem dX0_measureWalk_11 : decode cX0_measureWalk 11 = .ok (.istore 5, 2) := by decide +kernel
theorem dX0_measureWalk_13 : decode cX0_measureWalk 13 = .ok (.iload 5, 2) := by decide +kernel
theorem dX0_measureWalk_15 : decode cX0_measureWalk 15 = .ok (.bipush 32, 2) := by decide +kernel
theorem dX0_measureWalk_17 : decode cX0_measureWalk 17 = .ok (.if_icmp .gt 74, 3) := by decide +kernel
theorem dX0_measureWalk_20 : decode cX0_measureWalk 20 = .ok (.iload 4, 2) := by decide +kernel
theorem dX0_measureWalk_22 : decode cX0_measureWalk 22 = .ok (.ifCond .eq 69, 3) := by decide +kernel
theorem dX0_measureWalk_25 : decode cX0_measureWalk 25 = .ok (.iconst 0, 1) := by decide +kernel
theorem dX0_measureWalk_26 : decode cX0_measureWalk 26 = .ok (.istore 6, 2) := by decide +kernel
theorem dX0_measureWalk_28 : decode cX0_measureWalk 28 = .ok (.iconst 0, 1) := by decide +kernel
theorem dX0_measureWalk_29 : decode cX0_measureWalk 29 = .ok (.istore 7, 2) := by decide +kernel
theorem dX0_measureWalk_31 : decode cX0_measureWalk 31 = .ok (.iload 7, 2) := by decide +kernel
theorem dX0_measureWalk_33 : decode cX0_measureWalk 33 = .ok (.bipush 32, 2) := by decide +kernel
theorem dX0_measureWalk_35 : decode cX0_measureWalk 35 = .ok (.if_icmp .ge 37, 3) := by decide +kernel
theorem dX0_measureWalk_38 : decode cX0_measureWalk 38 = .ok (.iload 4, 2) := by decide +kernel
theorem dX0_measureWalk_40 : decode cX0_measureWalk 40 = .ok (.iload 7, 2) := by decide +kernel
theorem dX0_measureWalk_42 : decode cX0_measureWalk 42 = .ok (.invokestatic 126, 3) := by decide +kernel
theorem dX0_measureWalk_45 : decode cX0_measureWalk 45 = .ok (.ifCond .eq 21, 3) := by decide +kernel
theorem dX0_measureWalk_48 : decode cX0_measureWalk 48 = .ok (.aload_n 2, 1) := by decide +kernel
theorem dX0_measureWalk_49 : decode cX0_measureWalk 49 = .ok (.iload 7, 2) := by decide +kernel
theorem dX0_measureWalk_51 : decode cX0_measureWalk 51 = .ok (.iload 5, 2) := by decide +kernel
theorem dX0_measureWalk_53 : decode cX0_measureWalk 53 = .ok (.iastore, 1) := by decide +kernel
theorem dX0_measureWalk_54 : decode cX0_measureWalk 54 = .ok (.iload 6, 2) := by decide +kernel
theorem dX0_measureWalk_56 : decode cX0_measureWalk 56 = .ok (.aload_n 0, 1) := by decide +kernel
theorem dX0_measureWalk_57 : decode cX0_measureWalk 57 = .ok (.getfield 36, 3) := by decide +kernel
theorem dX0_measureWalk_60 : decode cX0_measureWalk 60 = .ok (.iload 7, 2) := by decide +kernel
theorem dX0_measureWalk_62 : decode cX0_measureWalk 62 = .ok (.iaload, 1) := by decide +kernel
theorem dX0_measureWalk_63 : decode cX0_measureWalk 63 = .ok (.ior, 1) := by decide +kernel
theorem dX0_measureWalk_64 : decode cX0_measureWalk 64 = .ok (.istore 6, 2) := by decide +kernel
theorem dX0_measureWalk_66 : decode cX0_measureWalk 66 = .ok (.iinc 7 1, 3) := by decide +kernel
theorem dX0_measureWalk_69 : decode cX0_measureWalk 69 = .ok (.goto (-38), 3) := by decide +kernel
theorem dX0_measureWalk_72 : decode cX0_measureWalk 72 = .ok (.iload_n 3, 1) := by decide +kernel
theorem dX0_measureWalk_73 : decode cX0_measureWalk 73 = .ok (.iload 4, 2) := by decide +kernel
theorem dX0_measureWalk_75 : decode cX0_measureWalk 75 = .ok (.ior, 1) := by decide +kernel
theorem dX0_measureWalk_76 : decode cX0_measureWalk 76 = .ok (.istore_n 3, 1) := by decide +kernel
theorem dX0_measureWalk_77 : decode cX0_measureWalk 77 = .ok (.iload 6, 2) := by decide +kernel
theorem dX0_measureWalk_79 : decode cX0_measureWalk 79 = .ok (.iload_n 3, 1) := by decide +kernel
theorem dX0_measureWalk_80 : decode cX0_measureWalk 80 = .ok (.iconst (-1), 1) := by decide +kernel
theorem dX0_measureWalk_81 : decode cX0_measureWalk 81 = .ok (.ixor, 1) := by decide +kernel
theorem dX0_measureWalk_82 : decode cX0_measureWalk 82 = .ok (.iand, 1) := by decide +kernel
theorem dX0_measureWalk_83 : decode cX0_measureWalk 83 = .ok (.istore 4, 2) := by decide +kernel
theorem dX0_measureWalk_85 : decode cX0_measureWalk 85 = .ok (.iinc 5 1, 3) := by decide +kernel
theorem dX0_measureWalk_88 : decode cX0_measureWalk 88 = .ok (.goto (-75), 3) := by decide +kernel
theorem dX0_measureWalk_91 : decode cX0_measureWalk 91 = .ok (.return_, 1) := by decide +kernel
end
section
theorem dX1_init_0 : decode cX1_init 0 = .ok (.aload_n 0, 1) := by decide +kernel
theorem dX1_init_1 : decode cX1_init 1 = .ok (.invokespecial 3, 3) := by decide +kernel
theorem dX1_init_4 : decode cX1_init 4 = .ok (.aload_n 0, 1) := by decide +kernel
theorem dX1_init_5 : decode cX1_init 5 = .ok (.sipush 2000, 3) := by decide +kernel
theorem dX1_init_8 : decode cX1_init 8 = .ok (.newarray .int, 2) := by decide +kernel
theorem dX1_init_10 : decode cX1_init 10 = .ok (.putfield 9, 3) := by decide +kernel
theorem dX1_init_13 : decode cX1_init 13 = .ok (.aload_n 0, 1) := by decide +kernel
theorem dX1_init_14 : decode cX1_init 14 = .ok (.sipush 2000, 3) := by decide +kernel
theorem dX1_init_17 : decode cX1_init 17 = .ok (.newarray .int, 2) := by decide +kernel
theorem dX1_init_19 : decode cX1_init 19 = .ok (.putfield 15, 3) := by decide +kernel
theorem dX1_init_22 : decode cX1_init 22 = .ok (.aload_n 0, 1) := by decide +kernel
theorem dX1_init_23 : decode cX1_init 23 = .ok (.sipush 2000, 3) := by decide +kernel
theorem dX1_init_26 : decode cX1_init 26 = .ok (.newarray .int, 2) := by decide +kernel
theorem dX1_init_28 : decode cX1_init 28 = .ok (.putfield 18, 3) := by decide +kernel
theorem dX1_init_31 : decode cX1_init 31 = .ok (.aload_n 0, 1) := by decide +kernel
theorem dX1_init_32 : decode cX1_init 32 = .ok (.iconst 0, 1) := by decide +kernel
theorem dX1_init_33 : decode cX1_init 33 = .ok (.putfield 21, 3) := by decide +kernel
theorem dX1_init_36 : decode cX1_init 36 = .ok (.aload_n 0, 1) := by decide +kernel
theorem dX1_init_37 : decode cX1_init 37 = .ok (.iconst 0, 1) := by decide +kernel
theorem dX1_init_38 : decode cX1_init 38 = .ok (.putfield 25, 3) := by decide +kernel
theorem dX1_init_41 : decode cX1_init 41 = .ok (.return_, 1) := by decide +kernel
theorem dX1_begin_0 : decode cX1_begin 0 = .ok (.aload_n 0, 1) := by decide +kernel
theorem dX1_begin_1 : decode cX1_begin 1 = .ok (.iconst 0, 1) := by decide +kernel
theorem dX1_begin_2 : decode cX1_begin 2 = .ok (.putfield 21, 3) := by decide +kernel
theorem dX1_begin_5 : decode cX1_begin 5 = .ok (.aload_n 0, 1) := by decide +kernel
theorem dX1_begin_6 : decode cX1_begin 6 = .ok (.iconst 1, 1) := by decide +kernel
theorem dX1_begin_7 : decode cX1_begin 7 = .ok (.putfield 25, 3) := by decide +kernel
theorem dX1_begin_10 : decode cX1_begin 10 = .ok (.return_, 1) := by decide +kernel
theorem dX1_add_0 : decode cX1_add 0 = .ok (.iconst 0, 1) := by decide +kernel
theorem dX1_add_1 : decode cX1_add 1 = .ok (.istore 5, 2) := by decide +kernel
theorem dX1_add_3 : decode cX1_add 3 = .ok (.iload 5, 2) := by decide +kernel
theorem dX1_add_5 : decode cX1_add 5 = .ok (.iload 4, 2) := by decide +kernel
theorem dX1_add_7 : decode cX1_add 7 = .ok (.if_icmp .ge 59, 3) := by decide +kernel
theorem dX1_add_10 : decode cX1_add 10 = .ok (.aload_n 0, 1) := by decide +kernel
theorem dX1_add_11 : decode cX1_add 11 = .ok (.getfield 21, 3) := by decide +kernel
theorem dX1_add_14 : decode cX1_add 14 = .ok (.sipush 2000, 3) := by decide +kernel
theorem dX1_add_17 : decode cX1_add 17 = .ok (.if_icmp .ge 49, 3) := by decide +kernel
theorem dX1_add_20 : decode cX1_add 20 = .ok (.aload_n 0, 1) := by decide +kernel
theorem dX1_add_21 : decode cX1_add 21 = .ok (.getfield 9, 3) := by decide +kernel
theorem dX1_add_24 : decode cX1_add 24 = .ok (.aload_n 0, 1) := by decide +kernel
theorem dX1_add_25 : decode cX1_add 25 = .ok (.getfield 21, 3) := by decide +kernel
theorem dX1_add_28 : decode cX1_add 28 = .ok (.iload_n 1, 1) := by decide +kernel
theorem dX1_add_29 : decode cX1_add 29 = .ok (.iastore, 1) := by decide +kernel
theorem dX1_add_30 : decode cX1_add 30 = .ok (.aload_n 0, 1) := by decide +kernel
theorem dX1_add_31 : decode cX1_add 31 = .ok (.getfield 15, 3) := by decide +kernel
theorem dX1_add_34 : decode cX1_add 34 = .ok (.aload_n 0, 1) := by decide +kernel
theorem dX1_add_35 : decode cX1_add 35 = .ok (.getfield 21, 3) := by decide +kernel
theorem dX1_add_38 : decode cX1_add 38 = .ok (.iload_n 2, 1) := by decide +kernel
theorem dX1_add_39 : decode cX1_add 39 = .ok (.iastore, 1) := by decide +kernel
theorem dX1_add_40 : decode cX1_add 40 = .ok (.aload_n 0, 1) := by decide +kernel
theorem dX1_add_41 : decode cX1_add 41 = .ok (.getfield 18, 3) := by decide +kernel
theorem dX1_add_44 : decode cX1_add 44 = .ok (.aload_n 0, 1) := by decide +kernel
theorem dX1_add_45 : decode cX1_add 45 = .ok (.getfield 21, 3) := by decide +kernel
theorem dX1_add_48 : decode cX1_add 48 = .ok (.iload_n 3, 1) := by decide +kernel
theorem dX1_add_49 : decode cX1_add 49 = .ok (.iastore, 1) := by decide +kernel
theorem dX1_add_50 : decode cX1_add 50 = .ok (.aload_n 0, 1) := by decide +kernel
theorem dX1_add_51 : decode cX1_add 51 = .ok (.dup, 1) := by decide +kernel
theorem dX1_add_52 : decode cX1_add 52 = .ok (.getfield 21, 3) := by decide +kernel
theorem dX1_add_55 : decode cX1_add 55 = .ok (.iconst 1, 1) := by decide +kernel
theorem dX1_add_56 : decode cX1_add 56 = .ok (.iadd, 1) := by decide +kernel
theorem dX1_add_57 : decode cX1_add 57 = .ok (.putfield 21, 3) := by decide +kernel
theorem dX1_add_60 : decode cX1_add 60 = .ok (.iinc 5 1, 3) := by decide +kernel
theorem dX1_add_63 : decode cX1_add 63 = .ok (.goto (-60), 3) := by decide +kernel
theorem dX1_add_66 : decode cX1_add 66 = .ok (.return_, 1) := by decide +kernel
theorem dX1_has_0 : decode cX1_has 0 = .ok (.iload_n 1, 1) := by decide +kernel
theorem dX1_has_1 : decode cX1_has 1 = .ok (.ifCond .lt 15, 3) := by decide +kernel
theorem dX1_has_4 : decode cX1_has 4 = .ok (.iload_n 1, 1) := by decide +kernel
theorem dX1_has_5 : decode cX1_has 5 = .ok (.aload_n 0, 1) := by decide +kernel
theorem dX1_has_6 : decode cX1_has 6 = .ok (.getfield 21, 3) := by decide +kernel
theorem dX1_has_9 : decode cX1_has 9 = .ok (.if_icmp .ge 7, 3) := by decide +kernel
theorem dX1_has_12 : decode cX1_has 12 = .ok (.iconst 1, 1) := by decide +kernel
theorem dX1_has_13 : decode cX1_has 13 = .ok (.goto 4, 3) := by decide +kernel
theorem dX1_has_16 : decode cX1_has 16 = .ok (.iconst 0, 1) := by decide +kernel
theorem dX1_has_17 : decode cX1_has 17 = .ok (.ireturn, 1) := by decide +kernel
theorem dX2_init_0 : decode cX2_init 0 = .ok (.aload_n 0, 1) := by decide +kernel
theorem dX2_init_1 : decode cX2_init 1 = .ok (.invokespecial 3, 3) := by decide +kernel
theorem dX2_init_4 : decode cX2_init 4 = .ok (.aload_n 0, 1) := by decide +kernel
theorem dX2_init_5 : decode cX2_init 5 = .ok (.sipush 1024, 3) := by decide +kernel
theorem dX2_init_8 : decode cX2_init 8 = .ok (.newarray .int, 2) := by decide +kernel
theorem dX2_init_10 : decode cX2_init 10 = .ok (.putfield 9, 3) := by decide +kernel
theorem dX2_init_13 : decode cX2_init 13 = .ok (.aload_n 0, 1) := by decide +kernel
theorem dX2_init_14 : decode cX2_init 14 = .ok (.iconst 0, 1) := by decide +kernel
theorem dX2_init_15 : decode cX2_init 15 = .ok (.putfield 15, 3) := by decide +kernel
theorem dX2_init_18 : decode cX2_init 18 = .ok (.aload_n 0, 1) := by decide +kernel
theorem dX2_init_19 : decode cX2_init 19 = .ok (.iconst 0, 1) := by decide +kernel
theorem dX2_init_20 : decode cX2_init 20 = .ok (.putfield 19, 3) := by decide +kernel
theorem dX2_init_23 : decode cX2_init 23 = .ok (.return_, 1) := by decide +kernel
theorem dX2_has_0 : decode cX2_has 0 = .ok (.aload_n 0, 1) := by decide +kernel
theorem dX2_has_1 : decode cX2_has 1 = .ok (.getfield 9, 3) := by decide +kernel
theorem dX2_has_4 : decode cX2_has 4 = .ok (.iload_n 1, 1) := by decide +kernel
theorem dX2_has_5 : decode cX2_has 5 = .ok (.bipush 32, 2) := by decide +kernel
theorem dX2_has_7 : decode cX2_has 7 = .ok (.imul, 1) := by decide +kernel
theorem dX2_has_8 : decode cX2_has 8 = .ok (.iload_n 3, 1) := by decide +kernel
theorem dX2_has_9 : decode cX2_has 9 = .ok (.iadd, 1) := by decide +kernel
theorem dX2_has_10 : decode cX2_has 10 = .ok (.iaload, 1) := by decide +kernel
theorem dX2_has_11 : decode cX2_has 11 = .ok (.iload_n 2, 1) := by decide +kernel
theorem dX2_has_12 : decode cX2_has 12 = .ok (.invokestatic 22, 3) := by decide +kernel
theorem dX2_has_15 : decode cX2_has 15 = .ok (.ireturn, 1) := by decide +kernel
theorem dX2_add_0 : decode cX2_add 0 = .ok (.aload_n 0, 1) := by decide +kernel
theorem dX2_add_1 : decode cX2_add 1 = .ok (.getfield 9, 3) := by decide +kernel
theorem dX2_add_4 : decode cX2_add 4 = .ok (.iload_n 1, 1) := by decide +kernel
theorem dX2_add_5 : decode cX2_add 5 = .ok (.bipush 32, 2) := by decide +kernel
theorem dX2_add_7 : decode cX2_add 7 = .ok (.imul, 1) := by decide +kernel
theorem dX2_add_8 : decode cX2_add 8 = .ok (.iload_n 3, 1) := by decide +kernel
theorem dX2_add_9 : decode cX2_add 9 = .ok (.iadd, 1) := by decide +kernel
theorem dX2_add_10 : decode cX2_add 10 = .ok (.dup2, 1) := by decide +kernel
theorem dX2_add_11 : decode cX2_add 11 = .ok (.iaload, 1) := by decide +kernel
theorem dX2_add_12 : decode cX2_add 12 = .ok (.iconst 1, 1) := by decide +kernel
theorem dX2_add_13 : decode cX2_add 13 = .ok (.iload_n 2, 1) := by decide +kernel
theorem dX2_add_14 : decode cX2_add 14 = .ok (.ishl, 1) := by decide +kernel
theorem dX2_add_15 : decode cX2_add 15 = .ok (.ior, 1) := by decide +kernel
theorem dX2_add_16 : decode cX2_add 16 = .ok (.iastore, 1) := by decide +kernel
theorem dX2_add_17 : decode cX2_add 17 = .ok (.aload_n 0, 1) := by decide +kernel
theorem dX2_add_18 : decode cX2_add 18 = .ok (.dup, 1) := by decide +kernel
theorem dX2_add_19 : decode cX2_add 19 = .ok (.getfield 15, 3) := by decide +kernel
theorem dX2_add_22 : decode cX2_add 22 = .ok (.iconst 1, 1) := by decide +kernel
theorem dX2_add_23 : decode cX2_add 23 = .ok (.iload_n 1, 1) := by decide +kernel
theorem dX2_add_24 : decode cX2_add 24 = .ok (.ishl, 1) := by decide +kernel
theorem dX2_add_25 : decode cX2_add 25 = .ok (.iconst 1, 1) := by decide +kernel
theorem dX2_add_26 : decode cX2_add 26 = .ok (.iload_n 3, 1) := by decide +kernel
theorem dX2_add_27 : decode cX2_add 27 = .ok (.ishl, 1) := by decide +kernel
theorem dX2_add_28 : decode cX2_add 28 = .ok (.ior, 1) := by decide +kernel
theorem dX2_add_29 : decode cX2_add 29 = .ok (.ior, 1) := by decide +kernel
theorem dX2_add_30 : decode cX2_add 30 = .ok (.putfield 15, 3) := by decide +kernel
theorem dX2_add_33 : decode cX2_add 33 = .ok (.aload_n 0, 1) := by decide +kernel
theorem dX2_add_34 : decode cX2_add 34 = .ok (.dup, 1) := by decide +kernel
theorem dX2_add_35 : decode cX2_add 35 = .ok (.getfield 19, 3) := by decide +kernel
theorem dX2_add_38 : decode cX2_add 38 = .ok (.iconst 1, 1) := by decide +kernel
theorem dX2_add_39 : decode cX2_add 39 = .ok (.iadd, 1) := by decide +kernel
theorem dX2_add_40 : decode cX2_add 40 = .ok (.putfield 19, 3) := by decide +kernel
theorem dX2_add_43 : decode cX2_add 43 = .ok (.return_, 1) := by decide +kernel
theorem dX2_countFrom_0 : decode cX2_countFrom 0 = .ok (.iconst 0, 1) := by decide +kernel
theorem dX2_countFrom_1 : decode cX2_countFrom 1 = .ok (.istore_n 2, 1) := by decide +kernel
theorem dX2_countFrom_2 : decode cX2_countFrom 2 = .ok (.iconst 0, 1) := by decide +kernel
theorem dX2_countFrom_3 : decode cX2_countFrom 3 = .ok (.istore_n 3, 1) := by decide +kernel
theorem dX2_countFrom_4 : decode cX2_countFrom 4 = .ok (.iload_n 3, 1) := by decide +kernel
theorem dX2_countFrom_5 : decode cX2_countFrom 5 = .ok (.bipush 32, 2) := by decide +kernel
theorem dX2_countFrom_7 : decode cX2_countFrom 7 = .ok (.if_icmp .ge 26, 3) := by decide +kernel
theorem dX2_countFrom_10 : decode cX2_countFrom 10 = .ok (.iload_n 2, 1) := by decide +kernel
theorem dX2_countFrom_11 : decode cX2_countFrom 11 = .ok (.aload_n 0, 1) := by decide +kernel
theorem dX2_countFrom_12 : decode cX2_countFrom 12 = .ok (.getfield 9, 3) := by decide +kernel
theorem dX2_countFrom_15 : decode cX2_countFrom 15 = .ok (.iload_n 1, 1) := by decide +kernel
theorem dX2_countFrom_16 : decode cX2_countFrom 16 = .ok (.bipush 32, 2) := by decide +kernel
theorem dX2_countFrom_18 : decode cX2_countFrom 18 = .ok (.imul, 1) := by decide +kernel
theorem dX2_countFrom_19 : decode cX2_countFrom 19 = .ok (.iload_n 3, 1) := by decide +kernel
theorem dX2_countFrom_20 : decode cX2_countFrom 20 = .ok (.iadd, 1) := by decide +kernel
theorem dX2_countFrom_21 : decode cX2_countFrom 21 = .ok (.iaload, 1) := by decide +kernel
theorem dX2_countFrom_22 : decode cX2_countFrom 22 = .ok (.invokestatic 26, 3) := by decide +kernel
theorem dX2_countFrom_25 : decode cX2_countFrom 25 = .ok (.iadd, 1) := by decide +kernel
theorem dX2_countFrom_26 : decode cX2_countFrom 26 = .ok (.istore_n 2, 1) := by decide +kernel
theorem dX2_countFrom_27 : decode cX2_countFrom 27 = .ok (.iinc 3 1, 3) := by decide +kernel
theorem dX2_countFrom_30 : decode cX2_countFrom 30 = .ok (.goto (-26), 3) := by decide +kernel
theorem dX2_countFrom_33 : decode cX2_countFrom 33 = .ok (.iload_n 2, 1) := by decide +kernel
theorem dX2_countFrom_34 : decode cX2_countFrom 34 = .ok (.ireturn, 1) := by decide +kernel
theorem dX3_init_0 : decode cX3_init 0 = .ok (.aload_n 0, 1) := by decide +kernel
theorem dX3_init_1 : decode cX3_init 1 = .ok (.invokespecial 3, 3) := by decide +kernel
theorem dX3_init_4 : decode cX3_init 4 = .ok (.aload_n 0, 1) := by decide +kernel
theorem dX3_init_5 : decode cX3_init 5 = .ok (.new 9, 3) := by decide +kernel
theorem dX3_init_8 : decode cX3_init 8 = .ok (.dup, 1) := by decide +kernel
theorem dX3_init_9 : decode cX3_init 9 = .ok (.invokespecial 11, 3) := by decide +kernel
theorem dX3_init_12 : decode cX3_init 12 = .ok (.putfield 12, 3) := by decide +kernel
theorem dX3_init_15 : decode cX3_init 15 = .ok (.aload_n 0, 1) := by decide +kernel
theorem dX3_init_16 : decode cX3_init 16 = .ok (.bipush 41, 2) := by decide +kernel
theorem dX3_init_18 : decode cX3_init 18 = .ok (.anewarray 16, 3) := by decide +kernel
theorem dX3_init_21 : decode cX3_init 21 = .ok (.putfield 18, 3) := by decide +kernel
theorem dX3_init_24 : decode cX3_init 24 = .ok (.aload_n 0, 1) := by decide +kernel
theorem dX3_init_25 : decode cX3_init 25 = .ok (.new 22, 3) := by decide +kernel
theorem dX3_init_28 : decode cX3_init 28 = .ok (.dup, 1) := by decide +kernel
theorem dX3_init_29 : decode cX3_init 29 = .ok (.invokespecial 24, 3) := by decide +kernel
theorem dX3_init_32 : decode cX3_init 32 = .ok (.putfield 25, 3) := by decide +kernel
theorem dX3_init_35 : decode cX3_init 35 = .ok (.aload_n 0, 1) := by decide +kernel
theorem dX3_init_36 : decode cX3_init 36 = .ok (.bipush 32, 2) := by decide +kernel
theorem dX3_init_38 : decode cX3_init 38 = .ok (.newarray .int, 2) := by decide +kernel
theorem dX3_init_40 : decode cX3_init 40 = .ok (.putfield 29, 3) := by decide +kernel
theorem dX3_init_43 : decode cX3_init 43 = .ok (.aload_n 0, 1) := by decide +kernel
theorem dX3_init_44 : decode cX3_init 44 = .ok (.iconst 0, 1) := by decide +kernel
theorem dX3_init_45 : decode cX3_init 45 = .ok (.putfield 33, 3) := by decide +kernel
theorem dX3_init_48 : decode cX3_init 48 = .ok (.aload_n 0, 1) := by decide +kernel
theorem dX3_init_49 : decode cX3_init 49 = .ok (.sipush 1024, 3) := by decide +kernel
theorem dX3_init_52 : decode cX3_init 52 = .ok (.putfield 37, 3) := by decide +kernel
theorem dX3_init_55 : decode cX3_init 55 = .ok (.return_, 1) := by decide +kernel
theorem dX3_triple_0 : decode cX3_triple 0 = .ok (.iload_n 1, 1) := by decide +kernel
theorem dX3_triple_1 : decode cX3_triple 1 = .ok (.invokestatic 40, 3) := by decide +kernel
theorem dX3_triple_4 : decode cX3_triple 4 = .ok (.ifCond .eq 17, 3) := by decide +kernel
theorem dX3_triple_7 : decode cX3_triple 7 = .ok (.iload_n 2, 1) := by decide +kernel
theorem dX3_triple_8 : decode cX3_triple 8 = .ok (.invokestatic 44, 3) := by decide +kernel
theorem dX3_triple_11 : decode cX3_triple 11 = .ok (.ifCond .eq 10, 3) := by decide +kernel
theorem dX3_triple_14 : decode cX3_triple 14 = .ok (.iload_n 3, 1) := by decide +kernel
theorem dX3_triple_15 : decode cX3_triple 15 = .ok (.invokestatic 40, 3) := by decide +kernel
theorem dX3_triple_18 : decode cX3_triple 18 = .ok (.ifCond .ne 6, 3) := by decide +kernel
theorem dX3_triple_21 : decode cX3_triple 21 = .ok (.bipush (-2), 2) := by decide +kernel
theorem dX3_triple_23 : decode cX3_triple 23 = .ok (.ireturn, 1) := by decide +kernel
theorem dX3_triple_24 : decode cX3_triple 24 = .ok (.aload_n 0, 1) := by decide +kernel
theorem dX3_triple_25 : decode cX3_triple 25 = .ok (.getfield 12, 3) := by decide +kernel
theorem dX3_triple_28 : decode cX3_triple 28 = .ok (.iload_n 1, 1) := by decide +kernel
theorem dX3_triple_29 : decode cX3_triple 29 = .ok (.iload_n 2, 1) := by decide +kernel
theorem dX3_triple_30 : decode cX3_triple 30 = .ok (.iload_n 3, 1) := by decide +kernel
theorem dX3_triple_31 : decode cX3_triple 31 = .ok (.invokevirtual 47, 3) := by decide +kernel
theorem dX3_triple_34 : decode cX3_triple 34 = .ok (.ifCond .ne 29, 3) := by decide +kernel
theorem dX3_triple_37 : decode cX3_triple 37 = .ok (.aload_n 0, 1) := by decide +kernel
theorem dX3_triple_38 : decode cX3_triple 38 = .ok (.getfield 12, 3) := by decide +kernel
theorem dX3_triple_41 : decode cX3_triple 41 = .ok (.getfield 51, 3) := by decide +kernel
theorem dX3_triple_44 : decode cX3_triple 44 = .ok (.sipush 150, 3) := by decide +kernel
theorem dX3_triple_47 : decode cX3_triple 47 = .ok (.if_icmp .lt 6, 3) := by decide +kernel
theorem dX3_triple_50 : decode cX3_triple 50 = .ok (.bipush (-4), 2) := by decide +kernel
theorem dX3_triple_52 : decode cX3_triple 52 = .ok (.ireturn, 1) := by decide +kernel
theorem dX3_triple_53 : decode cX3_triple 53 = .ok (.aload_n 0, 1) := by decide +kernel
theorem dX3_triple_54 : decode cX3_triple 54 = .ok (.getfield 12, 3) := by decide +kernel
theorem dX3_triple_57 : decode cX3_triple 57 = .ok (.iload_n 1, 1) := by decide +kernel
theorem dX3_triple_58 : decode cX3_triple 58 = .ok (.iload_n 2, 1) := by decide +kernel
theorem dX3_triple_59 : decode cX3_triple 59 = .ok (.iload_n 3, 1) := by decide +kernel
theorem dX3_triple_60 : decode cX3_triple 60 = .ok (.invokevirtual 54, 3) := by decide +kernel
theorem dX3_triple_63 : decode cX3_triple 63 = .ok (.aload_n 0, 1) := by decide +kernel
theorem dX3_triple_64 : decode cX3_triple 64 = .ok (.getfield 12, 3) := by decide +kernel
theorem dX3_triple_67 : decode cX3_triple 67 = .ok (.getfield 51, 3) := by decide +kernel
theorem dX3_triple_70 : decode cX3_triple 70 = .ok (.ireturn, 1) := by decide +kernel
theorem dX3_path_0 : decode cX3_path 0 = .ok (.iload_n 1, 1) := by decide +kernel
theorem dX3_path_1 : decode cX3_path 1 = .ok (.tableswitch 93 0 6 #[43, 82, 66, 66, 82, 82, 82], 43) := by decide +kernel
theorem dX3_path_44 : decode cX3_path 44 = .ok (.iload_n 2, 1) := by decide +kernel
theorem dX3_path_45 : decode cX3_path 45 = .ok (.invokestatic 44, 3) := by decide +kernel
theorem dX3_path_48 : decode cX3_path 48 = .ok (.ifCond .eq 16, 3) := by decide +kernel
theorem dX3_path_51 : decode cX3_path 51 = .ok (.aload_n 0, 1) := by decide +kernel
theorem dX3_path_52 : decode cX3_path 52 = .ok (.iconst 0, 1) := by decide +kernel
theorem dX3_path_53 : decode cX3_path 53 = .ok (.iconst 1, 1) := by decide +kernel
theorem dX3_path_54 : decode cX3_path 54 = .ok (.iload_n 2, 1) := by decide +kernel
theorem dX3_path_55 : decode cX3_path 55 = .ok (.ishl, 1) := by decide +kernel
theorem dX3_path_56 : decode cX3_path 56 = .ok (.aconst_null, 1) := by decide +kernel
theorem dX3_path_57 : decode cX3_path 57 = .ok (.aconst_null, 1) := by decide +kernel
theorem dX3_path_58 : decode cX3_path 58 = .ok (.invokevirtual 58, 3) := by decide +kernel
theorem dX3_path_61 : decode cX3_path 61 = .ok (.goto 5, 3) := by decide +kernel
theorem dX3_path_64 : decode cX3_path 64 = .ok (.bipush (-2), 2) := by decide +kernel
theorem dX3_path_66 : decode cX3_path 66 = .ok (.ireturn, 1) := by decide +kernel
theorem dX3_path_67 : decode cX3_path 67 = .ok (.aload_n 0, 1) := by decide +kernel
theorem dX3_path_68 : decode cX3_path 68 = .ok (.iload_n 1, 1) := by decide +kernel
theorem dX3_path_69 : decode cX3_path 69 = .ok (.aload_n 0, 1) := by decide +kernel
theorem dX3_path_70 : decode cX3_path 70 = .ok (.iload_n 2, 1) := by decide +kernel
theorem dX3_path_71 : decode cX3_path 71 = .ok (.invokevirtual 62, 3) := by decide +kernel
theorem dX3_path_74 : decode cX3_path 74 = .ok (.aload_n 0, 1) := by decide +kernel
theorem dX3_path_75 : decode cX3_path 75 = .ok (.iload_n 3, 1) := by decide +kernel
theorem dX3_path_76 : decode cX3_path 76 = .ok (.invokevirtual 62, 3) := by decide +kernel
theorem dX3_path_79 : decode cX3_path 79 = .ok (.invokevirtual 66, 3) := by decide +kernel
theorem dX3_path_82 : decode cX3_path 82 = .ok (.ireturn, 1) := by decide +kernel
theorem dX3_path_83 : decode cX3_path 83 = .ok (.aload_n 0, 1) := by decide +kernel
theorem dX3_path_84 : decode cX3_path 84 = .ok (.iload_n 1, 1) := by decide +kernel
theorem dX3_path_85 : decode cX3_path 85 = .ok (.aload_n 0, 1) := by decide +kernel
theorem dX3_path_86 : decode cX3_path 86 = .ok (.iload_n 2, 1) := by decide +kernel
theorem dX3_path_87 : decode cX3_path 87 = .ok (.invokevirtual 62, 3) := by decide +kernel
theorem dX3_path_90 : decode cX3_path 90 = .ok (.invokevirtual 70, 3) := by decide +kernel
theorem dX3_path_93 : decode cX3_path 93 = .ok (.ireturn, 1) := by decide +kernel
theorem dX3_path_94 : decode cX3_path 94 = .ok (.bipush (-2), 2) := by decide +kernel
theorem dX3_path_96 : decode cX3_path 96 = .ok (.ireturn, 1) := by decide +kernel
theorem dX3_from_0 : decode cX3_from 0 = .ok (.iload_n 1, 1) := by decide +kernel
theorem dX3_from_1 : decode cX3_from 1 = .ok (.invokestatic 40, 3) := by decide +kernel
theorem dX3_from_4 : decode cX3_from 4 = .ok (.ifCond .eq 14, 3) := by decide +kernel
theorem dX3_from_7 : decode cX3_from 7 = .ok (.aload_n 0, 1) := by decide +kernel
theorem dX3_from_8 : decode cX3_from 8 = .ok (.getfield 12, 3) := by decide +kernel
theorem dX3_from_11 : decode cX3_from 11 = .ok (.iload_n 1, 1) := by decide +kernel
theorem dX3_from_12 : decode cX3_from 12 = .ok (.invokevirtual 74, 3) := by decide +kernel
theorem dX3_from_15 : decode cX3_from 15 = .ok (.goto 5, 3) := by decide +kernel
theorem dX3_from_18 : decode cX3_from 18 = .ok (.bipush (-2), 2) := by decide +kernel
theorem dX3_from_20 : decode cX3_from 20 = .ok (.ireturn, 1) := by decide +kernel
theorem dX3_run_0 : decode cX3_run 0 = .ok (.aload_n 0, 1) := by decide +kernel
theorem dX3_run_1 : decode cX3_run 1 = .ok (.iload_n 1, 1) := by decide +kernel
theorem dX3_run_2 : decode cX3_run 2 = .ok (.invokevirtual 62, 3) := by decide +kernel
theorem dX3_run_5 : decode cX3_run 5 = .ok (.astore 4, 2) := by decide +kernel
theorem dX3_run_7 : decode cX3_run 7 = .ok (.aload 4, 2) := by decide +kernel
theorem dX3_run_9 : decode cX3_run 9 = .ok (.ifnonnull 5, 3) := by decide +kernel
theorem dX3_run_12 : decode cX3_run 12 = .ok (.iconst (-1), 1) := by decide +kernel
theorem dX3_run_13 : decode cX3_run 13 = .ok (.ireturn, 1) := by decide +kernel
theorem dX3_run_14 : decode cX3_run 14 = .ok (.iload_n 2, 1) := by decide +kernel
theorem dX3_run_15 : decode cX3_run 15 = .ok (.invokestatic 78, 3) := by decide +kernel
theorem dX3_run_18 : decode cX3_run 18 = .ok (.ifCond .eq 10, 3) := by decide +kernel
theorem dX3_run_21 : decode cX3_run 21 = .ok (.iload_n 3, 1) := by decide +kernel
theorem dX3_run_22 : decode cX3_run 22 = .ok (.invokestatic 78, 3) := by decide +kernel
theorem dX3_run_25 : decode cX3_run 25 = .ok (.ifCond .ne 6, 3) := by decide +kernel
theorem dX3_run_28 : decode cX3_run 28 = .ok (.bipush (-2), 2) := by decide +kernel
theorem dX3_run_30 : decode cX3_run 30 = .ok (.ireturn, 1) := by decide +kernel
theorem dX3_run_31 : decode cX3_run 31 = .ok (.aload_n 0, 1) := by decide +kernel
theorem dX3_run_32 : decode cX3_run 32 = .ok (.aload 4, 2) := by decide +kernel
theorem dX3_run_34 : decode cX3_run 34 = .ok (.iload_n 2, 1) := by decide +kernel
theorem dX3_run_35 : decode cX3_run 35 = .ok (.iload_n 3, 1) := by decide +kernel
theorem dX3_run_36 : decode cX3_run 36 = .ok (.invokevirtual 81, 3) := by decide +kernel
theorem dX3_run_39 : decode cX3_run 39 = .ok (.aload_n 0, 1) := by decide +kernel
theorem dX3_run_40 : decode cX3_run 40 = .ok (.aload 4, 2) := by decide +kernel
theorem dX3_run_42 : decode cX3_run 42 = .ok (.invokevirtual 85, 3) := by decide +kernel
theorem dX3_run_45 : decode cX3_run 45 = .ok (.ifCond .eq 6, 3) := by decide +kernel
theorem dX3_run_48 : decode cX3_run 48 = .ok (.bipush (-5), 2) := by decide +kernel
theorem dX3_run_50 : decode cX3_run 50 = .ok (.ireturn, 1) := by decide +kernel
theorem dX3_run_51 : decode cX3_run 51 = .ok (.aload 4, 2) := by decide +kernel
theorem dX3_run_53 : decode cX3_run 53 = .ok (.iload_n 2, 1) := by decide +kernel
theorem dX3_run_54 : decode cX3_run 54 = .ok (.iload_n 3, 1) := by decide +kernel
theorem dX3_run_55 : decode cX3_run 55 = .ok (.invokevirtual 89, 3) := by decide +kernel
theorem dX3_run_58 : decode cX3_run 58 = .ok (.istore 5, 2) := by decide +kernel
theorem dX3_run_60 : decode cX3_run 60 = .ok (.iload 5, 2) := by decide +kernel
theorem dX3_run_62 : decode cX3_run 62 = .ok (.sipush 2000, 3) := by decide +kernel
theorem dX3_run_65 : decode cX3_run 65 = .ok (.if_icmp .le 6, 3) := by decide +kernel
theorem dX3_run_68 : decode cX3_run 68 = .ok (.bipush (-4), 2) := by decide +kernel
theorem dX3_run_70 : decode cX3_run 70 = .ok (.ireturn, 1) := by decide +kernel
theorem dX3_run_71 : decode cX3_run 71 = .ok (.aload_n 0, 1) := by decide +kernel
theorem dX3_run_72 : decode cX3_run 72 = .ok (.aload 4, 2) := by decide +kernel
theorem dX3_run_74 : decode cX3_run 74 = .ok (.iload_n 2, 1) := by decide +kernel
theorem dX3_run_75 : decode cX3_run 75 = .ok (.iload_n 3, 1) := by decide +kernel
theorem dX3_run_76 : decode cX3_run 76 = .ok (.invokevirtual 93, 3) := by decide +kernel
theorem dX3_run_79 : decode cX3_run 79 = .ok (.iload 5, 2) := by decide +kernel
theorem dX3_run_81 : decode cX3_run 81 = .ok (.ireturn, 1) := by decide +kernel
theorem dX3_at_0 : decode cX3_at 0 = .ok (.iload_n 2, 1) := by decide +kernel
theorem dX3_at_1 : decode cX3_at 1 = .ok (.ifCond .eq 11, 3) := by decide +kernel
theorem dX3_at_4 : decode cX3_at 4 = .ok (.iload_n 2, 1) := by decide +kernel
theorem dX3_at_5 : decode cX3_at 5 = .ok (.iconst 1, 1) := by decide +kernel
theorem dX3_at_6 : decode cX3_at 6 = .ok (.if_icmp .eq 6, 3) := by decide +kernel
theorem dX3_at_9 : decode cX3_at 9 = .ok (.bipush (-2), 2) := by decide +kernel
theorem dX3_at_11 : decode cX3_at 11 = .ok (.ireturn, 1) := by decide +kernel
theorem dX3_at_12 : decode cX3_at 12 = .ok (.aload_n 0, 1) := by decide +kernel
theorem dX3_at_13 : decode cX3_at 13 = .ok (.getfield 25, 3) := by decide +kernel
theorem dX3_at_16 : decode cX3_at 16 = .ok (.getfield 96, 3) := by decide +kernel
theorem dX3_at_19 : decode cX3_at 19 = .ok (.ifCond .ne 6, 3) := by decide +kernel
theorem dX3_at_22 : decode cX3_at 22 = .ok (.bipush (-3), 2) := by decide +kernel
theorem dX3_at_24 : decode cX3_at 24 = .ok (.ireturn, 1) := by decide +kernel
theorem dX3_at_25 : decode cX3_at 25 = .ok (.aload_n 0, 1) := by decide +kernel
theorem dX3_at_26 : decode cX3_at 26 = .ok (.getfield 25, 3) := by decide +kernel
theorem dX3_at_29 : decode cX3_at 29 = .ok (.iload_n 1, 1) := by decide +kernel
theorem dX3_at_30 : decode cX3_at 30 = .ok (.invokevirtual 100, 3) := by decide +kernel
theorem dX3_at_33 : decode cX3_at 33 = .ok (.ifCond .ne 5, 3) := by decide +kernel
theorem dX3_at_36 : decode cX3_at 36 = .ok (.iconst (-1), 1) := by decide +kernel
theorem dX3_at_37 : decode cX3_at 37 = .ok (.ireturn, 1) := by decide +kernel
theorem dX3_at_38 : decode cX3_at 38 = .ok (.iload_n 2, 1) := by decide +kernel
theorem dX3_at_39 : decode cX3_at 39 = .ok (.ifCond .ne 15, 3) := by decide +kernel
theorem dX3_at_42 : decode cX3_at 42 = .ok (.aload_n 0, 1) := by decide +kernel
theorem dX3_at_43 : decode cX3_at 43 = .ok (.getfield 25, 3) := by decide +kernel
theorem dX3_at_46 : decode cX3_at 46 = .ok (.getfield 102, 3) := by decide +kernel
theorem dX3_at_49 : decode cX3_at 49 = .ok (.iload_n 1, 1) := by decide +kernel
theorem dX3_at_50 : decode cX3_at 50 = .ok (.iaload, 1) := by decide +kernel
theorem dX3_at_51 : decode cX3_at 51 = .ok (.goto 12, 3) := by decide +kernel
theorem dX3_at_54 : decode cX3_at 54 = .ok (.aload_n 0, 1) := by decide +kernel
theorem dX3_at_55 : decode cX3_at 55 = .ok (.getfield 25, 3) := by decide +kernel
theorem dX3_at_58 : decode cX3_at 58 = .ok (.getfield 105, 3) := by decide +kernel
theorem dX3_at_61 : decode cX3_at 61 = .ok (.iload_n 1, 1) := by decide +kernel
theorem dX3_at_62 : decode cX3_at 62 = .ok (.iaload, 1) := by decide +kernel
theorem dX3_at_63 : decode cX3_at 63 = .ok (.ireturn, 1) := by decide +kernel
theorem dX3_plain_0 : decode cX3_plain 0 = .ok (.aload_n 0, 1) := by decide +kernel
theorem dX3_plain_1 : decode cX3_plain 1 = .ok (.iload_n 1, 1) := by decide +kernel
theorem dX3_plain_2 : decode cX3_plain 2 = .ok (.invokevirtual 62, 3) := by decide +kernel
theorem dX3_plain_5 : decode cX3_plain 5 = .ok (.astore 4, 2) := by decide +kernel
theorem dX3_plain_7 : decode cX3_plain 7 = .ok (.aload 4, 2) := by decide +kernel
theorem dX3_plain_9 : decode cX3_plain 9 = .ok (.ifnonnull 5, 3) := by decide +kernel
theorem dX3_plain_12 : decode cX3_plain 12 = .ok (.iconst (-1), 1) := by decide +kernel
theorem dX3_plain_13 : decode cX3_plain 13 = .ok (.ireturn, 1) := by decide +kernel
theorem dX3_plain_14 : decode cX3_plain 14 = .ok (.iload_n 2, 1) := by decide +kernel
theorem dX3_plain_15 : decode cX3_plain 15 = .ok (.invokestatic 78, 3) := by decide +kernel
theorem dX3_plain_18 : decode cX3_plain 18 = .ok (.ifCond .eq 10, 3) := by decide +kernel
theorem dX3_plain_21 : decode cX3_plain 21 = .ok (.iload_n 3, 1) := by decide +kernel
theorem dX3_plain_22 : decode cX3_plain 22 = .ok (.invokestatic 78, 3) := by decide +kernel
theorem dX3_plain_25 : decode cX3_plain 25 = .ok (.ifCond .ne 6, 3) := by decide +kernel
theorem dX3_plain_28 : decode cX3_plain 28 = .ok (.bipush (-2), 2) := by decide +kernel
theorem dX3_plain_30 : decode cX3_plain 30 = .ok (.ireturn, 1) := by decide +kernel
theorem dX3_plain_31 : decode cX3_plain 31 = .ok (.aload_n 0, 1) := by decide +kernel
theorem dX3_plain_32 : decode cX3_plain 32 = .ok (.aload 4, 2) := by decide +kernel
theorem dX3_plain_34 : decode cX3_plain 34 = .ok (.iload_n 2, 1) := by decide +kernel
theorem dX3_plain_35 : decode cX3_plain 35 = .ok (.iload_n 3, 1) := by decide +kernel
theorem dX3_plain_36 : decode cX3_plain 36 = .ok (.invokevirtual 81, 3) := by decide +kernel
theorem dX3_plain_39 : decode cX3_plain 39 = .ok (.aload 4, 2) := by decide +kernel
theorem dX3_plain_41 : decode cX3_plain 41 = .ok (.iload_n 2, 1) := by decide +kernel
theorem dX3_plain_42 : decode cX3_plain 42 = .ok (.iload_n 3, 1) := by decide +kernel
theorem dX3_plain_43 : decode cX3_plain 43 = .ok (.invokevirtual 89, 3) := by decide +kernel
theorem dX3_plain_46 : decode cX3_plain 46 = .ok (.ireturn, 1) := by decide +kernel
theorem dX3_steps_0 : decode cX3_steps 0 = .ok (.iload_n 1, 1) := by decide +kernel
theorem dX3_steps_1 : decode cX3_steps 1 = .ok (.iconst 1, 1) := by decide +kernel
theorem dX3_steps_2 : decode cX3_steps 2 = .ok (.if_icmp .lt 10, 3) := by decide +kernel
theorem dX3_steps_5 : decode cX3_steps 5 = .ok (.iload_n 1, 1) := by decide +kernel
theorem dX3_steps_6 : decode cX3_steps 6 = .ok (.sipush 1024, 3) := by decide +kernel
theorem dX3_steps_9 : decode cX3_steps 9 = .ok (.if_icmp .le 6, 3) := by decide +kernel
theorem dX3_steps_12 : decode cX3_steps 12 = .ok (.bipush (-2), 2) := by decide +kernel
theorem dX3_steps_14 : decode cX3_steps 14 = .ok (.ireturn, 1) := by decide +kernel
theorem dX3_steps_15 : decode cX3_steps 15 = .ok (.aload_n 0, 1) := by decide +kernel
theorem dX3_steps_16 : decode cX3_steps 16 = .ok (.iload_n 1, 1) := by decide +kernel
theorem dX3_steps_17 : decode cX3_steps 17 = .ok (.putfield 37, 3) := by decide +kernel
theorem dX3_steps_20 : decode cX3_steps 20 = .ok (.iconst 1, 1) := by decide +kernel
theorem dX3_steps_21 : decode cX3_steps 21 = .ok (.ireturn, 1) := by decide +kernel
theorem dX3_cycle_0 : decode cX3_cycle 0 = .ok (.aload_n 0, 1) := by decide +kernel
theorem dX3_cycle_1 : decode cX3_cycle 1 = .ok (.getfield 25, 3) := by decide +kernel
theorem dX3_cycle_4 : decode cX3_cycle 4 = .ok (.iload_n 1, 1) := by decide +kernel
theorem dX3_cycle_5 : decode cX3_cycle 5 = .ok (.invokevirtual 100, 3) := by decide +kernel
theorem dX3_cycle_8 : decode cX3_cycle 8 = .ok (.ifCond .eq 28, 3) := by decide +kernel
theorem dX3_cycle_11 : decode cX3_cycle 11 = .ok (.aload_n 0, 1) := by decide +kernel
theorem dX3_cycle_12 : decode cX3_cycle 12 = .ok (.getfield 25, 3) := by decide +kernel
theorem dX3_cycle_15 : decode cX3_cycle 15 = .ok (.getfield 102, 3) := by decide +kernel
theorem dX3_cycle_18 : decode cX3_cycle 18 = .ok (.iload_n 1, 1) := by decide +kernel
theorem dX3_cycle_19 : decode cX3_cycle 19 = .ok (.iaload, 1) := by decide +kernel
theorem dX3_cycle_20 : decode cX3_cycle 20 = .ok (.aload_n 0, 1) := by decide +kernel
theorem dX3_cycle_21 : decode cX3_cycle 21 = .ok (.getfield 25, 3) := by decide +kernel
theorem dX3_cycle_24 : decode cX3_cycle 24 = .ok (.getfield 105, 3) := by decide +kernel
theorem dX3_cycle_27 : decode cX3_cycle 27 = .ok (.iload_n 1, 1) := by decide +kernel
theorem dX3_cycle_28 : decode cX3_cycle 28 = .ok (.iaload, 1) := by decide +kernel
theorem dX3_cycle_29 : decode cX3_cycle 29 = .ok (.if_icmp .ne 7, 3) := by decide +kernel
theorem dX3_cycle_32 : decode cX3_cycle 32 = .ok (.iconst 1, 1) := by decide +kernel
theorem dX3_cycle_33 : decode cX3_cycle 33 = .ok (.goto 4, 3) := by decide +kernel
theorem dX3_cycle_36 : decode cX3_cycle 36 = .ok (.iconst 0, 1) := by decide +kernel
theorem dX3_cycle_37 : decode cX3_cycle 37 = .ok (.ireturn, 1) := by decide +kernel
theorem dX3_depth_0 : decode cX3_depth 0 = .ok (.aload_n 0, 1) := by decide +kernel
theorem dX3_depth_1 : decode cX3_depth 1 = .ok (.getfield 25, 3) := by decide +kernel
theorem dX3_depth_4 : decode cX3_depth 4 = .ok (.iload_n 1, 1) := by decide +kernel
theorem dX3_depth_5 : decode cX3_depth 5 = .ok (.invokevirtual 100, 3) := by decide +kernel
theorem dX3_depth_8 : decode cX3_depth 8 = .ok (.ifCond .ne 13, 3) := by decide +kernel
theorem dX3_depth_11 : decode cX3_depth 11 = .ok (.new 108, 3) := by decide +kernel
theorem dX3_depth_14 : decode cX3_depth 14 = .ok (.dup, 1) := by decide +kernel
theorem dX3_depth_15 : decode cX3_depth 15 = .ok (.ldc 110, 2) := by decide +kernel
theorem dX3_depth_17 : decode cX3_depth 17 = .ok (.invokespecial 112, 3) := by decide +kernel
theorem dX3_depth_20 : decode cX3_depth 20 = .ok (.athrow, 1) := by decide +kernel
theorem dX3_depth_21 : decode cX3_depth 21 = .ok (.aload_n 0, 1) := by decide +kernel
theorem dX3_depth_22 : decode cX3_depth 22 = .ok (.getfield 25, 3) := by decide +kernel
theorem dX3_depth_25 : decode cX3_depth 25 = .ok (.getfield 115, 3) := by decide +kernel
theorem dX3_depth_28 : decode cX3_depth 28 = .ok (.iload_n 1, 1) := by decide +kernel
theorem dX3_depth_29 : decode cX3_depth 29 = .ok (.iaload, 1) := by decide +kernel
theorem dX3_depth_30 : decode cX3_depth 30 = .ok (.ireturn, 1) := by decide +kernel
theorem dX3_inverse_0 : decode cX3_inverse 0 = .ok (.aload_n 0, 1) := by decide +kernel
theorem dX3_inverse_1 : decode cX3_inverse 1 = .ok (.iconst 1, 1) := by decide +kernel
theorem dX3_inverse_2 : decode cX3_inverse 2 = .ok (.aload_n 0, 1) := by decide +kernel
theorem dX3_inverse_3 : decode cX3_inverse 3 = .ok (.iload_n 1, 1) := by decide +kernel
theorem dX3_inverse_4 : decode cX3_inverse 4 = .ok (.invokevirtual 62, 3) := by decide +kernel
theorem dX3_inverse_7 : decode cX3_inverse 7 = .ok (.invokevirtual 70, 3) := by decide +kernel
theorem dX3_inverse_10 : decode cX3_inverse 10 = .ok (.ireturn, 1) := by decide +kernel
theorem dX3_negated_0 : decode cX3_negated 0 = .ok (.iload_n 1, 1) := by decide +kernel
theorem dX3_negated_1 : decode cX3_negated 1 = .ok (.invokestatic 44, 3) := by decide +kernel
theorem dX3_negated_4 : decode cX3_negated 4 = .ok (.ifCond .eq 15, 3) := by decide +kernel
theorem dX3_negated_7 : decode cX3_negated 7 = .ok (.iload_n 2, 1) := by decide +kernel
theorem dX3_negated_8 : decode cX3_negated 8 = .ok (.iconst (-1), 1) := by decide +kernel
theorem dX3_negated_9 : decode cX3_negated 9 = .ok (.if_icmp .eq 13, 3) := by decide +kernel
theorem dX3_negated_12 : decode cX3_negated 12 = .ok (.iload_n 2, 1) := by decide +kernel
theorem dX3_negated_13 : decode cX3_negated 13 = .ok (.invokestatic 44, 3) := by decide +kernel
theorem dX3_negated_16 : decode cX3_negated 16 = .ok (.ifCond .ne 6, 3) := by decide +kernel
theorem dX3_negated_19 : decode cX3_negated 19 = .ok (.bipush (-2), 2) := by decide +kernel
theorem dX3_negated_21 : decode cX3_negated 21 = .ok (.ireturn, 1) := by decide +kernel
theorem dX3_negated_22 : decode cX3_negated 22 = .ok (.iconst 1, 1) := by decide +kernel
theorem dX3_negated_23 : decode cX3_negated 23 = .ok (.iload_n 1, 1) := by decide +kernel
theorem dX3_negated_24 : decode cX3_negated 24 = .ok (.ishl, 1) := by decide +kernel
theorem dX3_negated_25 : decode cX3_negated 25 = .ok (.istore_n 3, 1) := by decide +kernel
theorem dX3_negated_26 : decode cX3_negated 26 = .ok (.iload_n 2, 1) := by decide +kernel
theorem dX3_negated_27 : decode cX3_negated 27 = .ok (.iconst (-1), 1) := by decide +kernel
theorem dX3_negated_28 : decode cX3_negated 28 = .ok (.if_icmp .eq 9, 3) := by decide +kernel
theorem dX3_negated_31 : decode cX3_negated 31 = .ok (.iload_n 3, 1) := by decide +kernel
theorem dX3_negated_32 : decode cX3_negated 32 = .ok (.iconst 1, 1) := by decide +kernel
theorem dX3_negated_33 : decode cX3_negated 33 = .ok (.iload_n 2, 1) := by decide +kernel
theorem dX3_negated_34 : decode cX3_negated 34 = .ok (.ishl, 1) := by decide +kernel
theorem dX3_negated_35 : decode cX3_negated 35 = .ok (.ior, 1) := by decide +kernel
theorem dX3_negated_36 : decode cX3_negated 36 = .ok (.istore_n 3, 1) := by decide +kernel
theorem dX3_negated_37 : decode cX3_negated 37 = .ok (.aload_n 0, 1) := by decide +kernel
theorem dX3_negated_38 : decode cX3_negated 38 = .ok (.bipush 7, 2) := by decide +kernel
theorem dX3_negated_40 : decode cX3_negated 40 = .ok (.ldc 118, 2) := by decide +kernel
theorem dX3_negated_42 : decode cX3_negated 42 = .ok (.iload_n 3, 1) := by decide +kernel
theorem dX3_negated_43 : decode cX3_negated 43 = .ok (.iconst (-1), 1) := by decide +kernel
theorem dX3_negated_44 : decode cX3_negated 44 = .ok (.ixor, 1) := by decide +kernel
theorem dX3_negated_45 : decode cX3_negated 45 = .ok (.iand, 1) := by decide +kernel
theorem dX3_negated_46 : decode cX3_negated 46 = .ok (.aconst_null, 1) := by decide +kernel
theorem dX3_negated_47 : decode cX3_negated 47 = .ok (.aconst_null, 1) := by decide +kernel
theorem dX3_negated_48 : decode cX3_negated 48 = .ok (.invokevirtual 58, 3) := by decide +kernel
theorem dX3_negated_51 : decode cX3_negated 51 = .ok (.ireturn, 1) := by decide +kernel
theorem dX3_isNode_0 : decode cX3_isNode 0 = .ok (.iload_n 0, 1) := by decide +kernel
theorem dX3_isNode_1 : decode cX3_isNode 1 = .ok (.ifCond .lt 13, 3) := by decide +kernel
theorem dX3_isNode_4 : decode cX3_isNode 4 = .ok (.iload_n 0, 1) := by decide +kernel
theorem dX3_isNode_5 : decode cX3_isNode 5 = .ok (.bipush 32, 2) := by decide +kernel
theorem dX3_isNode_7 : decode cX3_isNode 7 = .ok (.if_icmp .ge 7, 3) := by decide +kernel
theorem dX3_isNode_10 : decode cX3_isNode 10 = .ok (.iconst 1, 1) := by decide +kernel
theorem dX3_isNode_11 : decode cX3_isNode 11 = .ok (.goto 4, 3) := by decide +kernel
theorem dX3_isNode_14 : decode cX3_isNode 14 = .ok (.iconst 0, 1) := by decide +kernel
theorem dX3_isNode_15 : decode cX3_isNode 15 = .ok (.ireturn, 1) := by decide +kernel
theorem dX3_isPredicate_0 : decode cX3_isPredicate 0 = .ok (.iload_n 0, 1) := by decide +kernel
theorem dX3_isPredicate_1 : decode cX3_isPredicate 1 = .ok (.ifCond .lt 13, 3) := by decide +kernel
theorem dX3_isPredicate_4 : decode cX3_isPredicate 4 = .ok (.iload_n 0, 1) := by decide +kernel
theorem dX3_isPredicate_5 : decode cX3_isPredicate 5 = .ok (.bipush 16, 2) := by decide +kernel
theorem dX3_isPredicate_7 : decode cX3_isPredicate 7 = .ok (.if_icmp .ge 7, 3) := by decide +kernel
theorem dX3_isPredicate_10 : decode cX3_isPredicate 10 = .ok (.iconst 1, 1) := by decide +kernel
theorem dX3_isPredicate_11 : decode cX3_isPredicate 11 = .ok (.goto 4, 3) := by decide +kernel
theorem dX3_isPredicate_14 : decode cX3_isPredicate 14 = .ok (.iconst 0, 1) := by decide +kernel
theorem dX3_isPredicate_15 : decode cX3_isPredicate 15 = .ok (.ireturn, 1) := by decide +kernel
theorem dX3_isEnd_0 : decode cX3_isEnd 0 = .ok (.iload_n 0, 1) := by decide +kernel
theorem dX3_isEnd_1 : decode cX3_isEnd 1 = .ok (.iconst (-1), 1) := by decide +kernel
theorem dX3_isEnd_2 : decode cX3_isEnd 2 = .ok (.if_icmp .eq 10, 3) := by decide +kernel
theorem dX3_isEnd_5 : decode cX3_isEnd 5 = .ok (.iload_n 0, 1) := by decide +kernel
theorem dX3_isEnd_6 : decode cX3_isEnd 6 = .ok (.invokestatic 40, 3) := by decide +kernel
theorem dX3_isEnd_9 : decode cX3_isEnd 9 = .ok (.ifCond .eq 7, 3) := by decide +kernel
theorem dX3_isEnd_12 : decode cX3_isEnd 12 = .ok (.iconst 1, 1) := by decide +kernel
theorem dX3_isEnd_13 : decode cX3_isEnd 13 = .ok (.goto 4, 3) := by decide +kernel
theorem dX3_isEnd_16 : decode cX3_isEnd 16 = .ok (.iconst 0, 1) := by decide +kernel
theorem dX3_isEnd_17 : decode cX3_isEnd 17 = .ok (.ireturn, 1) := by decide +kernel
theorem dX3_lowest_0 : decode cX3_lowest 0 = .ok (.iload_n 0, 1) := by decide +kernel
theorem dX3_lowest_1 : decode cX3_lowest 1 = .ok (.iconst (-1), 1) := by decide +kernel
theorem dX3_lowest_2 : decode cX3_lowest 2 = .ok (.if_icmp .ne 7, 3) := by decide +kernel
theorem dX3_lowest_5 : decode cX3_lowest 5 = .ok (.iconst 0, 1) := by decide +kernel
theorem dX3_lowest_6 : decode cX3_lowest 6 = .ok (.goto 4, 3) := by decide +kernel
theorem dX3_lowest_9 : decode cX3_lowest 9 = .ok (.iload_n 0, 1) := by decide +kernel
theorem dX3_lowest_10 : decode cX3_lowest 10 = .ok (.ireturn, 1) := by decide +kernel
theorem dX3_highest_0 : decode cX3_highest 0 = .ok (.iload_n 0, 1) := by decide +kernel
theorem dX3_highest_1 : decode cX3_highest 1 = .ok (.iconst (-1), 1) := by decide +kernel
theorem dX3_highest_2 : decode cX3_highest 2 = .ok (.if_icmp .ne 8, 3) := by decide +kernel
theorem dX3_highest_5 : decode cX3_highest 5 = .ok (.bipush 31, 2) := by decide +kernel
theorem dX3_highest_7 : decode cX3_highest 7 = .ok (.goto 4, 3) := by decide +kernel
theorem dX3_highest_10 : decode cX3_highest 10 = .ok (.iload_n 0, 1) := by decide +kernel
theorem dX3_highest_11 : decode cX3_highest 11 = .ok (.ireturn, 1) := by decide +kernel
theorem dX3_bitOf_0 : decode cX3_bitOf 0 = .ok (.iload_n 0, 1) := by decide +kernel
theorem dX3_bitOf_1 : decode cX3_bitOf 1 = .ok (.iconst (-1), 1) := by decide +kernel
theorem dX3_bitOf_2 : decode cX3_bitOf 2 = .ok (.if_icmp .ne 7, 3) := by decide +kernel
theorem dX3_bitOf_5 : decode cX3_bitOf 5 = .ok (.iconst 0, 1) := by decide +kernel
theorem dX3_bitOf_6 : decode cX3_bitOf 6 = .ok (.goto 6, 3) := by decide +kernel
theorem dX3_bitOf_9 : decode cX3_bitOf 9 = .ok (.iconst 1, 1) := by decide +kernel
theorem dX3_bitOf_10 : decode cX3_bitOf 10 = .ok (.iload_n 0, 1) := by decide +kernel
theorem dX3_bitOf_11 : decode cX3_bitOf 11 = .ok (.ishl, 1) := by decide +kernel
theorem dX3_bitOf_12 : decode cX3_bitOf 12 = .ok (.ireturn, 1) := by decide +kernel
theorem dX3_holds_0 : decode cX3_holds 0 = .ok (.iload_n 0, 1) := by decide +kernel
theorem dX3_holds_1 : decode cX3_holds 1 = .ok (.iload_n 1, 1) := by decide +kernel
theorem dX3_holds_2 : decode cX3_holds 2 = .ok (.iushr, 1) := by decide +kernel
theorem dX3_holds_3 : decode cX3_holds 3 = .ok (.iconst 1, 1) := by decide +kernel
theorem dX3_holds_4 : decode cX3_holds 4 = .ok (.iand, 1) := by decide +kernel
theorem dX3_holds_5 : decode cX3_holds 5 = .ok (.ifCond .eq 7, 3) := by decide +kernel
theorem dX3_holds_8 : decode cX3_holds 8 = .ok (.iconst 1, 1) := by decide +kernel
theorem dX3_holds_9 : decode cX3_holds 9 = .ok (.goto 4, 3) := by decide +kernel
theorem dX3_holds_12 : decode cX3_holds 12 = .ok (.iconst 0, 1) := by decide +kernel
theorem dX3_holds_13 : decode cX3_holds 13 = .ok (.ireturn, 1) := by decide +kernel
theorem dX3_known_0 : decode cX3_known 0 = .ok (.iload_n 1, 1) := by decide +kernel
theorem dX3_known_1 : decode cX3_known 1 = .ok (.iconst 1, 1) := by decide +kernel
theorem dX3_known_2 : decode cX3_known 2 = .ok (.if_icmp .lt 20, 3) := by decide +kernel
theorem dX3_known_5 : decode cX3_known 5 = .ok (.iload_n 1, 1) := by decide +kernel
theorem dX3_known_6 : decode cX3_known 6 = .ok (.aload_n 0, 1) := by decide +kernel
theorem dX3_known_7 : decode cX3_known 7 = .ok (.getfield 33, 3) := by decide +kernel
theorem dX3_known_10 : decode cX3_known 10 = .ok (.if_icmp .gt 12, 3) := by decide +kernel
theorem dX3_known_13 : decode cX3_known 13 = .ok (.aload_n 0, 1) := by decide +kernel
theorem dX3_known_14 : decode cX3_known 14 = .ok (.getfield 18, 3) := by decide +kernel
theorem dX3_known_17 : decode cX3_known 17 = .ok (.iload_n 1, 1) := by decide +kernel
theorem dX3_known_18 : decode cX3_known 18 = .ok (.aaload, 1) := by decide +kernel
theorem dX3_known_19 : decode cX3_known 19 = .ok (.goto 4, 3) := by decide +kernel
theorem dX3_known_22 : decode cX3_known 22 = .ok (.aconst_null, 1) := by decide +kernel
theorem dX3_known_23 : decode cX3_known 23 = .ok (.areturn, 1) := by decide +kernel
theorem dX3_keepOverOne_0 : decode cX3_keepOverOne 0 = .ok (.aload_n 2, 1) := by decide +kernel
theorem dX3_keepOverOne_1 : decode cX3_keepOverOne 1 = .ok (.ifnonnull 7, 3) := by decide +kernel
theorem dX3_keepOverOne_4 : decode cX3_keepOverOne 4 = .ok (.iconst (-1), 1) := by decide +kernel
theorem dX3_keepOverOne_5 : decode cX3_keepOverOne 5 = .ok (.goto 11, 3) := by decide +kernel
theorem dX3_keepOverOne_8 : decode cX3_keepOverOne 8 = .ok (.aload_n 0, 1) := by decide +kernel
theorem dX3_keepOverOne_9 : decode cX3_keepOverOne 9 = .ok (.iload_n 1, 1) := by decide +kernel
theorem dX3_keepOverOne_10 : decode cX3_keepOverOne 10 = .ok (.iconst 0, 1) := by decide +kernel
theorem dX3_keepOverOne_11 : decode cX3_keepOverOne 11 = .ok (.aload_n 2, 1) := by decide +kernel
theorem dX3_keepOverOne_12 : decode cX3_keepOverOne 12 = .ok (.aconst_null, 1) := by decide +kernel
theorem dX3_keepOverOne_13 : decode cX3_keepOverOne 13 = .ok (.invokevirtual 58, 3) := by decide +kernel
theorem dX3_keepOverOne_16 : decode cX3_keepOverOne 16 = .ok (.ireturn, 1) := by decide +kernel
theorem dX3_keepOverTwo_0 : decode cX3_keepOverTwo 0 = .ok (.aload_n 2, 1) := by decide +kernel
theorem dX3_keepOverTwo_1 : decode cX3_keepOverTwo 1 = .ok (.ifnull 7, 3) := by decide +kernel
theorem dX3_keepOverTwo_4 : decode cX3_keepOverTwo 4 = .ok (.aload_n 3, 1) := by decide +kernel
theorem dX3_keepOverTwo_5 : decode cX3_keepOverTwo 5 = .ok (.ifnonnull 7, 3) := by decide +kernel
theorem dX3_keepOverTwo_8 : decode cX3_keepOverTwo 8 = .ok (.iconst (-1), 1) := by decide +kernel
theorem dX3_keepOverTwo_9 : decode cX3_keepOverTwo 9 = .ok (.goto 11, 3) := by decide +kernel
theorem dX3_keepOverTwo_12 : decode cX3_keepOverTwo 12 = .ok (.aload_n 0, 1) := by decide +kernel
theorem dX3_keepOverTwo_13 : decode cX3_keepOverTwo 13 = .ok (.iload_n 1, 1) := by decide +kernel
theorem dX3_keepOverTwo_14 : decode cX3_keepOverTwo 14 = .ok (.iconst 0, 1) := by decide +kernel
theorem dX3_keepOverTwo_15 : decode cX3_keepOverTwo 15 = .ok (.aload_n 2, 1) := by decide +kernel
theorem dX3_keepOverTwo_16 : decode cX3_keepOverTwo 16 = .ok (.aload_n 3, 1) := by decide +kernel
theorem dX3_keepOverTwo_17 : decode cX3_keepOverTwo 17 = .ok (.invokevirtual 58, 3) := by decide +kernel
theorem dX3_keepOverTwo_20 : decode cX3_keepOverTwo 20 = .ok (.ireturn, 1) := by decide +kernel
theorem dX3_keepPath_0 : decode cX3_keepPath 0 = .ok (.aload_n 0, 1) := by decide +kernel
theorem dX3_keepPath_1 : decode cX3_keepPath 1 = .ok (.getfield 33, 3) := by decide +kernel
theorem dX3_keepPath_4 : decode cX3_keepPath 4 = .ok (.bipush 40, 2) := by decide +kernel
theorem dX3_keepPath_6 : decode cX3_keepPath 6 = .ok (.if_icmp .lt 6, 3) := by decide +kernel
theorem dX3_keepPath_9 : decode cX3_keepPath 9 = .ok (.bipush (-4), 2) := by decide +kernel
theorem dX3_keepPath_11 : decode cX3_keepPath 11 = .ok (.ireturn, 1) := by decide +kernel
theorem dX3_keepPath_12 : decode cX3_keepPath 12 = .ok (.aload_n 0, 1) := by decide +kernel
theorem dX3_keepPath_13 : decode cX3_keepPath 13 = .ok (.dup, 1) := by decide +kernel
theorem dX3_keepPath_14 : decode cX3_keepPath 14 = .ok (.getfield 33, 3) := by decide +kernel
theorem dX3_keepPath_17 : decode cX3_keepPath 17 = .ok (.iconst 1, 1) := by decide +kernel
theorem dX3_keepPath_18 : decode cX3_keepPath 18 = .ok (.iadd, 1) := by decide +kernel
theorem dX3_keepPath_19 : decode cX3_keepPath 19 = .ok (.putfield 33, 3) := by decide +kernel
theorem dX3_keepPath_22 : decode cX3_keepPath 22 = .ok (.aload_n 0, 1) := by decide +kernel
theorem dX3_keepPath_23 : decode cX3_keepPath 23 = .ok (.getfield 18, 3) := by decide +kernel
theorem dX3_keepPath_26 : decode cX3_keepPath 26 = .ok (.aload_n 0, 1) := by decide +kernel
theorem dX3_keepPath_27 : decode cX3_keepPath 27 = .ok (.getfield 33, 3) := by decide +kernel
theorem dX3_keepPath_30 : decode cX3_keepPath 30 = .ok (.new 16, 3) := by decide +kernel
theorem dX3_keepPath_33 : decode cX3_keepPath 33 = .ok (.dup, 1) := by decide +kernel
theorem dX3_keepPath_34 : decode cX3_keepPath 34 = .ok (.aload_n 0, 1) := by decide +kernel
theorem dX3_keepPath_35 : decode cX3_keepPath 35 = .ok (.getfield 33, 3) := by decide +kernel
theorem dX3_keepPath_38 : decode cX3_keepPath 38 = .ok (.iload_n 1, 1) := by decide +kernel
theorem dX3_keepPath_39 : decode cX3_keepPath 39 = .ok (.iload_n 2, 1) := by decide +kernel
theorem dX3_keepPath_40 : decode cX3_keepPath 40 = .ok (.aload_n 3, 1) := by decide +kernel
theorem dX3_keepPath_41 : decode cX3_keepPath 41 = .ok (.aload 4, 2) := by decide +kernel
theorem dX3_keepPath_43 : decode cX3_keepPath 43 = .ok (.invokespecial 119, 3) := by decide +kernel
theorem dX3_keepPath_46 : decode cX3_keepPath 46 = .ok (.aastore, 1) := by decide +kernel
theorem dX3_keepPath_47 : decode cX3_keepPath 47 = .ok (.aload_n 0, 1) := by decide +kernel
theorem dX3_keepPath_48 : decode cX3_keepPath 48 = .ok (.getfield 33, 3) := by decide +kernel
theorem dX3_keepPath_51 : decode cX3_keepPath 51 = .ok (.ireturn, 1) := by decide +kernel
theorem dX3_countParts_0 : decode cX3_countParts 0 = .ok (.aload_n 0, 1) := by decide +kernel
theorem dX3_countParts_1 : decode cX3_countParts 1 = .ok (.getfield 12, 3) := by decide +kernel
theorem dX3_countParts_4 : decode cX3_countParts 4 = .ok (.getfield 122, 3) := by decide +kernel
theorem dX3_countParts_7 : decode cX3_countParts 7 = .ok (.iload_n 2, 1) := by decide +kernel
theorem dX3_countParts_8 : decode cX3_countParts 8 = .ok (.invokestatic 125, 3) := by decide +kernel
theorem dX3_countParts_11 : decode cX3_countParts 11 = .ok (.ior, 1) := by decide +kernel
theorem dX3_countParts_12 : decode cX3_countParts 12 = .ok (.iload_n 3, 1) := by decide +kernel
theorem dX3_countParts_13 : decode cX3_countParts 13 = .ok (.invokestatic 125, 3) := by decide +kernel
theorem dX3_countParts_16 : decode cX3_countParts 16 = .ok (.ior, 1) := by decide +kernel
theorem dX3_countParts_17 : decode cX3_countParts 17 = .ok (.istore 4, 2) := by decide +kernel
theorem dX3_countParts_19 : decode cX3_countParts 19 = .ok (.iconst 1, 1) := by decide +kernel
theorem dX3_countParts_20 : decode cX3_countParts 20 = .ok (.istore 5, 2) := by decide +kernel
theorem dX3_countParts_22 : decode cX3_countParts 22 = .ok (.iload 5, 2) := by decide +kernel
theorem dX3_countParts_24 : decode cX3_countParts 24 = .ok (.aload_n 1, 1) := by decide +kernel
theorem dX3_countParts_25 : decode cX3_countParts 25 = .ok (.getfield 128, 3) := by decide +kernel
theorem dX3_countParts_28 : decode cX3_countParts 28 = .ok (.if_icmp .gt 42, 3) := by decide +kernel
theorem dX3_countParts_31 : decode cX3_countParts 31 = .ok (.aload_n 0, 1) := by decide +kernel
theorem dX3_countParts_32 : decode cX3_countParts 32 = .ok (.iload 5, 2) := by decide +kernel
theorem dX3_countParts_34 : decode cX3_countParts 34 = .ok (.invokevirtual 62, 3) := by decide +kernel
theorem dX3_countParts_37 : decode cX3_countParts 37 = .ok (.astore 6, 2) := by decide +kernel
theorem dX3_countParts_39 : decode cX3_countParts 39 = .ok (.aload 6, 2) := by decide +kernel
theorem dX3_countParts_41 : decode cX3_countParts 41 = .ok (.ifnull 23, 3) := by decide +kernel
theorem dX3_countParts_44 : decode cX3_countParts 44 = .ok (.aload_n 1, 1) := by decide +kernel
theorem dX3_countParts_45 : decode cX3_countParts 45 = .ok (.iload 5, 2) := by decide +kernel
theorem dX3_countParts_47 : decode cX3_countParts 47 = .ok (.invokevirtual 131, 3) := by decide +kernel
theorem dX3_countParts_50 : decode cX3_countParts 50 = .ok (.ifCond .eq 14, 3) := by decide +kernel
theorem dX3_countParts_53 : decode cX3_countParts 53 = .ok (.aload 6, 2) := by decide +kernel
theorem dX3_countParts_55 : decode cX3_countParts 55 = .ok (.aload_n 0, 1) := by decide +kernel
theorem dX3_countParts_56 : decode cX3_countParts 56 = .ok (.getfield 12, 3) := by decide +kernel
theorem dX3_countParts_59 : decode cX3_countParts 59 = .ok (.iload 4, 2) := by decide +kernel
theorem dX3_countParts_61 : decode cX3_countParts 61 = .ok (.invokevirtual 134, 3) := by decide +kernel
theorem dX3_countParts_64 : decode cX3_countParts 64 = .ok (.iinc 5 1, 3) := by decide +kernel
theorem dX3_countParts_67 : decode cX3_countParts 67 = .ok (.goto (-45), 3) := by decide +kernel
theorem dX3_countParts_70 : decode cX3_countParts 70 = .ok (.return_, 1) := by decide +kernel
theorem dX3_goesBeyond_0 : decode cX3_goesBeyond 0 = .ok (.iconst 1, 1) := by decide +kernel
theorem dX3_goesBeyond_1 : decode cX3_goesBeyond 1 = .ok (.istore_n 2, 1) := by decide +kernel
theorem dX3_goesBeyond_2 : decode cX3_goesBeyond 2 = .ok (.iload_n 2, 1) := by decide +kernel
theorem dX3_goesBeyond_3 : decode cX3_goesBeyond 3 = .ok (.aload_n 1, 1) := by decide +kernel
theorem dX3_goesBeyond_4 : decode cX3_goesBeyond 4 = .ok (.getfield 128, 3) := by decide +kernel
theorem dX3_goesBeyond_7 : decode cX3_goesBeyond 7 = .ok (.if_icmp .gt 47, 3) := by decide +kernel
theorem dX3_goesBeyond_10 : decode cX3_goesBeyond 10 = .ok (.aload_n 0, 1) := by decide +kernel
theorem dX3_goesBeyond_11 : decode cX3_goesBeyond 11 = .ok (.iload_n 2, 1) := by decide +kernel
theorem dX3_goesBeyond_12 : decode cX3_goesBeyond 12 = .ok (.invokevirtual 62, 3) := by decide +kernel
theorem dX3_goesBeyond_15 : decode cX3_goesBeyond 15 = .ok (.astore_n 3, 1) := by decide +kernel
theorem dX3_goesBeyond_16 : decode cX3_goesBeyond 16 = .ok (.aload_n 3, 1) := by decide +kernel
theorem dX3_goesBeyond_17 : decode cX3_goesBeyond 17 = .ok (.ifnull 31, 3) := by decide +kernel
theorem dX3_goesBeyond_20 : decode cX3_goesBeyond 20 = .ok (.aload_n 1, 1) := by decide +kernel
theorem dX3_goesBeyond_21 : decode cX3_goesBeyond 21 = .ok (.iload_n 2, 1) := by decide +kernel
theorem dX3_goesBeyond_22 : decode cX3_goesBeyond 22 = .ok (.invokevirtual 131, 3) := by decide +kernel
theorem dX3_goesBeyond_25 : decode cX3_goesBeyond 25 = .ok (.ifCond .eq 23, 3) := by decide +kernel
theorem dX3_goesBeyond_28 : decode cX3_goesBeyond 28 = .ok (.aload_n 3, 1) := by decide +kernel
theorem dX3_goesBeyond_29 : decode cX3_goesBeyond 29 = .ok (.invokevirtual 138, 3) := by decide +kernel
theorem dX3_goesBeyond_32 : decode cX3_goesBeyond 32 = .ok (.ifCond .eq 16, 3) := by decide +kernel
theorem dX3_goesBeyond_35 : decode cX3_goesBeyond 35 = .ok (.aload_n 3, 1) := by decide +kernel
theorem dX3_goesBeyond_36 : decode cX3_goesBeyond 36 = .ok (.invokevirtual 142, 3) := by decide +kernel
theorem dX3_goesBeyond_39 : decode cX3_goesBeyond 39 = .ok (.aload_n 0, 1) := by decide +kernel
theorem dX3_goesBeyond_40 : decode cX3_goesBeyond 40 = .ok (.getfield 37, 3) := by decide +kernel
theorem dX3_goesBeyond_43 : decode cX3_goesBeyond 43 = .ok (.if_icmp .le 5, 3) := by decide +kernel
theorem dX3_goesBeyond_46 : decode cX3_goesBeyond 46 = .ok (.iconst 1, 1) := by decide +kernel
theorem dX3_goesBeyond_47 : decode cX3_goesBeyond 47 = .ok (.ireturn, 1) := by decide +kernel
theorem dX3_goesBeyond_48 : decode cX3_goesBeyond 48 = .ok (.iinc 2 1, 3) := by decide +kernel
theorem dX3_goesBeyond_51 : decode cX3_goesBeyond 51 = .ok (.goto (-49), 3) := by decide +kernel
theorem dX3_goesBeyond_54 : decode cX3_goesBeyond 54 = .ok (.iconst 0, 1) := by decide +kernel
theorem dX3_goesBeyond_55 : decode cX3_goesBeyond 55 = .ok (.ireturn, 1) := by decide +kernel
theorem dX3_keepRows_0 : decode cX3_keepRows 0 = .ok (.aload_n 0, 1) := by decide +kernel
theorem dX3_keepRows_1 : decode cX3_keepRows 1 = .ok (.getfield 25, 3) := by decide +kernel
theorem dX3_keepRows_4 : decode cX3_keepRows 4 = .ok (.invokevirtual 146, 3) := by decide +kernel
theorem dX3_keepRows_7 : decode cX3_keepRows 7 = .ok (.iload_n 2, 1) := by decide +kernel
theorem dX3_keepRows_8 : decode cX3_keepRows 8 = .ok (.invokestatic 149, 3) := by decide +kernel
theorem dX3_keepRows_11 : decode cX3_keepRows 11 = .ok (.istore 4, 2) := by decide +kernel
theorem dX3_keepRows_13 : decode cX3_keepRows 13 = .ok (.iload 4, 2) := by decide +kernel
theorem dX3_keepRows_15 : decode cX3_keepRows 15 = .ok (.iload_n 2, 1) := by decide +kernel
theorem dX3_keepRows_16 : decode cX3_keepRows 16 = .ok (.invokestatic 152, 3) := by decide +kernel
theorem dX3_keepRows_19 : decode cX3_keepRows 19 = .ok (.if_icmp .gt 76, 3) := by decide +kernel
theorem dX3_keepRows_22 : decode cX3_keepRows 22 = .ok (.aload_n 1, 1) := by decide +kernel
theorem dX3_keepRows_23 : decode cX3_keepRows 23 = .ok (.getfield 155, 3) := by decide +kernel
theorem dX3_keepRows_26 : decode cX3_keepRows 26 = .ok (.iload 4, 2) := by decide +kernel
theorem dX3_keepRows_28 : decode cX3_keepRows 28 = .ok (.iaload, 1) := by decide +kernel
theorem dX3_keepRows_29 : decode cX3_keepRows 29 = .ok (.ifCond .eq 60, 3) := by decide +kernel
theorem dX3_keepRows_32 : decode cX3_keepRows 32 = .ok (.aload_n 1, 1) := by decide +kernel
theorem dX3_keepRows_33 : decode cX3_keepRows 33 = .ok (.iload 4, 2) := by decide +kernel
theorem dX3_keepRows_35 : decode cX3_keepRows 35 = .ok (.aload_n 0, 1) := by decide +kernel
theorem dX3_keepRows_36 : decode cX3_keepRows 36 = .ok (.getfield 29, 3) := by decide +kernel
theorem dX3_keepRows_39 : decode cX3_keepRows 39 = .ok (.invokevirtual 158, 3) := by decide +kernel
theorem dX3_keepRows_42 : decode cX3_keepRows 42 = .ok (.iload_n 3, 1) := by decide +kernel
theorem dX3_keepRows_43 : decode cX3_keepRows 43 = .ok (.invokestatic 149, 3) := by decide +kernel
theorem dX3_keepRows_46 : decode cX3_keepRows 46 = .ok (.istore 5, 2) := by decide +kernel
theorem dX3_keepRows_48 : decode cX3_keepRows 48 = .ok (.iload 5, 2) := by decide +kernel
theorem dX3_keepRows_50 : decode cX3_keepRows 50 = .ok (.iload_n 3, 1) := by decide +kernel
theorem dX3_keepRows_51 : decode cX3_keepRows 51 = .ok (.invokestatic 152, 3) := by decide +kernel
theorem dX3_keepRows_54 : decode cX3_keepRows 54 = .ok (.if_icmp .gt 35, 3) := by decide +kernel
theorem dX3_keepRows_57 : decode cX3_keepRows 57 = .ok (.aload_n 0, 1) := by decide +kernel
theorem dX3_keepRows_58 : decode cX3_keepRows 58 = .ok (.getfield 25, 3) := by decide +kernel
theorem dX3_keepRows_61 : decode cX3_keepRows 61 = .ok (.iload 4, 2) := by decide +kernel
theorem dX3_keepRows_63 : decode cX3_keepRows 63 = .ok (.iload 5, 2) := by decide +kernel
theorem dX3_keepRows_65 : decode cX3_keepRows 65 = .ok (.aload_n 0, 1) := by decide +kernel
theorem dX3_keepRows_66 : decode cX3_keepRows 66 = .ok (.getfield 29, 3) := by decide +kernel
theorem dX3_keepRows_69 : decode cX3_keepRows 69 = .ok (.iload 5, 2) := by decide +kernel
theorem dX3_keepRows_71 : decode cX3_keepRows 71 = .ok (.iaload, 1) := by decide +kernel
theorem dX3_keepRows_72 : decode cX3_keepRows 72 = .ok (.aload_n 1, 1) := by decide +kernel
theorem dX3_keepRows_73 : decode cX3_keepRows 73 = .ok (.iload 4, 2) := by decide +kernel
theorem dX3_keepRows_75 : decode cX3_keepRows 75 = .ok (.iload 5, 2) := by decide +kernel
theorem dX3_keepRows_77 : decode cX3_keepRows 77 = .ok (.invokevirtual 162, 3) := by decide +kernel
theorem dX3_keepRows_80 : decode cX3_keepRows 80 = .ok (.invokevirtual 165, 3) := by decide +kernel
theorem dX3_keepRows_83 : decode cX3_keepRows 83 = .ok (.iinc 5 1, 3) := by decide +kernel
theorem dX3_keepRows_86 : decode cX3_keepRows 86 = .ok (.goto (-38), 3) := by decide +kernel
theorem dX3_keepRows_89 : decode cX3_keepRows 89 = .ok (.iinc 4 1, 3) := by decide +kernel
theorem dX3_keepRows_92 : decode cX3_keepRows 92 = .ok (.goto (-79), 3) := by decide +kernel
theorem dX3_keepRows_95 : decode cX3_keepRows 95 = .ok (.return_, 1) := by decide +kernel
end
section
theorem dX4_init_0 : decode cX4_init 0 = .ok (.aload_n 0, 1) := by decide +kernel
theorem dX4_init_1 : decode cX4_init 1 = .ok (.invokespecial 1, 3) := by decide +kernel
theorem dX4_init_4 : decode cX4_init 4 = .ok (.aload_n 0, 1) := by decide +kernel
theorem dX4_init_5 : decode cX4_init 5 = .ok (.sipush 150, 3) := by decide +kernel
theorem dX4_init_8 : decode cX4_init 8 = .ok (.newarray .int, 2) := by decide +kernel
theorem dX4_init_10 : decode cX4_init 10 = .ok (.putfield 7, 3) := by decide +kernel
theorem dX4_init_13 : decode cX4_init 13 = .ok (.aload_n 0, 1) := by decide +kernel
theorem dX4_init_14 : decode cX4_init 14 = .ok (.sipush 150, 3) := by decide +kernel
theorem dX4_init_17 : decode cX4_init 17 = .ok (.newarray .int, 2) := by decide +kernel
theorem dX4_init_19 : decode cX4_init 19 = .ok (.putfield 13, 3) := by decide +kernel
theorem dX4_init_22 : decode cX4_init 22 = .ok (.aload_n 0, 1) := by decide +kernel
theorem dX4_init_23 : decode cX4_init 23 = .ok (.sipush 150, 3) := by decide +kernel
theorem dX4_init_26 : decode cX4_init 26 = .ok (.newarray .int, 2) := by decide +kernel
theorem dX4_init_28 : decode cX4_init 28 = .ok (.putfield 16, 3) := by decide +kernel
theorem dX4_init_31 : decode cX4_init 31 = .ok (.aload_n 0, 1) := by decide +kernel
theorem dX4_init_32 : decode cX4_init 32 = .ok (.bipush 41, 2) := by decide +kernel
theorem dX4_init_34 : decode cX4_init 34 = .ok (.newarray .int, 2) := by decide +kernel
theorem dX4_init_36 : decode cX4_init 36 = .ok (.putfield 19, 3) := by decide +kernel
theorem dX4_init_39 : decode cX4_init 39 = .ok (.aload_n 0, 1) := by decide +kernel
theorem dX4_init_40 : decode cX4_init 40 = .ok (.bipush 41, 2) := by decide +kernel
theorem dX4_init_42 : decode cX4_init 42 = .ok (.newarray .int, 2) := by decide +kernel
theorem dX4_init_44 : decode cX4_init 44 = .ok (.putfield 22, 3) := by decide +kernel
theorem dX4_init_47 : decode cX4_init 47 = .ok (.aload_n 0, 1) := by decide +kernel
theorem dX4_init_48 : decode cX4_init 48 = .ok (.bipush 41, 2) := by decide +kernel
theorem dX4_init_50 : decode cX4_init 50 = .ok (.newarray .int, 2) := by decide +kernel
theorem dX4_init_52 : decode cX4_init 52 = .ok (.putfield 25, 3) := by decide +kernel
theorem dX4_init_55 : decode cX4_init 55 = .ok (.aload_n 0, 1) := by decide +kernel
theorem dX4_init_56 : decode cX4_init 56 = .ok (.sipush 1024, 3) := by decide +kernel
theorem dX4_init_59 : decode cX4_init 59 = .ok (.putfield 28, 3) := by decide +kernel
theorem dX4_init_62 : decode cX4_init 62 = .ok (.aload_n 0, 1) := by decide +kernel
theorem dX4_init_63 : decode cX4_init 63 = .ok (.ldc 32, 2) := by decide +kernel
theorem dX4_init_65 : decode cX4_init 65 = .ok (.newarray .int, 2) := by decide +kernel
theorem dX4_init_67 : decode cX4_init 67 = .ok (.putfield 33, 3) := by decide +kernel
theorem dX4_init_70 : decode cX4_init 70 = .ok (.aload_n 0, 1) := by decide +kernel
theorem dX4_init_71 : decode cX4_init 71 = .ok (.bipush 41, 2) := by decide +kernel
theorem dX4_init_73 : decode cX4_init 73 = .ok (.newarray .boolean, 2) := by decide +kernel
theorem dX4_init_75 : decode cX4_init 75 = .ok (.putfield 36, 3) := by decide +kernel
theorem dX4_init_78 : decode cX4_init 78 = .ok (.aload_n 0, 1) := by decide +kernel
theorem dX4_init_79 : decode cX4_init 79 = .ok (.bipush 32, 2) := by decide +kernel
theorem dX4_init_81 : decode cX4_init 81 = .ok (.newarray .boolean, 2) := by decide +kernel
theorem dX4_init_83 : decode cX4_init 83 = .ok (.putfield 40, 3) := by decide +kernel
theorem dX4_init_86 : decode cX4_init 86 = .ok (.aload_n 0, 1) := by decide +kernel
theorem dX4_init_87 : decode cX4_init 87 = .ok (.bipush 32, 2) := by decide +kernel
theorem dX4_init_89 : decode cX4_init 89 = .ok (.newarray .int, 2) := by decide +kernel
theorem dX4_init_91 : decode cX4_init 91 = .ok (.putfield 43, 3) := by decide +kernel
theorem dX4_init_94 : decode cX4_init 94 = .ok (.aload_n 0, 1) := by decide +kernel
theorem dX4_init_95 : decode cX4_init 95 = .ok (.bipush 32, 2) := by decide +kernel
theorem dX4_init_97 : decode cX4_init 97 = .ok (.newarray .int, 2) := by decide +kernel
theorem dX4_init_99 : decode cX4_init 99 = .ok (.putfield 46, 3) := by decide +kernel
theorem dX4_init_102 : decode cX4_init 102 = .ok (.aload_n 0, 1) := by decide +kernel
theorem dX4_init_103 : decode cX4_init 103 = .ok (.sipush 2000, 3) := by decide +kernel
theorem dX4_init_106 : decode cX4_init 106 = .ok (.newarray .int, 2) := by decide +kernel
theorem dX4_init_108 : decode cX4_init 108 = .ok (.putfield 49, 3) := by decide +kernel
theorem dX4_init_111 : decode cX4_init 111 = .ok (.aload_n 0, 1) := by decide +kernel
theorem dX4_init_112 : decode cX4_init 112 = .ok (.sipush 2000, 3) := by decide +kernel
theorem dX4_init_115 : decode cX4_init 115 = .ok (.newarray .int, 2) := by decide +kernel
theorem dX4_init_117 : decode cX4_init 117 = .ok (.putfield 52, 3) := by decide +kernel
theorem dX4_init_120 : decode cX4_init 120 = .ok (.aload_n 0, 1) := by decide +kernel
theorem dX4_init_121 : decode cX4_init 121 = .ok (.sipush 2000, 3) := by decide +kernel
theorem dX4_init_124 : decode cX4_init 124 = .ok (.newarray .int, 2) := by decide +kernel
theorem dX4_init_126 : decode cX4_init 126 = .ok (.putfield 55, 3) := by decide +kernel
theorem dX4_init_129 : decode cX4_init 129 = .ok (.return_, 1) := by decide +kernel
theorem dX4_thrown_0 : decode cX4_thrown 0 = .ok (.aload_n 0, 1) := by decide +kernel
theorem dX4_thrown_1 : decode cX4_thrown 1 = .ok (.getfield 58, 3) := by decide +kernel
theorem dX4_thrown_4 : decode cX4_thrown 4 = .ok (.ireturn, 1) := by decide +kernel
theorem dX4_isBetween_0 : decode cX4_isBetween 0 = .ok (.iload_n 0, 1) := by decide +kernel
theorem dX4_isBetween_1 : decode cX4_isBetween 1 = .ok (.iload_n 1, 1) := by decide +kernel
theorem dX4_isBetween_2 : decode cX4_isBetween 2 = .ok (.if_icmp .lt 12, 3) := by decide +kernel
theorem dX4_isBetween_5 : decode cX4_isBetween 5 = .ok (.iload_n 0, 1) := by decide +kernel
theorem dX4_isBetween_6 : decode cX4_isBetween 6 = .ok (.iload_n 2, 1) := by decide +kernel
theorem dX4_isBetween_7 : decode cX4_isBetween 7 = .ok (.if_icmp .gt 7, 3) := by decide +kernel
theorem dX4_isBetween_10 : decode cX4_isBetween 10 = .ok (.iconst 1, 1) := by decide +kernel
theorem dX4_isBetween_11 : decode cX4_isBetween 11 = .ok (.goto 4, 3) := by decide +kernel
theorem dX4_isBetween_14 : decode cX4_isBetween 14 = .ok (.iconst 0, 1) := by decide +kernel
theorem dX4_isBetween_15 : decode cX4_isBetween 15 = .ok (.ireturn, 1) := by decide +kernel
theorem dX4_isNode_0 : decode cX4_isNode 0 = .ok (.iload_n 0, 1) := by decide +kernel
theorem dX4_isNode_1 : decode cX4_isNode 1 = .ok (.iconst 0, 1) := by decide +kernel
theorem dX4_isNode_2 : decode cX4_isNode 2 = .ok (.bipush 31, 2) := by decide +kernel
theorem dX4_isNode_4 : decode cX4_isNode 4 = .ok (.invokestatic 61, 3) := by decide +kernel
theorem dX4_isNode_7 : decode cX4_isNode 7 = .ok (.ireturn, 1) := by decide +kernel
theorem dX4_isPath_0 : decode cX4_isPath 0 = .ok (.iload_n 1, 1) := by decide +kernel
theorem dX4_isPath_1 : decode cX4_isPath 1 = .ok (.iconst 1, 1) := by decide +kernel
theorem dX4_isPath_2 : decode cX4_isPath 2 = .ok (.aload_n 0, 1) := by decide +kernel
theorem dX4_isPath_3 : decode cX4_isPath 3 = .ok (.getfield 65, 3) := by decide +kernel
theorem dX4_isPath_6 : decode cX4_isPath 6 = .ok (.invokestatic 61, 3) := by decide +kernel
theorem dX4_isPath_9 : decode cX4_isPath 9 = .ok (.ireturn, 1) := by decide +kernel
theorem dX4_triple_0 : decode cX4_triple 0 = .ok (.aload_n 0, 1) := by decide +kernel
theorem dX4_triple_1 : decode cX4_triple 1 = .ok (.iconst 0, 1) := by decide +kernel
theorem dX4_triple_2 : decode cX4_triple 2 = .ok (.putfield 58, 3) := by decide +kernel
theorem dX4_triple_5 : decode cX4_triple 5 = .ok (.iload_n 1, 1) := by decide +kernel
theorem dX4_triple_6 : decode cX4_triple 6 = .ok (.invokestatic 68, 3) := by decide +kernel
theorem dX4_triple_9 : decode cX4_triple 9 = .ok (.ifCond .eq 20, 3) := by decide +kernel
theorem dX4_triple_12 : decode cX4_triple 12 = .ok (.iload_n 3, 1) := by decide +kernel
theorem dX4_triple_13 : decode cX4_triple 13 = .ok (.invokestatic 68, 3) := by decide +kernel
theorem dX4_triple_16 : decode cX4_triple 16 = .ok (.ifCond .eq 13, 3) := by decide +kernel
theorem dX4_triple_19 : decode cX4_triple 19 = .ok (.iload_n 2, 1) := by decide +kernel
theorem dX4_triple_20 : decode cX4_triple 20 = .ok (.iconst 0, 1) := by decide +kernel
theorem dX4_triple_21 : decode cX4_triple 21 = .ok (.bipush 15, 2) := by decide +kernel
theorem dX4_triple_23 : decode cX4_triple 23 = .ok (.invokestatic 61, 3) := by decide +kernel
theorem dX4_triple_26 : decode cX4_triple 26 = .ok (.ifCond .ne 6, 3) := by decide +kernel
theorem dX4_triple_29 : decode cX4_triple 29 = .ok (.bipush (-2), 2) := by decide +kernel
theorem dX4_triple_31 : decode cX4_triple 31 = .ok (.ireturn, 1) := by decide +kernel
theorem dX4_triple_32 : decode cX4_triple 32 = .ok (.iconst 0, 1) := by decide +kernel
theorem dX4_triple_33 : decode cX4_triple 33 = .ok (.istore 4, 2) := by decide +kernel
theorem dX4_triple_35 : decode cX4_triple 35 = .ok (.iload 4, 2) := by decide +kernel
theorem dX4_triple_37 : decode cX4_triple 37 = .ok (.aload_n 0, 1) := by decide +kernel
theorem dX4_triple_38 : decode cX4_triple 38 = .ok (.getfield 72, 3) := by decide +kernel
theorem dX4_triple_41 : decode cX4_triple 41 = .ok (.if_icmp .ge 47, 3) := by decide +kernel
theorem dX4_triple_44 : decode cX4_triple 44 = .ok (.aload_n 0, 1) := by decide +kernel
theorem dX4_triple_45 : decode cX4_triple 45 = .ok (.getfield 7, 3) := by decide +kernel
theorem dX4_triple_48 : decode cX4_triple 48 = .ok (.iload 4, 2) := by decide +kernel
theorem dX4_triple_50 : decode cX4_triple 50 = .ok (.iaload, 1) := by decide +kernel
theorem dX4_triple_51 : decode cX4_triple 51 = .ok (.iload_n 1, 1) := by decide +kernel
theorem dX4_triple_52 : decode cX4_triple 52 = .ok (.if_icmp .ne 30, 3) := by decide +kernel
theorem dX4_triple_55 : decode cX4_triple 55 = .ok (.aload_n 0, 1) := by decide +kernel
theorem dX4_triple_56 : decode cX4_triple 56 = .ok (.getfield 13, 3) := by decide +kernel
theorem dX4_triple_59 : decode cX4_triple 59 = .ok (.iload 4, 2) := by decide +kernel
theorem dX4_triple_61 : decode cX4_triple 61 = .ok (.iaload, 1) := by decide +kernel
theorem dX4_triple_62 : decode cX4_triple 62 = .ok (.iload_n 2, 1) := by decide +kernel
theorem dX4_triple_63 : decode cX4_triple 63 = .ok (.if_icmp .ne 19, 3) := by decide +kernel
theorem dX4_triple_66 : decode cX4_triple 66 = .ok (.aload_n 0, 1) := by decide +kernel
theorem dX4_triple_67 : decode cX4_triple 67 = .ok (.getfield 16, 3) := by decide +kernel
theorem dX4_triple_70 : decode cX4_triple 70 = .ok (.iload 4, 2) := by decide +kernel
theorem dX4_triple_72 : decode cX4_triple 72 = .ok (.iaload, 1) := by decide +kernel
theorem dX4_triple_73 : decode cX4_triple 73 = .ok (.iload_n 3, 1) := by decide +kernel
theorem dX4_triple_74 : decode cX4_triple 74 = .ok (.if_icmp .ne 8, 3) := by decide +kernel
theorem dX4_triple_77 : decode cX4_triple 77 = .ok (.aload_n 0, 1) := by decide +kernel
theorem dX4_triple_78 : decode cX4_triple 78 = .ok (.getfield 72, 3) := by decide +kernel
theorem dX4_triple_81 : decode cX4_triple 81 = .ok (.ireturn, 1) := by decide +kernel
theorem dX4_triple_82 : decode cX4_triple 82 = .ok (.iinc 4 1, 3) := by decide +kernel
theorem dX4_triple_85 : decode cX4_triple 85 = .ok (.goto (-50), 3) := by decide +kernel
theorem dX4_triple_88 : decode cX4_triple 88 = .ok (.aload_n 0, 1) := by decide +kernel
theorem dX4_triple_89 : decode cX4_triple 89 = .ok (.getfield 72, 3) := by decide +kernel
theorem dX4_triple_92 : decode cX4_triple 92 = .ok (.sipush 150, 3) := by decide +kernel
theorem dX4_triple_95 : decode cX4_triple 95 = .ok (.if_icmp .ne 6, 3) := by decide +kernel
theorem dX4_triple_98 : decode cX4_triple 98 = .ok (.bipush (-4), 2) := by decide +kernel
theorem dX4_triple_100 : decode cX4_triple 100 = .ok (.ireturn, 1) := by decide +kernel
theorem dX4_triple_101 : decode cX4_triple 101 = .ok (.aload_n 0, 1) := by decide +kernel
theorem dX4_triple_102 : decode cX4_triple 102 = .ok (.getfield 7, 3) := by decide +kernel
theorem dX4_triple_105 : decode cX4_triple 105 = .ok (.aload_n 0, 1) := by decide +kernel
theorem dX4_triple_106 : decode cX4_triple 106 = .ok (.getfield 72, 3) := by decide +kernel
theorem dX4_triple_109 : decode cX4_triple 109 = .ok (.iload_n 1, 1) := by decide +kernel
theorem dX4_triple_110 : decode cX4_triple 110 = .ok (.iastore, 1) := by decide +kernel
theorem dX4_triple_111 : decode cX4_triple 111 = .ok (.aload_n 0, 1) := by decide +kernel
theorem dX4_triple_112 : decode cX4_triple 112 = .ok (.getfield 13, 3) := by decide +kernel
theorem dX4_triple_115 : decode cX4_triple 115 = .ok (.aload_n 0, 1) := by decide +kernel
theorem dX4_triple_116 : decode cX4_triple 116 = .ok (.getfield 72, 3) := by decide +kernel
theorem dX4_triple_119 : decode cX4_triple 119 = .ok (.iload_n 2, 1) := by decide +kernel
theorem dX4_triple_120 : decode cX4_triple 120 = .ok (.iastore, 1) := by decide +kernel
theorem dX4_triple_121 : decode cX4_triple 121 = .ok (.aload_n 0, 1) := by decide +kernel
theorem dX4_triple_122 : decode cX4_triple 122 = .ok (.getfield 16, 3) := by decide +kernel
theorem dX4_triple_125 : decode cX4_triple 125 = .ok (.aload_n 0, 1) := by decide +kernel
theorem dX4_triple_126 : decode cX4_triple 126 = .ok (.getfield 72, 3) := by decide +kernel
theorem dX4_triple_129 : decode cX4_triple 129 = .ok (.iload_n 3, 1) := by decide +kernel
theorem dX4_triple_130 : decode cX4_triple 130 = .ok (.iastore, 1) := by decide +kernel
theorem dX4_triple_131 : decode cX4_triple 131 = .ok (.aload_n 0, 1) := by decide +kernel
theorem dX4_triple_132 : decode cX4_triple 132 = .ok (.dup, 1) := by decide +kernel
theorem dX4_triple_133 : decode cX4_triple 133 = .ok (.getfield 72, 3) := by decide +kernel
theorem dX4_triple_136 : decode cX4_triple 136 = .ok (.iconst 1, 1) := by decide +kernel
theorem dX4_triple_137 : decode cX4_triple 137 = .ok (.iadd, 1) := by decide +kernel
theorem dX4_triple_138 : decode cX4_triple 138 = .ok (.putfield 72, 3) := by decide +kernel
theorem dX4_triple_141 : decode cX4_triple 141 = .ok (.aload_n 0, 1) := by decide +kernel
theorem dX4_triple_142 : decode cX4_triple 142 = .ok (.getfield 72, 3) := by decide +kernel
theorem dX4_triple_145 : decode cX4_triple 145 = .ok (.ireturn, 1) := by decide +kernel
theorem dX4_made_0 : decode cX4_made 0 = .ok (.aload_n 0, 1) := by decide +kernel
theorem dX4_made_1 : decode cX4_made 1 = .ok (.getfield 65, 3) := by decide +kernel
theorem dX4_made_4 : decode cX4_made 4 = .ok (.bipush 40, 2) := by decide +kernel
theorem dX4_made_6 : decode cX4_made 6 = .ok (.if_icmp .ne 6, 3) := by decide +kernel
theorem dX4_made_9 : decode cX4_made 9 = .ok (.bipush (-4), 2) := by decide +kernel
theorem dX4_made_11 : decode cX4_made 11 = .ok (.ireturn, 1) := by decide +kernel
theorem dX4_made_12 : decode cX4_made 12 = .ok (.aload_n 0, 1) := by decide +kernel
theorem dX4_made_13 : decode cX4_made 13 = .ok (.dup, 1) := by decide +kernel
theorem dX4_made_14 : decode cX4_made 14 = .ok (.getfield 65, 3) := by decide +kernel
theorem dX4_made_17 : decode cX4_made 17 = .ok (.iconst 1, 1) := by decide +kernel
theorem dX4_made_18 : decode cX4_made 18 = .ok (.iadd, 1) := by decide +kernel
theorem dX4_made_19 : decode cX4_made 19 = .ok (.putfield 65, 3) := by decide +kernel
theorem dX4_made_22 : decode cX4_made 22 = .ok (.aload_n 0, 1) := by decide +kernel
theorem dX4_made_23 : decode cX4_made 23 = .ok (.getfield 19, 3) := by decide +kernel
theorem dX4_made_26 : decode cX4_made 26 = .ok (.aload_n 0, 1) := by decide +kernel
theorem dX4_made_27 : decode cX4_made 27 = .ok (.getfield 65, 3) := by decide +kernel
theorem dX4_made_30 : decode cX4_made 30 = .ok (.iload_n 1, 1) := by decide +kernel
theorem dX4_made_31 : decode cX4_made 31 = .ok (.iastore, 1) := by decide +kernel
theorem dX4_made_32 : decode cX4_made 32 = .ok (.aload_n 0, 1) := by decide +kernel
theorem dX4_made_33 : decode cX4_made 33 = .ok (.getfield 22, 3) := by decide +kernel
theorem dX4_made_36 : decode cX4_made 36 = .ok (.aload_n 0, 1) := by decide +kernel
theorem dX4_made_37 : decode cX4_made 37 = .ok (.getfield 65, 3) := by decide +kernel
theorem dX4_made_40 : decode cX4_made 40 = .ok (.iload_n 2, 1) := by decide +kernel
theorem dX4_made_41 : decode cX4_made 41 = .ok (.iastore, 1) := by decide +kernel
theorem dX4_made_42 : decode cX4_made 42 = .ok (.aload_n 0, 1) := by decide +kernel
theorem dX4_made_43 : decode cX4_made 43 = .ok (.getfield 25, 3) := by decide +kernel
theorem dX4_made_46 : decode cX4_made 46 = .ok (.aload_n 0, 1) := by decide +kernel
theorem dX4_made_47 : decode cX4_made 47 = .ok (.getfield 65, 3) := by decide +kernel
theorem dX4_made_50 : decode cX4_made 50 = .ok (.iload_n 3, 1) := by decide +kernel
theorem dX4_made_51 : decode cX4_made 51 = .ok (.iastore, 1) := by decide +kernel
theorem dX4_made_52 : decode cX4_made 52 = .ok (.aload_n 0, 1) := by decide +kernel
theorem dX4_made_53 : decode cX4_made 53 = .ok (.getfield 65, 3) := by decide +kernel
theorem dX4_made_56 : decode cX4_made 56 = .ok (.ireturn, 1) := by decide +kernel
theorem dX4_path_0 : decode cX4_path 0 = .ok (.aload_n 0, 1) := by decide +kernel
theorem dX4_path_1 : decode cX4_path 1 = .ok (.iconst 0, 1) := by decide +kernel
theorem dX4_path_2 : decode cX4_path 2 = .ok (.putfield 58, 3) := by decide +kernel
theorem dX4_path_5 : decode cX4_path 5 = .ok (.iload_n 1, 1) := by decide +kernel
theorem dX4_path_6 : decode cX4_path 6 = .ok (.iconst 1, 1) := by decide +kernel
theorem dX4_path_7 : decode cX4_path 7 = .ok (.bipush 6, 2) := by decide +kernel
theorem dX4_path_9 : decode cX4_path 9 = .ok (.invokestatic 61, 3) := by decide +kernel
theorem dX4_path_12 : decode cX4_path 12 = .ok (.ifCond .eq 11, 3) := by decide +kernel
theorem dX4_path_15 : decode cX4_path 15 = .ok (.aload_n 0, 1) := by decide +kernel
theorem dX4_path_16 : decode cX4_path 16 = .ok (.iload_n 2, 1) := by decide +kernel
theorem dX4_path_17 : decode cX4_path 17 = .ok (.invokevirtual 75, 3) := by decide +kernel
theorem dX4_path_20 : decode cX4_path 20 = .ok (.ifCond .eq 20, 3) := by decide +kernel
theorem dX4_path_23 : decode cX4_path 23 = .ok (.iload_n 1, 1) := by decide +kernel
theorem dX4_path_24 : decode cX4_path 24 = .ok (.iconst 2, 1) := by decide +kernel
theorem dX4_path_25 : decode cX4_path 25 = .ok (.iconst 3, 1) := by decide +kernel
theorem dX4_path_26 : decode cX4_path 26 = .ok (.invokestatic 61, 3) := by decide +kernel
theorem dX4_path_29 : decode cX4_path 29 = .ok (.ifCond .eq 13, 3) := by decide +kernel
theorem dX4_path_32 : decode cX4_path 32 = .ok (.aload_n 0, 1) := by decide +kernel
theorem dX4_path_33 : decode cX4_path 33 = .ok (.iload_n 3, 1) := by decide +kernel
theorem dX4_path_34 : decode cX4_path 34 = .ok (.invokevirtual 75, 3) := by decide +kernel
theorem dX4_path_37 : decode cX4_path 37 = .ok (.ifCond .ne 5, 3) := by decide +kernel
theorem dX4_path_40 : decode cX4_path 40 = .ok (.iconst (-1), 1) := by decide +kernel
theorem dX4_path_41 : decode cX4_path 41 = .ok (.ireturn, 1) := by decide +kernel
theorem dX4_path_42 : decode cX4_path 42 = .ok (.iload_n 1, 1) := by decide +kernel
theorem dX4_path_43 : decode cX4_path 43 = .ok (.iconst 0, 1) := by decide +kernel
theorem dX4_path_44 : decode cX4_path 44 = .ok (.bipush 6, 2) := by decide +kernel
theorem dX4_path_46 : decode cX4_path 46 = .ok (.invokestatic 61, 3) := by decide +kernel
theorem dX4_path_49 : decode cX4_path 49 = .ok (.ifCond .eq 17, 3) := by decide +kernel
theorem dX4_path_52 : decode cX4_path 52 = .ok (.iload_n 1, 1) := by decide +kernel
theorem dX4_path_53 : decode cX4_path 53 = .ok (.ifCond .ne 16, 3) := by decide +kernel
theorem dX4_path_56 : decode cX4_path 56 = .ok (.iload_n 2, 1) := by decide +kernel
theorem dX4_path_57 : decode cX4_path 57 = .ok (.iconst 0, 1) := by decide +kernel
theorem dX4_path_58 : decode cX4_path 58 = .ok (.bipush 15, 2) := by decide +kernel
theorem dX4_path_60 : decode cX4_path 60 = .ok (.invokestatic 61, 3) := by decide +kernel
theorem dX4_path_63 : decode cX4_path 63 = .ok (.ifCond .ne 6, 3) := by decide +kernel
theorem dX4_path_66 : decode cX4_path 66 = .ok (.bipush (-2), 2) := by decide +kernel
theorem dX4_path_68 : decode cX4_path 68 = .ok (.ireturn, 1) := by decide +kernel
theorem dX4_path_69 : decode cX4_path 69 = .ok (.aload_n 0, 1) := by decide +kernel
theorem dX4_path_70 : decode cX4_path 70 = .ok (.iload_n 1, 1) := by decide +kernel
theorem dX4_path_71 : decode cX4_path 71 = .ok (.iload_n 2, 1) := by decide +kernel
theorem dX4_path_72 : decode cX4_path 72 = .ok (.iload_n 3, 1) := by decide +kernel
theorem dX4_path_73 : decode cX4_path 73 = .ok (.invokevirtual 78, 3) := by decide +kernel
theorem dX4_path_76 : decode cX4_path 76 = .ok (.ireturn, 1) := by decide +kernel
theorem dX4_inverse_0 : decode cX4_inverse 0 = .ok (.aload_n 0, 1) := by decide +kernel
theorem dX4_inverse_1 : decode cX4_inverse 1 = .ok (.iconst 0, 1) := by decide +kernel
theorem dX4_inverse_2 : decode cX4_inverse 2 = .ok (.putfield 58, 3) := by decide +kernel
theorem dX4_inverse_5 : decode cX4_inverse 5 = .ok (.aload_n 0, 1) := by decide +kernel
theorem dX4_inverse_6 : decode cX4_inverse 6 = .ok (.iload_n 1, 1) := by decide +kernel
theorem dX4_inverse_7 : decode cX4_inverse 7 = .ok (.invokevirtual 75, 3) := by decide +kernel
theorem dX4_inverse_10 : decode cX4_inverse 10 = .ok (.ifCond .eq 13, 3) := by decide +kernel
theorem dX4_inverse_13 : decode cX4_inverse 13 = .ok (.aload_n 0, 1) := by decide +kernel
theorem dX4_inverse_14 : decode cX4_inverse 14 = .ok (.iconst 1, 1) := by decide +kernel
theorem dX4_inverse_15 : decode cX4_inverse 15 = .ok (.iload_n 1, 1) := by decide +kernel
theorem dX4_inverse_16 : decode cX4_inverse 16 = .ok (.iconst 0, 1) := by decide +kernel
theorem dX4_inverse_17 : decode cX4_inverse 17 = .ok (.invokevirtual 78, 3) := by decide +kernel
theorem dX4_inverse_20 : decode cX4_inverse 20 = .ok (.goto 4, 3) := by decide +kernel
theorem dX4_inverse_23 : decode cX4_inverse 23 = .ok (.iconst (-1), 1) := by decide +kernel
theorem dX4_inverse_24 : decode cX4_inverse 24 = .ok (.ireturn, 1) := by decide +kernel
theorem dX4_negated_0 : decode cX4_negated 0 = .ok (.aload_n 0, 1) := by decide +kernel
theorem dX4_negated_1 : decode cX4_negated 1 = .ok (.iconst 0, 1) := by decide +kernel
theorem dX4_negated_2 : decode cX4_negated 2 = .ok (.putfield 58, 3) := by decide +kernel
theorem dX4_negated_5 : decode cX4_negated 5 = .ok (.iload_n 1, 1) := by decide +kernel
theorem dX4_negated_6 : decode cX4_negated 6 = .ok (.iconst 0, 1) := by decide +kernel
theorem dX4_negated_7 : decode cX4_negated 7 = .ok (.bipush 15, 2) := by decide +kernel
theorem dX4_negated_9 : decode cX4_negated 9 = .ok (.invokestatic 61, 3) := by decide +kernel
theorem dX4_negated_12 : decode cX4_negated 12 = .ok (.ifCond .eq 13, 3) := by decide +kernel
theorem dX4_negated_15 : decode cX4_negated 15 = .ok (.iload_n 2, 1) := by decide +kernel
theorem dX4_negated_16 : decode cX4_negated 16 = .ok (.iconst (-1), 1) := by decide +kernel
theorem dX4_negated_17 : decode cX4_negated 17 = .ok (.bipush 15, 2) := by decide +kernel
theorem dX4_negated_19 : decode cX4_negated 19 = .ok (.invokestatic 61, 3) := by decide +kernel
theorem dX4_negated_22 : decode cX4_negated 22 = .ok (.ifCond .ne 6, 3) := by decide +kernel
theorem dX4_negated_25 : decode cX4_negated 25 = .ok (.bipush (-2), 2) := by decide +kernel
theorem dX4_negated_27 : decode cX4_negated 27 = .ok (.ireturn, 1) := by decide +kernel
theorem dX4_negated_28 : decode cX4_negated 28 = .ok (.aload_n 0, 1) := by decide +kernel
theorem dX4_negated_29 : decode cX4_negated 29 = .ok (.bipush 7, 2) := by decide +kernel
theorem dX4_negated_31 : decode cX4_negated 31 = .ok (.iload_n 1, 1) := by decide +kernel
theorem dX4_negated_32 : decode cX4_negated 32 = .ok (.iload_n 2, 1) := by decide +kernel
theorem dX4_negated_33 : decode cX4_negated 33 = .ok (.invokevirtual 78, 3) := by decide +kernel
theorem dX4_negated_36 : decode cX4_negated 36 = .ok (.ireturn, 1) := by decide +kernel
theorem dX4_from_0 : decode cX4_from 0 = .ok (.aload_n 0, 1) := by decide +kernel
theorem dX4_from_1 : decode cX4_from 1 = .ok (.iconst 0, 1) := by decide +kernel
theorem dX4_from_2 : decode cX4_from 2 = .ok (.putfield 58, 3) := by decide +kernel
theorem dX4_from_5 : decode cX4_from 5 = .ok (.iload_n 1, 1) := by decide +kernel
theorem dX4_from_6 : decode cX4_from 6 = .ok (.invokestatic 68, 3) := by decide +kernel
theorem dX4_from_9 : decode cX4_from 9 = .ok (.ifCond .ne 6, 3) := by decide +kernel
theorem dX4_from_12 : decode cX4_from 12 = .ok (.bipush (-2), 2) := by decide +kernel
theorem dX4_from_14 : decode cX4_from 14 = .ok (.ireturn, 1) := by decide +kernel
theorem dX4_from_15 : decode cX4_from 15 = .ok (.iconst 0, 1) := by decide +kernel
theorem dX4_from_16 : decode cX4_from 16 = .ok (.istore_n 2, 1) := by decide +kernel
theorem dX4_from_17 : decode cX4_from 17 = .ok (.iconst 0, 1) := by decide +kernel
theorem dX4_from_18 : decode cX4_from 18 = .ok (.istore_n 3, 1) := by decide +kernel
theorem dX4_from_19 : decode cX4_from 19 = .ok (.iload_n 3, 1) := by decide +kernel
theorem dX4_from_20 : decode cX4_from 20 = .ok (.aload_n 0, 1) := by decide +kernel
theorem dX4_from_21 : decode cX4_from 21 = .ok (.getfield 72, 3) := by decide +kernel
theorem dX4_from_24 : decode cX4_from 24 = .ok (.if_icmp .ge 27, 3) := by decide +kernel
theorem dX4_from_27 : decode cX4_from 27 = .ok (.aload_n 0, 1) := by decide +kernel
theorem dX4_from_28 : decode cX4_from 28 = .ok (.getfield 7, 3) := by decide +kernel
theorem dX4_from_31 : decode cX4_from 31 = .ok (.iload_n 3, 1) := by decide +kernel
theorem dX4_from_32 : decode cX4_from 32 = .ok (.iaload, 1) := by decide +kernel
theorem dX4_from_33 : decode cX4_from 33 = .ok (.iload_n 1, 1) := by decide +kernel
theorem dX4_from_34 : decode cX4_from 34 = .ok (.if_icmp .ne 9, 3) := by decide +kernel
theorem dX4_from_37 : decode cX4_from 37 = .ok (.iload_n 2, 1) := by decide +kernel
theorem dX4_from_38 : decode cX4_from 38 = .ok (.iconst 1, 1) := by decide +kernel
theorem dX4_from_39 : decode cX4_from 39 = .ok (.iadd, 1) := by decide +kernel
theorem dX4_from_40 : decode cX4_from 40 = .ok (.goto 4, 3) := by decide +kernel
theorem dX4_from_43 : decode cX4_from 43 = .ok (.iload_n 2, 1) := by decide +kernel
theorem dX4_from_44 : decode cX4_from 44 = .ok (.istore_n 2, 1) := by decide +kernel
theorem dX4_from_45 : decode cX4_from 45 = .ok (.iinc 3 1, 3) := by decide +kernel
theorem dX4_from_48 : decode cX4_from 48 = .ok (.goto (-29), 3) := by decide +kernel
theorem dX4_from_51 : decode cX4_from 51 = .ok (.iload_n 2, 1) := by decide +kernel
theorem dX4_from_52 : decode cX4_from 52 = .ok (.ireturn, 1) := by decide +kernel
theorem dX4_steps_0 : decode cX4_steps 0 = .ok (.aload_n 0, 1) := by decide +kernel
theorem dX4_steps_1 : decode cX4_steps 1 = .ok (.iconst 0, 1) := by decide +kernel
theorem dX4_steps_2 : decode cX4_steps 2 = .ok (.putfield 58, 3) := by decide +kernel
theorem dX4_steps_5 : decode cX4_steps 5 = .ok (.iload_n 1, 1) := by decide +kernel
theorem dX4_steps_6 : decode cX4_steps 6 = .ok (.iconst 1, 1) := by decide +kernel
theorem dX4_steps_7 : decode cX4_steps 7 = .ok (.sipush 1024, 3) := by decide +kernel
theorem dX4_steps_10 : decode cX4_steps 10 = .ok (.invokestatic 61, 3) := by decide +kernel
theorem dX4_steps_13 : decode cX4_steps 13 = .ok (.ifCond .ne 6, 3) := by decide +kernel
theorem dX4_steps_16 : decode cX4_steps 16 = .ok (.bipush (-2), 2) := by decide +kernel
theorem dX4_steps_18 : decode cX4_steps 18 = .ok (.ireturn, 1) := by decide +kernel
theorem dX4_steps_19 : decode cX4_steps 19 = .ok (.aload_n 0, 1) := by decide +kernel
theorem dX4_steps_20 : decode cX4_steps 20 = .ok (.iload_n 1, 1) := by decide +kernel
theorem dX4_steps_21 : decode cX4_steps 21 = .ok (.putfield 28, 3) := by decide +kernel
theorem dX4_steps_24 : decode cX4_steps 24 = .ok (.iconst 1, 1) := by decide +kernel
theorem dX4_steps_25 : decode cX4_steps 25 = .ok (.ireturn, 1) := by decide +kernel
theorem dX4_cell_0 : decode cX4_cell 0 = .ok (.aload_n 0, 1) := by decide +kernel
theorem dX4_cell_1 : decode cX4_cell 1 = .ok (.getfield 33, 3) := by decide +kernel
theorem dX4_cell_4 : decode cX4_cell 4 = .ok (.sipush 1024, 3) := by decide +kernel
theorem dX4_cell_7 : decode cX4_cell 7 = .ok (.iload_n 1, 1) := by decide +kernel
theorem dX4_cell_8 : decode cX4_cell 8 = .ok (.imul, 1) := by decide +kernel
theorem dX4_cell_9 : decode cX4_cell 9 = .ok (.bipush 32, 2) := by decide +kernel
theorem dX4_cell_11 : decode cX4_cell 11 = .ok (.iload_n 2, 1) := by decide +kernel
theorem dX4_cell_12 : decode cX4_cell 12 = .ok (.imul, 1) := by decide +kernel
theorem dX4_cell_13 : decode cX4_cell 13 = .ok (.iadd, 1) := by decide +kernel
theorem dX4_cell_14 : decode cX4_cell 14 = .ok (.iload_n 3, 1) := by decide +kernel
theorem dX4_cell_15 : decode cX4_cell 15 = .ok (.iadd, 1) := by decide +kernel
theorem dX4_cell_16 : decode cX4_cell 16 = .ok (.iaload, 1) := by decide +kernel
theorem dX4_cell_17 : decode cX4_cell 17 = .ok (.ireturn, 1) := by decide +kernel
theorem dX4_put_0 : decode cX4_put 0 = .ok (.aload_n 0, 1) := by decide +kernel
theorem dX4_put_1 : decode cX4_put 1 = .ok (.getfield 33, 3) := by decide +kernel
theorem dX4_put_4 : decode cX4_put 4 = .ok (.sipush 1024, 3) := by decide +kernel
theorem dX4_put_7 : decode cX4_put 7 = .ok (.iload_n 1, 1) := by decide +kernel
theorem dX4_put_8 : decode cX4_put 8 = .ok (.imul, 1) := by decide +kernel
theorem dX4_put_9 : decode cX4_put 9 = .ok (.bipush 32, 2) := by decide +kernel
theorem dX4_put_11 : decode cX4_put 11 = .ok (.iload_n 2, 1) := by decide +kernel
theorem dX4_put_12 : decode cX4_put 12 = .ok (.imul, 1) := by decide +kernel
theorem dX4_put_13 : decode cX4_put 13 = .ok (.iadd, 1) := by decide +kernel
theorem dX4_put_14 : decode cX4_put 14 = .ok (.iload_n 3, 1) := by decide +kernel
theorem dX4_put_15 : decode cX4_put 15 = .ok (.iadd, 1) := by decide +kernel
theorem dX4_put_16 : decode cX4_put 16 = .ok (.lload 4, 2) := by decide +kernel
theorem dX4_put_18 : decode cX4_put 18 = .ok (.ldc2_w 82, 3) := by decide +kernel
theorem dX4_put_21 : decode cX4_put 21 = .ok (.lcmp, 1) := by decide +kernel
theorem dX4_put_22 : decode cX4_put 22 = .ok (.ifCond .le 9, 3) := by decide +kernel
theorem dX4_put_25 : decode cX4_put 25 = .ok (.ldc2_w 82, 3) := by decide +kernel
theorem dX4_put_28 : decode cX4_put 28 = .ok (.goto 5, 3) := by decide +kernel
theorem dX4_put_31 : decode cX4_put 31 = .ok (.lload 4, 2) := by decide +kernel
theorem dX4_put_33 : decode cX4_put 33 = .ok (.l2i, 1) := by decide +kernel
theorem dX4_put_34 : decode cX4_put 34 = .ok (.iastore, 1) := by decide +kernel
theorem dX4_put_35 : decode cX4_put 35 = .ok (.return_, 1) := by decide +kernel
theorem dX4_findNeeded_0 : decode cX4_findNeeded 0 = .ok (.iconst 1, 1) := by decide +kernel
theorem dX4_findNeeded_1 : decode cX4_findNeeded 1 = .ok (.istore_n 2, 1) := by decide +kernel
theorem dX4_findNeeded_2 : decode cX4_findNeeded 2 = .ok (.iload_n 2, 1) := by decide +kernel
theorem dX4_findNeeded_3 : decode cX4_findNeeded 3 = .ok (.aload_n 0, 1) := by decide +kernel
theorem dX4_findNeeded_4 : decode cX4_findNeeded 4 = .ok (.getfield 65, 3) := by decide +kernel
theorem dX4_findNeeded_7 : decode cX4_findNeeded 7 = .ok (.if_icmp .gt 25, 3) := by decide +kernel
theorem dX4_findNeeded_10 : decode cX4_findNeeded 10 = .ok (.aload_n 0, 1) := by decide +kernel
theorem dX4_findNeeded_11 : decode cX4_findNeeded 11 = .ok (.getfield 36, 3) := by decide +kernel
theorem dX4_findNeeded_14 : decode cX4_findNeeded 14 = .ok (.iload_n 2, 1) := by decide +kernel
theorem dX4_findNeeded_15 : decode cX4_findNeeded 15 = .ok (.iload_n 2, 1) := by decide +kernel
theorem dX4_findNeeded_16 : decode cX4_findNeeded 16 = .ok (.iload_n 1, 1) := by decide +kernel
theorem dX4_findNeeded_17 : decode cX4_findNeeded 17 = .ok (.if_icmp .ne 7, 3) := by decide +kernel
theorem dX4_findNeeded_20 : decode cX4_findNeeded 20 = .ok (.iconst 1, 1) := by decide +kernel
theorem dX4_findNeeded_21 : decode cX4_findNeeded 21 = .ok (.goto 4, 3) := by decide +kernel
theorem dX4_findNeeded_24 : decode cX4_findNeeded 24 = .ok (.iconst 0, 1) := by decide +kernel
theorem dX4_findNeeded_25 : decode cX4_findNeeded 25 = .ok (.bastore, 1) := by decide +kernel
theorem dX4_findNeeded_26 : decode cX4_findNeeded 26 = .ok (.iinc 2 1, 3) := by decide +kernel
theorem dX4_findNeeded_29 : decode cX4_findNeeded 29 = .ok (.goto (-27), 3) := by decide +kernel
theorem dX4_findNeeded_32 : decode cX4_findNeeded 32 = .ok (.iload_n 1, 1) := by decide +kernel
theorem dX4_findNeeded_33 : decode cX4_findNeeded 33 = .ok (.istore_n 2, 1) := by decide +kernel
theorem dX4_findNeeded_34 : decode cX4_findNeeded 34 = .ok (.iload_n 2, 1) := by decide +kernel
theorem dX4_findNeeded_35 : decode cX4_findNeeded 35 = .ok (.ifCond .le 80, 3) := by decide +kernel
theorem dX4_findNeeded_38 : decode cX4_findNeeded 38 = .ok (.aload_n 0, 1) := by decide +kernel
theorem dX4_findNeeded_39 : decode cX4_findNeeded 39 = .ok (.getfield 36, 3) := by decide +kernel
theorem dX4_findNeeded_42 : decode cX4_findNeeded 42 = .ok (.iload_n 2, 1) := by decide +kernel
theorem dX4_findNeeded_43 : decode cX4_findNeeded 43 = .ok (.baload, 1) := by decide +kernel
theorem dX4_findNeeded_44 : decode cX4_findNeeded 44 = .ok (.ifCond .eq 30, 3) := by decide +kernel
theorem dX4_findNeeded_47 : decode cX4_findNeeded 47 = .ok (.aload_n 0, 1) := by decide +kernel
theorem dX4_findNeeded_48 : decode cX4_findNeeded 48 = .ok (.getfield 19, 3) := by decide +kernel
theorem dX4_findNeeded_51 : decode cX4_findNeeded 51 = .ok (.iload_n 2, 1) := by decide +kernel
theorem dX4_findNeeded_52 : decode cX4_findNeeded 52 = .ok (.iaload, 1) := by decide +kernel
theorem dX4_findNeeded_53 : decode cX4_findNeeded 53 = .ok (.iconst 1, 1) := by decide +kernel
theorem dX4_findNeeded_54 : decode cX4_findNeeded 54 = .ok (.bipush 6, 2) := by decide +kernel
theorem dX4_findNeeded_56 : decode cX4_findNeeded 56 = .ok (.invokestatic 61, 3) := by decide +kernel
theorem dX4_findNeeded_59 : decode cX4_findNeeded 59 = .ok (.ifCond .eq 15, 3) := by decide +kernel
theorem dX4_findNeeded_62 : decode cX4_findNeeded 62 = .ok (.aload_n 0, 1) := by decide +kernel
theorem dX4_findNeeded_63 : decode cX4_findNeeded 63 = .ok (.getfield 36, 3) := by decide +kernel
theorem dX4_findNeeded_66 : decode cX4_findNeeded 66 = .ok (.aload_n 0, 1) := by decide +kernel
theorem dX4_findNeeded_67 : decode cX4_findNeeded 67 = .ok (.getfield 22, 3) := by decide +kernel
theorem dX4_findNeeded_70 : decode cX4_findNeeded 70 = .ok (.iload_n 2, 1) := by decide +kernel
theorem dX4_findNeeded_71 : decode cX4_findNeeded 71 = .ok (.iaload, 1) := by decide +kernel
theorem dX4_findNeeded_72 : decode cX4_findNeeded 72 = .ok (.iconst 1, 1) := by decide +kernel
theorem dX4_findNeeded_73 : decode cX4_findNeeded 73 = .ok (.bastore, 1) := by decide +kernel
theorem dX4_findNeeded_74 : decode cX4_findNeeded 74 = .ok (.aload_n 0, 1) := by decide +kernel
theorem dX4_findNeeded_75 : decode cX4_findNeeded 75 = .ok (.getfield 36, 3) := by decide +kernel
theorem dX4_findNeeded_78 : decode cX4_findNeeded 78 = .ok (.iload_n 2, 1) := by decide +kernel
theorem dX4_findNeeded_79 : decode cX4_findNeeded 79 = .ok (.baload, 1) := by decide +kernel
theorem dX4_findNeeded_80 : decode cX4_findNeeded 80 = .ok (.ifCond .eq 29, 3) := by decide +kernel
theorem dX4_findNeeded_83 : decode cX4_findNeeded 83 = .ok (.aload_n 0, 1) := by decide +kernel
theorem dX4_findNeeded_84 : decode cX4_findNeeded 84 = .ok (.getfield 19, 3) := by decide +kernel
theorem dX4_findNeeded_87 : decode cX4_findNeeded 87 = .ok (.iload_n 2, 1) := by decide +kernel
theorem dX4_findNeeded_88 : decode cX4_findNeeded 88 = .ok (.iaload, 1) := by decide +kernel
theorem dX4_findNeeded_89 : decode cX4_findNeeded 89 = .ok (.iconst 2, 1) := by decide +kernel
theorem dX4_findNeeded_90 : decode cX4_findNeeded 90 = .ok (.iconst 3, 1) := by decide +kernel
theorem dX4_findNeeded_91 : decode cX4_findNeeded 91 = .ok (.invokestatic 61, 3) := by decide +kernel
theorem dX4_findNeeded_94 : decode cX4_findNeeded 94 = .ok (.ifCond .eq 15, 3) := by decide +kernel
theorem dX4_findNeeded_97 : decode cX4_findNeeded 97 = .ok (.aload_n 0, 1) := by decide +kernel
theorem dX4_findNeeded_98 : decode cX4_findNeeded 98 = .ok (.getfield 36, 3) := by decide +kernel
theorem dX4_findNeeded_101 : decode cX4_findNeeded 101 = .ok (.aload_n 0, 1) := by decide +kernel
theorem dX4_findNeeded_102 : decode cX4_findNeeded 102 = .ok (.getfield 25, 3) := by decide +kernel
theorem dX4_findNeeded_105 : decode cX4_findNeeded 105 = .ok (.iload_n 2, 1) := by decide +kernel
theorem dX4_findNeeded_106 : decode cX4_findNeeded 106 = .ok (.iaload, 1) := by decide +kernel
theorem dX4_findNeeded_107 : decode cX4_findNeeded 107 = .ok (.iconst 1, 1) := by decide +kernel
theorem dX4_findNeeded_108 : decode cX4_findNeeded 108 = .ok (.bastore, 1) := by decide +kernel
theorem dX4_findNeeded_109 : decode cX4_findNeeded 109 = .ok (.iinc 2 (-1), 3) := by decide +kernel
theorem dX4_findNeeded_112 : decode cX4_findNeeded 112 = .ok (.goto (-78), 3) := by decide +kernel
theorem dX4_findNeeded_115 : decode cX4_findNeeded 115 = .ok (.return_, 1) := by decide +kernel
theorem dX4_findGraph_0 : decode cX4_findGraph 0 = .ok (.iconst 0, 1) := by decide +kernel
theorem dX4_findGraph_1 : decode cX4_findGraph 1 = .ok (.istore_n 3, 1) := by decide +kernel
theorem dX4_findGraph_2 : decode cX4_findGraph 2 = .ok (.iload_n 3, 1) := by decide +kernel
theorem dX4_findGraph_3 : decode cX4_findGraph 3 = .ok (.bipush 32, 2) := by decide +kernel
theorem dX4_findGraph_5 : decode cX4_findGraph 5 = .ok (.if_icmp .ge 30, 3) := by decide +kernel
theorem dX4_findGraph_8 : decode cX4_findGraph 8 = .ok (.aload_n 0, 1) := by decide +kernel
theorem dX4_findGraph_9 : decode cX4_findGraph 9 = .ok (.getfield 40, 3) := by decide +kernel
theorem dX4_findGraph_12 : decode cX4_findGraph 12 = .ok (.iload_n 3, 1) := by decide +kernel
theorem dX4_findGraph_13 : decode cX4_findGraph 13 = .ok (.iload_n 3, 1) := by decide +kernel
theorem dX4_findGraph_14 : decode cX4_findGraph 14 = .ok (.iload_n 1, 1) := by decide +kernel
theorem dX4_findGraph_15 : decode cX4_findGraph 15 = .ok (.if_icmp .eq 8, 3) := by decide +kernel
theorem dX4_findGraph_18 : decode cX4_findGraph 18 = .ok (.iload_n 3, 1) := by decide +kernel
theorem dX4_findGraph_19 : decode cX4_findGraph 19 = .ok (.iload_n 2, 1) := by decide +kernel
theorem dX4_findGraph_20 : decode cX4_findGraph 20 = .ok (.if_icmp .ne 7, 3) := by decide +kernel
theorem dX4_findGraph_23 : decode cX4_findGraph 23 = .ok (.iconst 1, 1) := by decide +kernel
theorem dX4_findGraph_24 : decode cX4_findGraph 24 = .ok (.goto 4, 3) := by decide +kernel
theorem dX4_findGraph_27 : decode cX4_findGraph 27 = .ok (.iconst 0, 1) := by decide +kernel
theorem dX4_findGraph_28 : decode cX4_findGraph 28 = .ok (.bastore, 1) := by decide +kernel
theorem dX4_findGraph_29 : decode cX4_findGraph 29 = .ok (.iinc 3 1, 3) := by decide +kernel
theorem dX4_findGraph_32 : decode cX4_findGraph 32 = .ok (.goto (-30), 3) := by decide +kernel
theorem dX4_findGraph_35 : decode cX4_findGraph 35 = .ok (.iconst 0, 1) := by decide +kernel
theorem dX4_findGraph_36 : decode cX4_findGraph 36 = .ok (.istore_n 3, 1) := by decide +kernel
theorem dX4_findGraph_37 : decode cX4_findGraph 37 = .ok (.iload_n 3, 1) := by decide +kernel
theorem dX4_findGraph_38 : decode cX4_findGraph 38 = .ok (.aload_n 0, 1) := by decide +kernel
theorem dX4_findGraph_39 : decode cX4_findGraph 39 = .ok (.getfield 72, 3) := by decide +kernel
theorem dX4_findGraph_42 : decode cX4_findGraph 42 = .ok (.if_icmp .ge 33, 3) := by decide +kernel
theorem dX4_findGraph_45 : decode cX4_findGraph 45 = .ok (.aload_n 0, 1) := by decide +kernel
theorem dX4_findGraph_46 : decode cX4_findGraph 46 = .ok (.getfield 40, 3) := by decide +kernel
theorem dX4_findGraph_49 : decode cX4_findGraph 49 = .ok (.aload_n 0, 1) := by decide +kernel
theorem dX4_findGraph_50 : decode cX4_findGraph 50 = .ok (.getfield 7, 3) := by decide +kernel
theorem dX4_findGraph_53 : decode cX4_findGraph 53 = .ok (.iload_n 3, 1) := by decide +kernel
theorem dX4_findGraph_54 : decode cX4_findGraph 54 = .ok (.iaload, 1) := by decide +kernel
theorem dX4_findGraph_55 : decode cX4_findGraph 55 = .ok (.iconst 1, 1) := by decide +kernel
theorem dX4_findGraph_56 : decode cX4_findGraph 56 = .ok (.bastore, 1) := by decide +kernel
theorem dX4_findGraph_57 : decode cX4_findGraph 57 = .ok (.aload_n 0, 1) := by decide +kernel
theorem dX4_findGraph_58 : decode cX4_findGraph 58 = .ok (.getfield 40, 3) := by decide +kernel
theorem dX4_findGraph_61 : decode cX4_findGraph 61 = .ok (.aload_n 0, 1) := by decide +kernel
theorem dX4_findGraph_62 : decode cX4_findGraph 62 = .ok (.getfield 16, 3) := by decide +kernel
theorem dX4_findGraph_65 : decode cX4_findGraph 65 = .ok (.iload_n 3, 1) := by decide +kernel
theorem dX4_findGraph_66 : decode cX4_findGraph 66 = .ok (.iaload, 1) := by decide +kernel
theorem dX4_findGraph_67 : decode cX4_findGraph 67 = .ok (.iconst 1, 1) := by decide +kernel
theorem dX4_findGraph_68 : decode cX4_findGraph 68 = .ok (.bastore, 1) := by decide +kernel
theorem dX4_findGraph_69 : decode cX4_findGraph 69 = .ok (.iinc 3 1, 3) := by decide +kernel
theorem dX4_findGraph_72 : decode cX4_findGraph 72 = .ok (.goto (-35), 3) := by decide +kernel
theorem dX4_findGraph_75 : decode cX4_findGraph 75 = .ok (.return_, 1) := by decide +kernel
theorem dX4_makeLinks_0 : decode cX4_makeLinks 0 = .ok (.iconst 0, 1) := by decide +kernel
theorem dX4_makeLinks_1 : decode cX4_makeLinks 1 = .ok (.istore_n 2, 1) := by decide +kernel
theorem dX4_makeLinks_2 : decode cX4_makeLinks 2 = .ok (.iload_n 2, 1) := by decide +kernel
theorem dX4_makeLinks_3 : decode cX4_makeLinks 3 = .ok (.aload_n 0, 1) := by decide +kernel
theorem dX4_makeLinks_4 : decode cX4_makeLinks 4 = .ok (.getfield 72, 3) := by decide +kernel
theorem dX4_makeLinks_7 : decode cX4_makeLinks 7 = .ok (.if_icmp .ge 112, 3) := by decide +kernel
theorem dX4_makeLinks_10 : decode cX4_makeLinks 10 = .ok (.aload_n 0, 1) := by decide +kernel
theorem dX4_makeLinks_11 : decode cX4_makeLinks 11 = .ok (.getfield 13, 3) := by decide +kernel
theorem dX4_makeLinks_14 : decode cX4_makeLinks 14 = .ok (.iload_n 2, 1) := by decide +kernel
theorem dX4_makeLinks_15 : decode cX4_makeLinks 15 = .ok (.iaload, 1) := by decide +kernel
theorem dX4_makeLinks_16 : decode cX4_makeLinks 16 = .ok (.istore_n 3, 1) := by decide +kernel
theorem dX4_makeLinks_17 : decode cX4_makeLinks 17 = .ok (.aload_n 0, 1) := by decide +kernel
theorem dX4_makeLinks_18 : decode cX4_makeLinks 18 = .ok (.getfield 19, 3) := by decide +kernel
theorem dX4_makeLinks_21 : decode cX4_makeLinks 21 = .ok (.iload_n 1, 1) := by decide +kernel
theorem dX4_makeLinks_22 : decode cX4_makeLinks 22 = .ok (.iaload, 1) := by decide +kernel
theorem dX4_makeLinks_23 : decode cX4_makeLinks 23 = .ok (.ifCond .ne 21, 3) := by decide +kernel
theorem dX4_makeLinks_26 : decode cX4_makeLinks 26 = .ok (.iload_n 3, 1) := by decide +kernel
theorem dX4_makeLinks_27 : decode cX4_makeLinks 27 = .ok (.aload_n 0, 1) := by decide +kernel
theorem dX4_makeLinks_28 : decode cX4_makeLinks 28 = .ok (.getfield 22, 3) := by decide +kernel
theorem dX4_makeLinks_31 : decode cX4_makeLinks 31 = .ok (.iload_n 1, 1) := by decide +kernel
theorem dX4_makeLinks_32 : decode cX4_makeLinks 32 = .ok (.iaload, 1) := by decide +kernel
theorem dX4_makeLinks_33 : decode cX4_makeLinks 33 = .ok (.if_icmp .ne 7, 3) := by decide +kernel
theorem dX4_makeLinks_36 : decode cX4_makeLinks 36 = .ok (.iconst 1, 1) := by decide +kernel
theorem dX4_makeLinks_37 : decode cX4_makeLinks 37 = .ok (.goto 32, 3) := by decide +kernel
theorem dX4_makeLinks_40 : decode cX4_makeLinks 40 = .ok (.iconst 0, 1) := by decide +kernel
theorem dX4_makeLinks_41 : decode cX4_makeLinks 41 = .ok (.goto 28, 3) := by decide +kernel
theorem dX4_makeLinks_44 : decode cX4_makeLinks 44 = .ok (.iload_n 3, 1) := by decide +kernel
theorem dX4_makeLinks_45 : decode cX4_makeLinks 45 = .ok (.aload_n 0, 1) := by decide +kernel
theorem dX4_makeLinks_46 : decode cX4_makeLinks 46 = .ok (.getfield 22, 3) := by decide +kernel
theorem dX4_makeLinks_49 : decode cX4_makeLinks 49 = .ok (.iload_n 1, 1) := by decide +kernel
theorem dX4_makeLinks_50 : decode cX4_makeLinks 50 = .ok (.iaload, 1) := by decide +kernel
theorem dX4_makeLinks_51 : decode cX4_makeLinks 51 = .ok (.if_icmp .eq 17, 3) := by decide +kernel
theorem dX4_makeLinks_54 : decode cX4_makeLinks 54 = .ok (.iload_n 3, 1) := by decide +kernel
theorem dX4_makeLinks_55 : decode cX4_makeLinks 55 = .ok (.aload_n 0, 1) := by decide +kernel
theorem dX4_makeLinks_56 : decode cX4_makeLinks 56 = .ok (.getfield 25, 3) := by decide +kernel
theorem dX4_makeLinks_59 : decode cX4_makeLinks 59 = .ok (.iload_n 1, 1) := by decide +kernel
theorem dX4_makeLinks_60 : decode cX4_makeLinks 60 = .ok (.iaload, 1) := by decide +kernel
theorem dX4_makeLinks_61 : decode cX4_makeLinks 61 = .ok (.if_icmp .eq 7, 3) := by decide +kernel
theorem dX4_makeLinks_64 : decode cX4_makeLinks 64 = .ok (.iconst 1, 1) := by decide +kernel
theorem dX4_makeLinks_65 : decode cX4_makeLinks 65 = .ok (.goto 4, 3) := by decide +kernel
theorem dX4_makeLinks_68 : decode cX4_makeLinks 68 = .ok (.iconst 0, 1) := by decide +kernel
theorem dX4_makeLinks_69 : decode cX4_makeLinks 69 = .ok (.istore 4, 2) := by decide +kernel
theorem dX4_makeLinks_71 : decode cX4_makeLinks 71 = .ok (.iload 4, 2) := by decide +kernel
theorem dX4_makeLinks_73 : decode cX4_makeLinks 73 = .ok (.ifCond .eq 40, 3) := by decide +kernel
theorem dX4_makeLinks_76 : decode cX4_makeLinks 76 = .ok (.aload_n 0, 1) := by decide +kernel
theorem dX4_makeLinks_77 : decode cX4_makeLinks 77 = .ok (.iload_n 1, 1) := by decide +kernel
theorem dX4_makeLinks_78 : decode cX4_makeLinks 78 = .ok (.aload_n 0, 1) := by decide +kernel
theorem dX4_makeLinks_79 : decode cX4_makeLinks 79 = .ok (.getfield 7, 3) := by decide +kernel
theorem dX4_makeLinks_82 : decode cX4_makeLinks 82 = .ok (.iload_n 2, 1) := by decide +kernel
theorem dX4_makeLinks_83 : decode cX4_makeLinks 83 = .ok (.iaload, 1) := by decide +kernel
theorem dX4_makeLinks_84 : decode cX4_makeLinks 84 = .ok (.aload_n 0, 1) := by decide +kernel
theorem dX4_makeLinks_85 : decode cX4_makeLinks 85 = .ok (.getfield 16, 3) := by decide +kernel
theorem dX4_makeLinks_88 : decode cX4_makeLinks 88 = .ok (.iload_n 2, 1) := by decide +kernel
theorem dX4_makeLinks_89 : decode cX4_makeLinks 89 = .ok (.iaload, 1) := by decide +kernel
theorem dX4_makeLinks_90 : decode cX4_makeLinks 90 = .ok (.aload_n 0, 1) := by decide +kernel
theorem dX4_makeLinks_91 : decode cX4_makeLinks 91 = .ok (.iload_n 1, 1) := by decide +kernel
theorem dX4_makeLinks_92 : decode cX4_makeLinks 92 = .ok (.aload_n 0, 1) := by decide +kernel
theorem dX4_makeLinks_93 : decode cX4_makeLinks 93 = .ok (.getfield 7, 3) := by decide +kernel
theorem dX4_makeLinks_96 : decode cX4_makeLinks 96 = .ok (.iload_n 2, 1) := by decide +kernel
theorem dX4_makeLinks_97 : decode cX4_makeLinks 97 = .ok (.iaload, 1) := by decide +kernel
theorem dX4_makeLinks_98 : decode cX4_makeLinks 98 = .ok (.aload_n 0, 1) := by decide +kernel
theorem dX4_makeLinks_99 : decode cX4_makeLinks 99 = .ok (.getfield 16, 3) := by decide +kernel
theorem dX4_makeLinks_102 : decode cX4_makeLinks 102 = .ok (.iload_n 2, 1) := by decide +kernel
theorem dX4_makeLinks_103 : decode cX4_makeLinks 103 = .ok (.iaload, 1) := by decide +kernel
theorem dX4_makeLinks_104 : decode cX4_makeLinks 104 = .ok (.invokevirtual 84, 3) := by decide +kernel
theorem dX4_makeLinks_107 : decode cX4_makeLinks 107 = .ok (.i2l, 1) := by decide +kernel
theorem dX4_makeLinks_108 : decode cX4_makeLinks 108 = .ok (.lconst 1, 1) := by decide +kernel
theorem dX4_makeLinks_109 : decode cX4_makeLinks 109 = .ok (.ladd, 1) := by decide +kernel
theorem dX4_makeLinks_110 : decode cX4_makeLinks 110 = .ok (.invokevirtual 87, 3) := by decide +kernel
theorem dX4_makeLinks_113 : decode cX4_makeLinks 113 = .ok (.iinc 2 1, 3) := by decide +kernel
theorem dX4_makeLinks_116 : decode cX4_makeLinks 116 = .ok (.goto (-114), 3) := by decide +kernel
theorem dX4_makeLinks_119 : decode cX4_makeLinks 119 = .ok (.return_, 1) := by decide +kernel
theorem dX4_joined_0 : decode cX4_joined 0 = .ok (.aload_n 0, 1) := by decide +kernel
theorem dX4_joined_1 : decode cX4_joined 1 = .ok (.getfield 22, 3) := by decide +kernel
theorem dX4_joined_4 : decode cX4_joined 4 = .ok (.iload_n 1, 1) := by decide +kernel
theorem dX4_joined_5 : decode cX4_joined 5 = .ok (.iaload, 1) := by decide +kernel
theorem dX4_joined_6 : decode cX4_joined 6 = .ok (.istore 4, 2) := by decide +kernel
theorem dX4_joined_8 : decode cX4_joined 8 = .ok (.aload_n 0, 1) := by decide +kernel
theorem dX4_joined_9 : decode cX4_joined 9 = .ok (.getfield 25, 3) := by decide +kernel
theorem dX4_joined_12 : decode cX4_joined 12 = .ok (.iload_n 1, 1) := by decide +kernel
theorem dX4_joined_13 : decode cX4_joined 13 = .ok (.iaload, 1) := by decide +kernel
theorem dX4_joined_14 : decode cX4_joined 14 = .ok (.istore 5, 2) := by decide +kernel
theorem dX4_joined_16 : decode cX4_joined 16 = .ok (.aload_n 0, 1) := by decide +kernel
theorem dX4_joined_17 : decode cX4_joined 17 = .ok (.getfield 19, 3) := by decide +kernel
theorem dX4_joined_20 : decode cX4_joined 20 = .ok (.iload_n 1, 1) := by decide +kernel
theorem dX4_joined_21 : decode cX4_joined 21 = .ok (.iaload, 1) := by decide +kernel
theorem dX4_joined_22 : decode cX4_joined 22 = .ok (.iconst 1, 1) := by decide +kernel
theorem dX4_joined_23 : decode cX4_joined 23 = .ok (.if_icmp .ne 13, 3) := by decide +kernel
theorem dX4_joined_26 : decode cX4_joined 26 = .ok (.aload_n 0, 1) := by decide +kernel
theorem dX4_joined_27 : decode cX4_joined 27 = .ok (.iload 4, 2) := by decide +kernel
theorem dX4_joined_29 : decode cX4_joined 29 = .ok (.iload_n 3, 1) := by decide +kernel
theorem dX4_joined_30 : decode cX4_joined 30 = .ok (.iload_n 2, 1) := by decide +kernel
theorem dX4_joined_31 : decode cX4_joined 31 = .ok (.invokevirtual 84, 3) := by decide +kernel
theorem dX4_joined_34 : decode cX4_joined 34 = .ok (.i2l, 1) := by decide +kernel
theorem dX4_joined_35 : decode cX4_joined 35 = .ok (.lreturn, 1) := by decide +kernel
theorem dX4_joined_36 : decode cX4_joined 36 = .ok (.aload_n 0, 1) := by decide +kernel
theorem dX4_joined_37 : decode cX4_joined 37 = .ok (.getfield 19, 3) := by decide +kernel
theorem dX4_joined_40 : decode cX4_joined 40 = .ok (.iload_n 1, 1) := by decide +kernel
theorem dX4_joined_41 : decode cX4_joined 41 = .ok (.iaload, 1) := by decide +kernel
theorem dX4_joined_42 : decode cX4_joined 42 = .ok (.iconst 3, 1) := by decide +kernel
theorem dX4_joined_43 : decode cX4_joined 43 = .ok (.if_icmp .ne 23, 3) := by decide +kernel
theorem dX4_joined_46 : decode cX4_joined 46 = .ok (.aload_n 0, 1) := by decide +kernel
theorem dX4_joined_47 : decode cX4_joined 47 = .ok (.iload 4, 2) := by decide +kernel
theorem dX4_joined_49 : decode cX4_joined 49 = .ok (.iload_n 2, 1) := by decide +kernel
theorem dX4_joined_50 : decode cX4_joined 50 = .ok (.iload_n 3, 1) := by decide +kernel
theorem dX4_joined_51 : decode cX4_joined 51 = .ok (.invokevirtual 84, 3) := by decide +kernel
theorem dX4_joined_54 : decode cX4_joined 54 = .ok (.i2l, 1) := by decide +kernel
theorem dX4_joined_55 : decode cX4_joined 55 = .ok (.aload_n 0, 1) := by decide +kernel
theorem dX4_joined_56 : decode cX4_joined 56 = .ok (.iload 5, 2) := by decide +kernel
theorem dX4_joined_58 : decode cX4_joined 58 = .ok (.iload_n 2, 1) := by decide +kernel
theorem dX4_joined_59 : decode cX4_joined 59 = .ok (.iload_n 3, 1) := by decide +kernel
theorem dX4_joined_60 : decode cX4_joined 60 = .ok (.invokevirtual 84, 3) := by decide +kernel
theorem dX4_joined_63 : decode cX4_joined 63 = .ok (.i2l, 1) := by decide +kernel
theorem dX4_joined_64 : decode cX4_joined 64 = .ok (.ladd, 1) := by decide +kernel
theorem dX4_joined_65 : decode cX4_joined 65 = .ok (.lreturn, 1) := by decide +kernel
theorem dX4_joined_66 : decode cX4_joined 66 = .ok (.aload_n 0, 1) := by decide +kernel
theorem dX4_joined_67 : decode cX4_joined 67 = .ok (.getfield 19, 3) := by decide +kernel
theorem dX4_joined_70 : decode cX4_joined 70 = .ok (.iload_n 1, 1) := by decide +kernel
theorem dX4_joined_71 : decode cX4_joined 71 = .ok (.iaload, 1) := by decide +kernel
theorem dX4_joined_72 : decode cX4_joined 72 = .ok (.bipush 6, 2) := by decide +kernel
theorem dX4_joined_74 : decode cX4_joined 74 = .ok (.if_icmp .ne 34, 3) := by decide +kernel
theorem dX4_joined_77 : decode cX4_joined 77 = .ok (.iload_n 2, 1) := by decide +kernel
theorem dX4_joined_78 : decode cX4_joined 78 = .ok (.iload_n 3, 1) := by decide +kernel
theorem dX4_joined_79 : decode cX4_joined 79 = .ok (.if_icmp .ne 12, 3) := by decide +kernel
theorem dX4_joined_82 : decode cX4_joined 82 = .ok (.aload_n 0, 1) := by decide +kernel
theorem dX4_joined_83 : decode cX4_joined 83 = .ok (.getfield 40, 3) := by decide +kernel
theorem dX4_joined_86 : decode cX4_joined 86 = .ok (.iload_n 2, 1) := by decide +kernel
theorem dX4_joined_87 : decode cX4_joined 87 = .ok (.baload, 1) := by decide +kernel
theorem dX4_joined_88 : decode cX4_joined 88 = .ok (.ifCond .ne 14, 3) := by decide +kernel
theorem dX4_joined_91 : decode cX4_joined 91 = .ok (.aload_n 0, 1) := by decide +kernel
theorem dX4_joined_92 : decode cX4_joined 92 = .ok (.iload 4, 2) := by decide +kernel
theorem dX4_joined_94 : decode cX4_joined 94 = .ok (.iload_n 2, 1) := by decide +kernel
theorem dX4_joined_95 : decode cX4_joined 95 = .ok (.iload_n 3, 1) := by decide +kernel
theorem dX4_joined_96 : decode cX4_joined 96 = .ok (.invokevirtual 84, 3) := by decide +kernel
theorem dX4_joined_99 : decode cX4_joined 99 = .ok (.ifCond .le 7, 3) := by decide +kernel
theorem dX4_joined_102 : decode cX4_joined 102 = .ok (.lconst 1, 1) := by decide +kernel
theorem dX4_joined_103 : decode cX4_joined 103 = .ok (.goto 4, 3) := by decide +kernel
theorem dX4_joined_106 : decode cX4_joined 106 = .ok (.lconst 0, 1) := by decide +kernel
theorem dX4_joined_107 : decode cX4_joined 107 = .ok (.lreturn, 1) := by decide +kernel
theorem dX4_joined_108 : decode cX4_joined 108 = .ok (.lconst 0, 1) := by decide +kernel
theorem dX4_joined_109 : decode cX4_joined 109 = .ok (.lstore 6, 2) := by decide +kernel
theorem dX4_joined_111 : decode cX4_joined 111 = .ok (.iconst 0, 1) := by decide +kernel
theorem dX4_joined_112 : decode cX4_joined 112 = .ok (.istore 8, 2) := by decide +kernel
theorem dX4_joined_114 : decode cX4_joined 114 = .ok (.iload 8, 2) := by decide +kernel
theorem dX4_joined_116 : decode cX4_joined 116 = .ok (.bipush 32, 2) := by decide +kernel
theorem dX4_joined_118 : decode cX4_joined 118 = .ok (.if_icmp .ge 35, 3) := by decide +kernel
theorem dX4_joined_121 : decode cX4_joined 121 = .ok (.lload 6, 2) := by decide +kernel
theorem dX4_joined_123 : decode cX4_joined 123 = .ok (.aload_n 0, 1) := by decide +kernel
theorem dX4_joined_124 : decode cX4_joined 124 = .ok (.iload 4, 2) := by decide +kernel
theorem dX4_joined_126 : decode cX4_joined 126 = .ok (.iload_n 2, 1) := by decide +kernel
theorem dX4_joined_127 : decode cX4_joined 127 = .ok (.iload 8, 2) := by decide +kernel
theorem dX4_joined_129 : decode cX4_joined 129 = .ok (.invokevirtual 84, 3) := by decide +kernel
theorem dX4_joined_132 : decode cX4_joined 132 = .ok (.i2l, 1) := by decide +kernel
theorem dX4_joined_133 : decode cX4_joined 133 = .ok (.aload_n 0, 1) := by decide +kernel
theorem dX4_joined_134 : decode cX4_joined 134 = .ok (.iload 5, 2) := by decide +kernel
theorem dX4_joined_136 : decode cX4_joined 136 = .ok (.iload 8, 2) := by decide +kernel
theorem dX4_joined_138 : decode cX4_joined 138 = .ok (.iload_n 3, 1) := by decide +kernel
theorem dX4_joined_139 : decode cX4_joined 139 = .ok (.invokevirtual 84, 3) := by decide +kernel
theorem dX4_joined_142 : decode cX4_joined 142 = .ok (.i2l, 1) := by decide +kernel
theorem dX4_joined_143 : decode cX4_joined 143 = .ok (.lmul, 1) := by decide +kernel
theorem dX4_joined_144 : decode cX4_joined 144 = .ok (.ladd, 1) := by decide +kernel
theorem dX4_joined_145 : decode cX4_joined 145 = .ok (.lstore 6, 2) := by decide +kernel
theorem dX4_joined_147 : decode cX4_joined 147 = .ok (.iinc 8 1, 3) := by decide +kernel
theorem dX4_joined_150 : decode cX4_joined 150 = .ok (.goto (-36), 3) := by decide +kernel
theorem dX4_joined_153 : decode cX4_joined 153 = .ok (.lload 6, 2) := by decide +kernel
theorem dX4_joined_155 : decode cX4_joined 155 = .ok (.lreturn, 1) := by decide +kernel
theorem dX4_walk_0 : decode cX4_walk 0 = .ok (.iconst 0, 1) := by decide +kernel
theorem dX4_walk_1 : decode cX4_walk 1 = .ok (.istore_n 3, 1) := by decide +kernel
theorem dX4_walk_2 : decode cX4_walk 2 = .ok (.iconst 0, 1) := by decide +kernel
theorem dX4_walk_3 : decode cX4_walk 3 = .ok (.istore 4, 2) := by decide +kernel
theorem dX4_walk_5 : decode cX4_walk 5 = .ok (.iload 4, 2) := by decide +kernel
theorem dX4_walk_7 : decode cX4_walk 7 = .ok (.bipush 32, 2) := by decide +kernel
theorem dX4_walk_9 : decode cX4_walk 9 = .ok (.if_icmp .ge 47, 3) := by decide +kernel
theorem dX4_walk_12 : decode cX4_walk 12 = .ok (.aload_n 0, 1) := by decide +kernel
theorem dX4_walk_13 : decode cX4_walk 13 = .ok (.getfield 43, 3) := by decide +kernel
theorem dX4_walk_16 : decode cX4_walk 16 = .ok (.iload 4, 2) := by decide +kernel
theorem dX4_walk_18 : decode cX4_walk 18 = .ok (.iconst (-1), 1) := by decide +kernel
theorem dX4_walk_19 : decode cX4_walk 19 = .ok (.iastore, 1) := by decide +kernel
theorem dX4_walk_20 : decode cX4_walk 20 = .ok (.aload_n 0, 1) := by decide +kernel
theorem dX4_walk_21 : decode cX4_walk 21 = .ok (.iload_n 1, 1) := by decide +kernel
theorem dX4_walk_22 : decode cX4_walk 22 = .ok (.iload_n 2, 1) := by decide +kernel
theorem dX4_walk_23 : decode cX4_walk 23 = .ok (.iload 4, 2) := by decide +kernel
theorem dX4_walk_25 : decode cX4_walk 25 = .ok (.invokevirtual 84, 3) := by decide +kernel
theorem dX4_walk_28 : decode cX4_walk 28 = .ok (.ifCond .le 22, 3) := by decide +kernel
theorem dX4_walk_31 : decode cX4_walk 31 = .ok (.aload_n 0, 1) := by decide +kernel
theorem dX4_walk_32 : decode cX4_walk 32 = .ok (.getfield 43, 3) := by decide +kernel
theorem dX4_walk_35 : decode cX4_walk 35 = .ok (.iload 4, 2) := by decide +kernel
theorem dX4_walk_37 : decode cX4_walk 37 = .ok (.iconst 1, 1) := by decide +kernel
theorem dX4_walk_38 : decode cX4_walk 38 = .ok (.iastore, 1) := by decide +kernel
theorem dX4_walk_39 : decode cX4_walk 39 = .ok (.aload_n 0, 1) := by decide +kernel
theorem dX4_walk_40 : decode cX4_walk 40 = .ok (.getfield 46, 3) := by decide +kernel
theorem dX4_walk_43 : decode cX4_walk 43 = .ok (.iload_n 3, 1) := by decide +kernel
theorem dX4_walk_44 : decode cX4_walk 44 = .ok (.iload 4, 2) := by decide +kernel
theorem dX4_walk_46 : decode cX4_walk 46 = .ok (.iastore, 1) := by decide +kernel
theorem dX4_walk_47 : decode cX4_walk 47 = .ok (.iinc 3 1, 3) := by decide +kernel
theorem dX4_walk_50 : decode cX4_walk 50 = .ok (.iinc 4 1, 3) := by decide +kernel
theorem dX4_walk_53 : decode cX4_walk 53 = .ok (.goto (-48), 3) := by decide +kernel
theorem dX4_walk_56 : decode cX4_walk 56 = .ok (.iconst 0, 1) := by decide +kernel
theorem dX4_walk_57 : decode cX4_walk 57 = .ok (.istore 4, 2) := by decide +kernel
theorem dX4_walk_59 : decode cX4_walk 59 = .ok (.iload 4, 2) := by decide +kernel
theorem dX4_walk_61 : decode cX4_walk 61 = .ok (.iload_n 3, 1) := by decide +kernel
theorem dX4_walk_62 : decode cX4_walk 62 = .ok (.if_icmp .ge 83, 3) := by decide +kernel
theorem dX4_walk_65 : decode cX4_walk 65 = .ok (.aload_n 0, 1) := by decide +kernel
theorem dX4_walk_66 : decode cX4_walk 66 = .ok (.getfield 46, 3) := by decide +kernel
theorem dX4_walk_69 : decode cX4_walk 69 = .ok (.iload 4, 2) := by decide +kernel
theorem dX4_walk_71 : decode cX4_walk 71 = .ok (.iaload, 1) := by decide +kernel
theorem dX4_walk_72 : decode cX4_walk 72 = .ok (.istore 5, 2) := by decide +kernel
theorem dX4_walk_74 : decode cX4_walk 74 = .ok (.iconst 0, 1) := by decide +kernel
theorem dX4_walk_75 : decode cX4_walk 75 = .ok (.istore 6, 2) := by decide +kernel
theorem dX4_walk_77 : decode cX4_walk 77 = .ok (.iload 6, 2) := by decide +kernel
theorem dX4_walk_79 : decode cX4_walk 79 = .ok (.bipush 32, 2) := by decide +kernel
theorem dX4_walk_81 : decode cX4_walk 81 = .ok (.if_icmp .ge 58, 3) := by decide +kernel
theorem dX4_walk_84 : decode cX4_walk 84 = .ok (.aload_n 0, 1) := by decide +kernel
theorem dX4_walk_85 : decode cX4_walk 85 = .ok (.getfield 43, 3) := by decide +kernel
theorem dX4_walk_88 : decode cX4_walk 88 = .ok (.iload 6, 2) := by decide +kernel
theorem dX4_walk_90 : decode cX4_walk 90 = .ok (.iaload, 1) := by decide +kernel
theorem dX4_walk_91 : decode cX4_walk 91 = .ok (.ifCond .ge 42, 3) := by decide +kernel
theorem dX4_walk_94 : decode cX4_walk 94 = .ok (.aload_n 0, 1) := by decide +kernel
theorem dX4_walk_95 : decode cX4_walk 95 = .ok (.iload_n 1, 1) := by decide +kernel
theorem dX4_walk_96 : decode cX4_walk 96 = .ok (.iload 5, 2) := by decide +kernel
theorem dX4_walk_98 : decode cX4_walk 98 = .ok (.iload 6, 2) := by decide +kernel
theorem dX4_walk_100 : decode cX4_walk 100 = .ok (.invokevirtual 84, 3) := by decide +kernel
theorem dX4_walk_103 : decode cX4_walk 103 = .ok (.ifCond .le 30, 3) := by decide +kernel
theorem dX4_walk_106 : decode cX4_walk 106 = .ok (.aload_n 0, 1) := by decide +kernel
theorem dX4_walk_107 : decode cX4_walk 107 = .ok (.getfield 43, 3) := by decide +kernel
theorem dX4_walk_110 : decode cX4_walk 110 = .ok (.iload 6, 2) := by decide +kernel
theorem dX4_walk_112 : decode cX4_walk 112 = .ok (.aload_n 0, 1) := by decide +kernel
theorem dX4_walk_113 : decode cX4_walk 113 = .ok (.getfield 43, 3) := by decide +kernel
theorem dX4_walk_116 : decode cX4_walk 116 = .ok (.iload 5, 2) := by decide +kernel
theorem dX4_walk_118 : decode cX4_walk 118 = .ok (.iaload, 1) := by decide +kernel
theorem dX4_walk_119 : decode cX4_walk 119 = .ok (.iconst 1, 1) := by decide +kernel
theorem dX4_walk_120 : decode cX4_walk 120 = .ok (.iadd, 1) := by decide +kernel
theorem dX4_walk_121 : decode cX4_walk 121 = .ok (.iastore, 1) := by decide +kernel
theorem dX4_walk_122 : decode cX4_walk 122 = .ok (.aload_n 0, 1) := by decide +kernel
theorem dX4_walk_123 : decode cX4_walk 123 = .ok (.getfield 46, 3) := by decide +kernel
theorem dX4_walk_126 : decode cX4_walk 126 = .ok (.iload_n 3, 1) := by decide +kernel
theorem dX4_walk_127 : decode cX4_walk 127 = .ok (.iload 6, 2) := by decide +kernel
theorem dX4_walk_129 : decode cX4_walk 129 = .ok (.iastore, 1) := by decide +kernel
theorem dX4_walk_130 : decode cX4_walk 130 = .ok (.iinc 3 1, 3) := by decide +kernel
theorem dX4_walk_133 : decode cX4_walk 133 = .ok (.iinc 6 1, 3) := by decide +kernel
theorem dX4_walk_136 : decode cX4_walk 136 = .ok (.goto (-59), 3) := by decide +kernel
theorem dX4_walk_139 : decode cX4_walk 139 = .ok (.iinc 4 1, 3) := by decide +kernel
theorem dX4_walk_142 : decode cX4_walk 142 = .ok (.goto (-83), 3) := by decide +kernel
theorem dX4_walk_145 : decode cX4_walk 145 = .ok (.return_, 1) := by decide +kernel
theorem dX4_makeWalks_0 : decode cX4_makeWalks 0 = .ok (.iconst 0, 1) := by decide +kernel
theorem dX4_makeWalks_1 : decode cX4_makeWalks 1 = .ok (.istore_n 2, 1) := by decide +kernel
theorem dX4_makeWalks_2 : decode cX4_makeWalks 2 = .ok (.iconst 0, 1) := by decide +kernel
theorem dX4_makeWalks_3 : decode cX4_makeWalks 3 = .ok (.istore_n 3, 1) := by decide +kernel
theorem dX4_makeWalks_4 : decode cX4_makeWalks 4 = .ok (.iload_n 3, 1) := by decide +kernel
theorem dX4_makeWalks_5 : decode cX4_makeWalks 5 = .ok (.bipush 32, 2) := by decide +kernel
theorem dX4_makeWalks_7 : decode cX4_makeWalks 7 = .ok (.if_icmp .ge 109, 3) := by decide +kernel
theorem dX4_makeWalks_10 : decode cX4_makeWalks 10 = .ok (.aload_n 0, 1) := by decide +kernel
theorem dX4_makeWalks_11 : decode cX4_makeWalks 11 = .ok (.aload_n 0, 1) := by decide +kernel
theorem dX4_makeWalks_12 : decode cX4_makeWalks 12 = .ok (.getfield 22, 3) := by decide +kernel
theorem dX4_makeWalks_15 : decode cX4_makeWalks 15 = .ok (.iload_n 1, 1) := by decide +kernel
theorem dX4_makeWalks_16 : decode cX4_makeWalks 16 = .ok (.iaload, 1) := by decide +kernel
theorem dX4_makeWalks_17 : decode cX4_makeWalks 17 = .ok (.iload_n 3, 1) := by decide +kernel
theorem dX4_makeWalks_18 : decode cX4_makeWalks 18 = .ok (.invokevirtual 91, 3) := by decide +kernel
theorem dX4_makeWalks_21 : decode cX4_makeWalks 21 = .ok (.iconst 0, 1) := by decide +kernel
theorem dX4_makeWalks_22 : decode cX4_makeWalks 22 = .ok (.istore 4, 2) := by decide +kernel
theorem dX4_makeWalks_24 : decode cX4_makeWalks 24 = .ok (.iload 4, 2) := by decide +kernel
theorem dX4_makeWalks_26 : decode cX4_makeWalks 26 = .ok (.bipush 32, 2) := by decide +kernel
theorem dX4_makeWalks_28 : decode cX4_makeWalks 28 = .ok (.if_icmp .ge 82, 3) := by decide +kernel
theorem dX4_makeWalks_31 : decode cX4_makeWalks 31 = .ok (.aload_n 0, 1) := by decide +kernel
theorem dX4_makeWalks_32 : decode cX4_makeWalks 32 = .ok (.getfield 43, 3) := by decide +kernel
theorem dX4_makeWalks_35 : decode cX4_makeWalks 35 = .ok (.iload 4, 2) := by decide +kernel
theorem dX4_makeWalks_37 : decode cX4_makeWalks 37 = .ok (.iaload, 1) := by decide +kernel
theorem dX4_makeWalks_38 : decode cX4_makeWalks 38 = .ok (.ifCond .gt 28, 3) := by decide +kernel
theorem dX4_makeWalks_41 : decode cX4_makeWalks 41 = .ok (.aload_n 0, 1) := by decide +kernel
theorem dX4_makeWalks_42 : decode cX4_makeWalks 42 = .ok (.getfield 19, 3) := by decide +kernel
theorem dX4_makeWalks_45 : decode cX4_makeWalks 45 = .ok (.iload_n 1, 1) := by decide +kernel
theorem dX4_makeWalks_46 : decode cX4_makeWalks 46 = .ok (.iaload, 1) := by decide +kernel
theorem dX4_makeWalks_47 : decode cX4_makeWalks 47 = .ok (.iconst 4, 1) := by decide +kernel
theorem dX4_makeWalks_48 : decode cX4_makeWalks 48 = .ok (.if_icmp .ne 22, 3) := by decide +kernel
theorem dX4_makeWalks_51 : decode cX4_makeWalks 51 = .ok (.iload_n 3, 1) := by decide +kernel
theorem dX4_makeWalks_52 : decode cX4_makeWalks 52 = .ok (.iload 4, 2) := by decide +kernel
theorem dX4_makeWalks_54 : decode cX4_makeWalks 54 = .ok (.if_icmp .ne 16, 3) := by decide +kernel
theorem dX4_makeWalks_57 : decode cX4_makeWalks 57 = .ok (.aload_n 0, 1) := by decide +kernel
theorem dX4_makeWalks_58 : decode cX4_makeWalks 58 = .ok (.getfield 40, 3) := by decide +kernel
theorem dX4_makeWalks_61 : decode cX4_makeWalks 61 = .ok (.iload_n 3, 1) := by decide +kernel
theorem dX4_makeWalks_62 : decode cX4_makeWalks 62 = .ok (.baload, 1) := by decide +kernel
theorem dX4_makeWalks_63 : decode cX4_makeWalks 63 = .ok (.ifCond .eq 7, 3) := by decide +kernel
theorem dX4_makeWalks_66 : decode cX4_makeWalks 66 = .ok (.iconst 1, 1) := by decide +kernel
theorem dX4_makeWalks_67 : decode cX4_makeWalks 67 = .ok (.goto 4, 3) := by decide +kernel
theorem dX4_makeWalks_70 : decode cX4_makeWalks 70 = .ok (.iconst 0, 1) := by decide +kernel
theorem dX4_makeWalks_71 : decode cX4_makeWalks 71 = .ok (.istore 5, 2) := by decide +kernel
theorem dX4_makeWalks_73 : decode cX4_makeWalks 73 = .ok (.aload_n 0, 1) := by decide +kernel
theorem dX4_makeWalks_74 : decode cX4_makeWalks 74 = .ok (.iload_n 1, 1) := by decide +kernel
theorem dX4_makeWalks_75 : decode cX4_makeWalks 75 = .ok (.iload_n 3, 1) := by decide +kernel
theorem dX4_makeWalks_76 : decode cX4_makeWalks 76 = .ok (.iload 4, 2) := by decide +kernel
theorem dX4_makeWalks_78 : decode cX4_makeWalks 78 = .ok (.iload 5, 2) := by decide +kernel
theorem dX4_makeWalks_80 : decode cX4_makeWalks 80 = .ok (.ifCond .eq 7, 3) := by decide +kernel
theorem dX4_makeWalks_83 : decode cX4_makeWalks 83 = .ok (.lconst 1, 1) := by decide +kernel
theorem dX4_makeWalks_84 : decode cX4_makeWalks 84 = .ok (.goto 4, 3) := by decide +kernel
theorem dX4_makeWalks_87 : decode cX4_makeWalks 87 = .ok (.lconst 0, 1) := by decide +kernel
theorem dX4_makeWalks_88 : decode cX4_makeWalks 88 = .ok (.invokevirtual 87, 3) := by decide +kernel
theorem dX4_makeWalks_91 : decode cX4_makeWalks 91 = .ok (.iload 5, 2) := by decide +kernel
theorem dX4_makeWalks_93 : decode cX4_makeWalks 93 = .ok (.ifCond .eq 9, 3) := by decide +kernel
theorem dX4_makeWalks_96 : decode cX4_makeWalks 96 = .ok (.iload_n 2, 1) := by decide +kernel
theorem dX4_makeWalks_97 : decode cX4_makeWalks 97 = .ok (.iconst 1, 1) := by decide +kernel
theorem dX4_makeWalks_98 : decode cX4_makeWalks 98 = .ok (.iadd, 1) := by decide +kernel
theorem dX4_makeWalks_99 : decode cX4_makeWalks 99 = .ok (.goto 4, 3) := by decide +kernel
theorem dX4_makeWalks_102 : decode cX4_makeWalks 102 = .ok (.iload_n 2, 1) := by decide +kernel
theorem dX4_makeWalks_103 : decode cX4_makeWalks 103 = .ok (.istore_n 2, 1) := by decide +kernel
theorem dX4_makeWalks_104 : decode cX4_makeWalks 104 = .ok (.iinc 4 1, 3) := by decide +kernel
theorem dX4_makeWalks_107 : decode cX4_makeWalks 107 = .ok (.goto (-83), 3) := by decide +kernel
theorem dX4_makeWalks_110 : decode cX4_makeWalks 110 = .ok (.iinc 3 1, 3) := by decide +kernel
theorem dX4_makeWalks_113 : decode cX4_makeWalks 113 = .ok (.goto (-109), 3) := by decide +kernel
theorem dX4_makeWalks_116 : decode cX4_makeWalks 116 = .ok (.aload_n 0, 1) := by decide +kernel
theorem dX4_makeWalks_117 : decode cX4_makeWalks 117 = .ok (.aload_n 0, 1) := by decide +kernel
theorem dX4_makeWalks_118 : decode cX4_makeWalks 118 = .ok (.getfield 95, 3) := by decide +kernel
theorem dX4_makeWalks_121 : decode cX4_makeWalks 121 = .ok (.ifCond .ne 11, 3) := by decide +kernel
theorem dX4_makeWalks_124 : decode cX4_makeWalks 124 = .ok (.iload_n 2, 1) := by decide +kernel
theorem dX4_makeWalks_125 : decode cX4_makeWalks 125 = .ok (.aload_n 0, 1) := by decide +kernel
theorem dX4_makeWalks_126 : decode cX4_makeWalks 126 = .ok (.getfield 28, 3) := by decide +kernel
theorem dX4_makeWalks_129 : decode cX4_makeWalks 129 = .ok (.if_icmp .le 7, 3) := by decide +kernel
theorem dX4_makeWalks_132 : decode cX4_makeWalks 132 = .ok (.iconst 1, 1) := by decide +kernel
theorem dX4_makeWalks_133 : decode cX4_makeWalks 133 = .ok (.goto 4, 3) := by decide +kernel
theorem dX4_makeWalks_136 : decode cX4_makeWalks 136 = .ok (.iconst 0, 1) := by decide +kernel
theorem dX4_makeWalks_137 : decode cX4_makeWalks 137 = .ok (.putfield 95, 3) := by decide +kernel
theorem dX4_makeWalks_140 : decode cX4_makeWalks 140 = .ok (.return_, 1) := by decide +kernel
theorem dX4_makeTable_0 : decode cX4_makeTable 0 = .ok (.iconst 0, 1) := by decide +kernel
theorem dX4_makeTable_1 : decode cX4_makeTable 1 = .ok (.istore_n 2, 1) := by decide +kernel
theorem dX4_makeTable_2 : decode cX4_makeTable 2 = .ok (.iload_n 2, 1) := by decide +kernel
theorem dX4_makeTable_3 : decode cX4_makeTable 3 = .ok (.sipush 1024, 3) := by decide +kernel
theorem dX4_makeTable_6 : decode cX4_makeTable 6 = .ok (.if_icmp .ge 22, 3) := by decide +kernel
theorem dX4_makeTable_9 : decode cX4_makeTable 9 = .ok (.aload_n 0, 1) := by decide +kernel
theorem dX4_makeTable_10 : decode cX4_makeTable 10 = .ok (.getfield 33, 3) := by decide +kernel
theorem dX4_makeTable_13 : decode cX4_makeTable 13 = .ok (.sipush 1024, 3) := by decide +kernel
theorem dX4_makeTable_16 : decode cX4_makeTable 16 = .ok (.iload_n 1, 1) := by decide +kernel
theorem dX4_makeTable_17 : decode cX4_makeTable 17 = .ok (.imul, 1) := by decide +kernel
theorem dX4_makeTable_18 : decode cX4_makeTable 18 = .ok (.iload_n 2, 1) := by decide +kernel
theorem dX4_makeTable_19 : decode cX4_makeTable 19 = .ok (.iadd, 1) := by decide +kernel
theorem dX4_makeTable_20 : decode cX4_makeTable 20 = .ok (.iconst 0, 1) := by decide +kernel
theorem dX4_makeTable_21 : decode cX4_makeTable 21 = .ok (.iastore, 1) := by decide +kernel
theorem dX4_makeTable_22 : decode cX4_makeTable 22 = .ok (.iinc 2 1, 3) := by decide +kernel
theorem dX4_makeTable_25 : decode cX4_makeTable 25 = .ok (.goto (-23), 3) := by decide +kernel
theorem dX4_makeTable_28 : decode cX4_makeTable 28 = .ok (.aload_n 0, 1) := by decide +kernel
theorem dX4_makeTable_29 : decode cX4_makeTable 29 = .ok (.getfield 19, 3) := by decide +kernel
theorem dX4_makeTable_32 : decode cX4_makeTable 32 = .ok (.iload_n 1, 1) := by decide +kernel
theorem dX4_makeTable_33 : decode cX4_makeTable 33 = .ok (.iaload, 1) := by decide +kernel
theorem dX4_makeTable_34 : decode cX4_makeTable 34 = .ok (.ifCond .eq 14, 3) := by decide +kernel
theorem dX4_makeTable_37 : decode cX4_makeTable 37 = .ok (.aload_n 0, 1) := by decide +kernel
theorem dX4_makeTable_38 : decode cX4_makeTable 38 = .ok (.getfield 19, 3) := by decide +kernel
theorem dX4_makeTable_41 : decode cX4_makeTable 41 = .ok (.iload_n 1, 1) := by decide +kernel
theorem dX4_makeTable_42 : decode cX4_makeTable 42 = .ok (.iaload, 1) := by decide +kernel
theorem dX4_makeTable_43 : decode cX4_makeTable 43 = .ok (.bipush 7, 2) := by decide +kernel
theorem dX4_makeTable_45 : decode cX4_makeTable 45 = .ok (.if_icmp .ne 11, 3) := by decide +kernel
theorem dX4_makeTable_48 : decode cX4_makeTable 48 = .ok (.aload_n 0, 1) := by decide +kernel
theorem dX4_makeTable_49 : decode cX4_makeTable 49 = .ok (.iload_n 1, 1) := by decide +kernel
theorem dX4_makeTable_50 : decode cX4_makeTable 50 = .ok (.invokevirtual 99, 3) := by decide +kernel
theorem dX4_makeTable_53 : decode cX4_makeTable 53 = .ok (.goto 73, 3) := by decide +kernel
theorem dX4_makeTable_56 : decode cX4_makeTable 56 = .ok (.aload_n 0, 1) := by decide +kernel
theorem dX4_makeTable_57 : decode cX4_makeTable 57 = .ok (.getfield 19, 3) := by decide +kernel
theorem dX4_makeTable_60 : decode cX4_makeTable 60 = .ok (.iload_n 1, 1) := by decide +kernel
theorem dX4_makeTable_61 : decode cX4_makeTable 61 = .ok (.iaload, 1) := by decide +kernel
theorem dX4_makeTable_62 : decode cX4_makeTable 62 = .ok (.iconst 4, 1) := by decide +kernel
theorem dX4_makeTable_63 : decode cX4_makeTable 63 = .ok (.if_icmp .eq 13, 3) := by decide +kernel
theorem dX4_makeTable_66 : decode cX4_makeTable 66 = .ok (.aload_n 0, 1) := by decide +kernel
theorem dX4_makeTable_67 : decode cX4_makeTable 67 = .ok (.getfield 19, 3) := by decide +kernel
theorem dX4_makeTable_70 : decode cX4_makeTable 70 = .ok (.iload_n 1, 1) := by decide +kernel
theorem dX4_makeTable_71 : decode cX4_makeTable 71 = .ok (.iaload, 1) := by decide +kernel
theorem dX4_makeTable_72 : decode cX4_makeTable 72 = .ok (.iconst 5, 1) := by decide +kernel
theorem dX4_makeTable_73 : decode cX4_makeTable 73 = .ok (.if_icmp .ne 11, 3) := by decide +kernel
theorem dX4_makeTable_76 : decode cX4_makeTable 76 = .ok (.aload_n 0, 1) := by decide +kernel
theorem dX4_makeTable_77 : decode cX4_makeTable 77 = .ok (.iload_n 1, 1) := by decide +kernel
theorem dX4_makeTable_78 : decode cX4_makeTable 78 = .ok (.invokevirtual 103, 3) := by decide +kernel
theorem dX4_makeTable_81 : decode cX4_makeTable 81 = .ok (.goto 45, 3) := by decide +kernel
theorem dX4_makeTable_84 : decode cX4_makeTable 84 = .ok (.iconst 0, 1) := by decide +kernel
theorem dX4_makeTable_85 : decode cX4_makeTable 85 = .ok (.istore_n 2, 1) := by decide +kernel
theorem dX4_makeTable_86 : decode cX4_makeTable 86 = .ok (.iload_n 2, 1) := by decide +kernel
theorem dX4_makeTable_87 : decode cX4_makeTable 87 = .ok (.bipush 32, 2) := by decide +kernel
theorem dX4_makeTable_89 : decode cX4_makeTable 89 = .ok (.if_icmp .ge 37, 3) := by decide +kernel
theorem dX4_makeTable_92 : decode cX4_makeTable 92 = .ok (.iconst 0, 1) := by decide +kernel
theorem dX4_makeTable_93 : decode cX4_makeTable 93 = .ok (.istore_n 3, 1) := by decide +kernel
theorem dX4_makeTable_94 : decode cX4_makeTable 94 = .ok (.iload_n 3, 1) := by decide +kernel
theorem dX4_makeTable_95 : decode cX4_makeTable 95 = .ok (.bipush 32, 2) := by decide +kernel
theorem dX4_makeTable_97 : decode cX4_makeTable 97 = .ok (.if_icmp .ge 23, 3) := by decide +kernel
theorem dX4_makeTable_100 : decode cX4_makeTable 100 = .ok (.aload_n 0, 1) := by decide +kernel
theorem dX4_makeTable_101 : decode cX4_makeTable 101 = .ok (.iload_n 1, 1) := by decide +kernel
theorem dX4_makeTable_102 : decode cX4_makeTable 102 = .ok (.iload_n 2, 1) := by decide +kernel
theorem dX4_makeTable_103 : decode cX4_makeTable 103 = .ok (.iload_n 3, 1) := by decide +kernel
theorem dX4_makeTable_104 : decode cX4_makeTable 104 = .ok (.aload_n 0, 1) := by decide +kernel
theorem dX4_makeTable_105 : decode cX4_makeTable 105 = .ok (.iload_n 1, 1) := by decide +kernel
theorem dX4_makeTable_106 : decode cX4_makeTable 106 = .ok (.iload_n 2, 1) := by decide +kernel
theorem dX4_makeTable_107 : decode cX4_makeTable 107 = .ok (.iload_n 3, 1) := by decide +kernel
theorem dX4_makeTable_108 : decode cX4_makeTable 108 = .ok (.invokevirtual 106, 3) := by decide +kernel
theorem dX4_makeTable_111 : decode cX4_makeTable 111 = .ok (.invokevirtual 87, 3) := by decide +kernel
theorem dX4_makeTable_114 : decode cX4_makeTable 114 = .ok (.iinc 3 1, 3) := by decide +kernel
theorem dX4_makeTable_117 : decode cX4_makeTable 117 = .ok (.goto (-23), 3) := by decide +kernel
theorem dX4_makeTable_120 : decode cX4_makeTable 120 = .ok (.iinc 2 1, 3) := by decide +kernel
theorem dX4_makeTable_123 : decode cX4_makeTable 123 = .ok (.goto (-37), 3) := by decide +kernel
theorem dX4_makeTable_126 : decode cX4_makeTable 126 = .ok (.return_, 1) := by decide +kernel
theorem dX4_prepare_0 : decode cX4_prepare 0 = .ok (.aload_n 0, 1) := by decide +kernel
theorem dX4_prepare_1 : decode cX4_prepare 1 = .ok (.iload_n 1, 1) := by decide +kernel
theorem dX4_prepare_2 : decode cX4_prepare 2 = .ok (.invokevirtual 110, 3) := by decide +kernel
theorem dX4_prepare_5 : decode cX4_prepare 5 = .ok (.aload_n 0, 1) := by decide +kernel
theorem dX4_prepare_6 : decode cX4_prepare 6 = .ok (.iload_n 2, 1) := by decide +kernel
theorem dX4_prepare_7 : decode cX4_prepare 7 = .ok (.iload_n 3, 1) := by decide +kernel
theorem dX4_prepare_8 : decode cX4_prepare 8 = .ok (.invokevirtual 113, 3) := by decide +kernel
theorem dX4_prepare_11 : decode cX4_prepare 11 = .ok (.aload_n 0, 1) := by decide +kernel
theorem dX4_prepare_12 : decode cX4_prepare 12 = .ok (.iconst 0, 1) := by decide +kernel
theorem dX4_prepare_13 : decode cX4_prepare 13 = .ok (.putfield 95, 3) := by decide +kernel
theorem dX4_prepare_16 : decode cX4_prepare 16 = .ok (.iconst 1, 1) := by decide +kernel
theorem dX4_prepare_17 : decode cX4_prepare 17 = .ok (.istore 4, 2) := by decide +kernel
theorem dX4_prepare_19 : decode cX4_prepare 19 = .ok (.iload 4, 2) := by decide +kernel
theorem dX4_prepare_21 : decode cX4_prepare 21 = .ok (.iload_n 1, 1) := by decide +kernel
theorem dX4_prepare_22 : decode cX4_prepare 22 = .ok (.if_icmp .gt 25, 3) := by decide +kernel
theorem dX4_prepare_25 : decode cX4_prepare 25 = .ok (.aload_n 0, 1) := by decide +kernel
theorem dX4_prepare_26 : decode cX4_prepare 26 = .ok (.getfield 36, 3) := by decide +kernel
theorem dX4_prepare_29 : decode cX4_prepare 29 = .ok (.iload 4, 2) := by decide +kernel
theorem dX4_prepare_31 : decode cX4_prepare 31 = .ok (.baload, 1) := by decide +kernel
theorem dX4_prepare_32 : decode cX4_prepare 32 = .ok (.ifCond .eq 9, 3) := by decide +kernel
theorem dX4_prepare_35 : decode cX4_prepare 35 = .ok (.aload_n 0, 1) := by decide +kernel
theorem dX4_prepare_36 : decode cX4_prepare 36 = .ok (.iload 4, 2) := by decide +kernel
theorem dX4_prepare_38 : decode cX4_prepare 38 = .ok (.invokevirtual 116, 3) := by decide +kernel
theorem dX4_prepare_41 : decode cX4_prepare 41 = .ok (.iinc 4 1, 3) := by decide +kernel
theorem dX4_prepare_44 : decode cX4_prepare 44 = .ok (.goto (-25), 3) := by decide +kernel
theorem dX4_prepare_47 : decode cX4_prepare 47 = .ok (.iconst 0, 1) := by decide +kernel
theorem dX4_prepare_48 : decode cX4_prepare 48 = .ok (.istore 4, 2) := by decide +kernel
theorem dX4_prepare_50 : decode cX4_prepare 50 = .ok (.iconst 0, 1) := by decide +kernel
theorem dX4_prepare_51 : decode cX4_prepare 51 = .ok (.istore 5, 2) := by decide +kernel
theorem dX4_prepare_53 : decode cX4_prepare 53 = .ok (.iload 5, 2) := by decide +kernel
theorem dX4_prepare_55 : decode cX4_prepare 55 = .ok (.bipush 32, 2) := by decide +kernel
theorem dX4_prepare_57 : decode cX4_prepare 57 = .ok (.if_icmp .ge 56, 3) := by decide +kernel
theorem dX4_prepare_60 : decode cX4_prepare 60 = .ok (.iconst 0, 1) := by decide +kernel
theorem dX4_prepare_61 : decode cX4_prepare 61 = .ok (.istore 6, 2) := by decide +kernel
theorem dX4_prepare_63 : decode cX4_prepare 63 = .ok (.iload 6, 2) := by decide +kernel
theorem dX4_prepare_65 : decode cX4_prepare 65 = .ok (.bipush 32, 2) := by decide +kernel
theorem dX4_prepare_67 : decode cX4_prepare 67 = .ok (.if_icmp .ge 40, 3) := by decide +kernel
theorem dX4_prepare_70 : decode cX4_prepare 70 = .ok (.iload 5, 2) := by decide +kernel
theorem dX4_prepare_72 : decode cX4_prepare 72 = .ok (.iload 6, 2) := by decide +kernel
theorem dX4_prepare_74 : decode cX4_prepare 74 = .ok (.iload_n 2, 1) := by decide +kernel
theorem dX4_prepare_75 : decode cX4_prepare 75 = .ok (.iload_n 3, 1) := by decide +kernel
theorem dX4_prepare_76 : decode cX4_prepare 76 = .ok (.invokestatic 119, 3) := by decide +kernel
theorem dX4_prepare_79 : decode cX4_prepare 79 = .ok (.ifCond .eq 18, 3) := by decide +kernel
theorem dX4_prepare_82 : decode cX4_prepare 82 = .ok (.iload 4, 2) := by decide +kernel
theorem dX4_prepare_84 : decode cX4_prepare 84 = .ok (.aload_n 0, 1) := by decide +kernel
theorem dX4_prepare_85 : decode cX4_prepare 85 = .ok (.iload_n 1, 1) := by decide +kernel
theorem dX4_prepare_86 : decode cX4_prepare 86 = .ok (.iload 5, 2) := by decide +kernel
theorem dX4_prepare_88 : decode cX4_prepare 88 = .ok (.iload 6, 2) := by decide +kernel
theorem dX4_prepare_90 : decode cX4_prepare 90 = .ok (.invokevirtual 84, 3) := by decide +kernel
theorem dX4_prepare_93 : decode cX4_prepare 93 = .ok (.iadd, 1) := by decide +kernel
theorem dX4_prepare_94 : decode cX4_prepare 94 = .ok (.goto 5, 3) := by decide +kernel
theorem dX4_prepare_97 : decode cX4_prepare 97 = .ok (.iload 4, 2) := by decide +kernel
theorem dX4_prepare_99 : decode cX4_prepare 99 = .ok (.istore 4, 2) := by decide +kernel
theorem dX4_prepare_101 : decode cX4_prepare 101 = .ok (.iinc 6 1, 3) := by decide +kernel
theorem dX4_prepare_104 : decode cX4_prepare 104 = .ok (.goto (-41), 3) := by decide +kernel
theorem dX4_prepare_107 : decode cX4_prepare 107 = .ok (.iinc 5 1, 3) := by decide +kernel
theorem dX4_prepare_110 : decode cX4_prepare 110 = .ok (.goto (-57), 3) := by decide +kernel
theorem dX4_prepare_113 : decode cX4_prepare 113 = .ok (.iload 4, 2) := by decide +kernel
theorem dX4_prepare_115 : decode cX4_prepare 115 = .ok (.ireturn, 1) := by decide +kernel
theorem dX4_fits_0 : decode cX4_fits 0 = .ok (.iload_n 2, 1) := by decide +kernel
theorem dX4_fits_1 : decode cX4_fits 1 = .ok (.ifCond .lt 8, 3) := by decide +kernel
theorem dX4_fits_4 : decode cX4_fits 4 = .ok (.iload_n 2, 1) := by decide +kernel
theorem dX4_fits_5 : decode cX4_fits 5 = .ok (.iload_n 0, 1) := by decide +kernel
theorem dX4_fits_6 : decode cX4_fits 6 = .ok (.if_icmp .ne 16, 3) := by decide +kernel
theorem dX4_fits_9 : decode cX4_fits 9 = .ok (.iload_n 3, 1) := by decide +kernel
theorem dX4_fits_10 : decode cX4_fits 10 = .ok (.ifCond .lt 8, 3) := by decide +kernel
theorem dX4_fits_13 : decode cX4_fits 13 = .ok (.iload_n 3, 1) := by decide +kernel
theorem dX4_fits_14 : decode cX4_fits 14 = .ok (.iload_n 1, 1) := by decide +kernel
theorem dX4_fits_15 : decode cX4_fits 15 = .ok (.if_icmp .ne 7, 3) := by decide +kernel
theorem dX4_fits_18 : decode cX4_fits 18 = .ok (.iconst 1, 1) := by decide +kernel
theorem dX4_fits_19 : decode cX4_fits 19 = .ok (.goto 4, 3) := by decide +kernel
theorem dX4_fits_22 : decode cX4_fits 22 = .ok (.iconst 0, 1) := by decide +kernel
theorem dX4_fits_23 : decode cX4_fits 23 = .ok (.ireturn, 1) := by decide +kernel
theorem dX4_isEnd_0 : decode cX4_isEnd 0 = .ok (.iload_n 0, 1) := by decide +kernel
theorem dX4_isEnd_1 : decode cX4_isEnd 1 = .ok (.iconst (-1), 1) := by decide +kernel
theorem dX4_isEnd_2 : decode cX4_isEnd 2 = .ok (.if_icmp .lt 13, 3) := by decide +kernel
theorem dX4_isEnd_5 : decode cX4_isEnd 5 = .ok (.iload_n 0, 1) := by decide +kernel
theorem dX4_isEnd_6 : decode cX4_isEnd 6 = .ok (.bipush 32, 2) := by decide +kernel
theorem dX4_isEnd_8 : decode cX4_isEnd 8 = .ok (.if_icmp .ge 7, 3) := by decide +kernel
theorem dX4_isEnd_11 : decode cX4_isEnd 11 = .ok (.iconst 1, 1) := by decide +kernel
theorem dX4_isEnd_12 : decode cX4_isEnd 12 = .ok (.goto 4, 3) := by decide +kernel
theorem dX4_isEnd_15 : decode cX4_isEnd 15 = .ok (.iconst 0, 1) := by decide +kernel
theorem dX4_isEnd_16 : decode cX4_isEnd 16 = .ok (.ireturn, 1) := by decide +kernel
theorem dX4_run_0 : decode cX4_run 0 = .ok (.aload_n 0, 1) := by decide +kernel
theorem dX4_run_1 : decode cX4_run 1 = .ok (.iconst 0, 1) := by decide +kernel
theorem dX4_run_2 : decode cX4_run 2 = .ok (.putfield 58, 3) := by decide +kernel
theorem dX4_run_5 : decode cX4_run 5 = .ok (.aload_n 0, 1) := by decide +kernel
theorem dX4_run_6 : decode cX4_run 6 = .ok (.iload_n 1, 1) := by decide +kernel
theorem dX4_run_7 : decode cX4_run 7 = .ok (.invokevirtual 75, 3) := by decide +kernel
theorem dX4_run_10 : decode cX4_run 10 = .ok (.ifCond .ne 5, 3) := by decide +kernel
theorem dX4_run_13 : decode cX4_run 13 = .ok (.iconst (-1), 1) := by decide +kernel
theorem dX4_run_14 : decode cX4_run 14 = .ok (.ireturn, 1) := by decide +kernel
theorem dX4_run_15 : decode cX4_run 15 = .ok (.iload_n 2, 1) := by decide +kernel
theorem dX4_run_16 : decode cX4_run 16 = .ok (.invokestatic 123, 3) := by decide +kernel
theorem dX4_run_19 : decode cX4_run 19 = .ok (.ifCond .eq 10, 3) := by decide +kernel
theorem dX4_run_22 : decode cX4_run 22 = .ok (.iload_n 3, 1) := by decide +kernel
theorem dX4_run_23 : decode cX4_run 23 = .ok (.invokestatic 123, 3) := by decide +kernel
theorem dX4_run_26 : decode cX4_run 26 = .ok (.ifCond .ne 6, 3) := by decide +kernel
theorem dX4_run_29 : decode cX4_run 29 = .ok (.bipush (-2), 2) := by decide +kernel
theorem dX4_run_31 : decode cX4_run 31 = .ok (.ireturn, 1) := by decide +kernel
theorem dX4_run_32 : decode cX4_run 32 = .ok (.aload_n 0, 1) := by decide +kernel
theorem dX4_run_33 : decode cX4_run 33 = .ok (.iload_n 1, 1) := by decide +kernel
theorem dX4_run_34 : decode cX4_run 34 = .ok (.iload_n 2, 1) := by decide +kernel
theorem dX4_run_35 : decode cX4_run 35 = .ok (.iload_n 3, 1) := by decide +kernel
theorem dX4_run_36 : decode cX4_run 36 = .ok (.invokevirtual 126, 3) := by decide +kernel
theorem dX4_run_39 : decode cX4_run 39 = .ok (.istore 4, 2) := by decide +kernel
theorem dX4_run_41 : decode cX4_run 41 = .ok (.aload_n 0, 1) := by decide +kernel
theorem dX4_run_42 : decode cX4_run 42 = .ok (.getfield 95, 3) := by decide +kernel
theorem dX4_run_45 : decode cX4_run 45 = .ok (.ifCond .eq 6, 3) := by decide +kernel
theorem dX4_run_48 : decode cX4_run 48 = .ok (.bipush (-5), 2) := by decide +kernel
theorem dX4_run_50 : decode cX4_run 50 = .ok (.ireturn, 1) := by decide +kernel
theorem dX4_run_51 : decode cX4_run 51 = .ok (.iload 4, 2) := by decide +kernel
theorem dX4_run_53 : decode cX4_run 53 = .ok (.sipush 2000, 3) := by decide +kernel
theorem dX4_run_56 : decode cX4_run 56 = .ok (.if_icmp .le 6, 3) := by decide +kernel
theorem dX4_run_59 : decode cX4_run 59 = .ok (.bipush (-4), 2) := by decide +kernel
theorem dX4_run_61 : decode cX4_run 61 = .ok (.ireturn, 1) := by decide +kernel
theorem dX4_run_62 : decode cX4_run 62 = .ok (.aload_n 0, 1) := by decide +kernel
theorem dX4_run_63 : decode cX4_run 63 = .ok (.iconst 1, 1) := by decide +kernel
theorem dX4_run_64 : decode cX4_run 64 = .ok (.putfield 129, 3) := by decide +kernel
theorem dX4_run_67 : decode cX4_run 67 = .ok (.aload_n 0, 1) := by decide +kernel
theorem dX4_run_68 : decode cX4_run 68 = .ok (.iconst 0, 1) := by decide +kernel
theorem dX4_run_69 : decode cX4_run 69 = .ok (.putfield 132, 3) := by decide +kernel
theorem dX4_run_72 : decode cX4_run 72 = .ok (.iconst 0, 1) := by decide +kernel
theorem dX4_run_73 : decode cX4_run 73 = .ok (.istore 5, 2) := by decide +kernel
theorem dX4_run_75 : decode cX4_run 75 = .ok (.iload 5, 2) := by decide +kernel
theorem dX4_run_77 : decode cX4_run 77 = .ok (.bipush 32, 2) := by decide +kernel
theorem dX4_run_79 : decode cX4_run 79 = .ok (.if_icmp .ge 215, 3) := by decide +kernel
theorem dX4_run_82 : decode cX4_run 82 = .ok (.aload_n 0, 1) := by decide +kernel
theorem dX4_run_83 : decode cX4_run 83 = .ok (.getfield 19, 3) := by decide +kernel
theorem dX4_run_86 : decode cX4_run 86 = .ok (.iload_n 1, 1) := by decide +kernel
theorem dX4_run_87 : decode cX4_run 87 = .ok (.iaload, 1) := by decide +kernel
theorem dX4_run_88 : decode cX4_run 88 = .ok (.iconst 4, 1) := by decide +kernel
theorem dX4_run_89 : decode cX4_run 89 = .ok (.if_icmp .eq 13, 3) := by decide +kernel
theorem dX4_run_92 : decode cX4_run 92 = .ok (.aload_n 0, 1) := by decide +kernel
theorem dX4_run_93 : decode cX4_run 93 = .ok (.getfield 19, 3) := by decide +kernel
theorem dX4_run_96 : decode cX4_run 96 = .ok (.iload_n 1, 1) := by decide +kernel
theorem dX4_run_97 : decode cX4_run 97 = .ok (.iaload, 1) := by decide +kernel
theorem dX4_run_98 : decode cX4_run 98 = .ok (.iconst 5, 1) := by decide +kernel
theorem dX4_run_99 : decode cX4_run 99 = .ok (.if_icmp .ne 7, 3) := by decide +kernel
theorem dX4_run_102 : decode cX4_run 102 = .ok (.iconst 1, 1) := by decide +kernel
theorem dX4_run_103 : decode cX4_run 103 = .ok (.goto 4, 3) := by decide +kernel
theorem dX4_run_106 : decode cX4_run 106 = .ok (.iconst 0, 1) := by decide +kernel
theorem dX4_run_107 : decode cX4_run 107 = .ok (.istore 6, 2) := by decide +kernel
theorem dX4_run_109 : decode cX4_run 109 = .ok (.iload 6, 2) := by decide +kernel
theorem dX4_run_111 : decode cX4_run 111 = .ok (.ifCond .eq 15, 3) := by decide +kernel
theorem dX4_run_114 : decode cX4_run 114 = .ok (.aload_n 0, 1) := by decide +kernel
theorem dX4_run_115 : decode cX4_run 115 = .ok (.aload_n 0, 1) := by decide +kernel
theorem dX4_run_116 : decode cX4_run 116 = .ok (.getfield 22, 3) := by decide +kernel
theorem dX4_run_119 : decode cX4_run 119 = .ok (.iload_n 1, 1) := by decide +kernel
theorem dX4_run_120 : decode cX4_run 120 = .ok (.iaload, 1) := by decide +kernel
theorem dX4_run_121 : decode cX4_run 121 = .ok (.iload 5, 2) := by decide +kernel
theorem dX4_run_123 : decode cX4_run 123 = .ok (.invokevirtual 91, 3) := by decide +kernel
theorem dX4_run_126 : decode cX4_run 126 = .ok (.iconst 0, 1) := by decide +kernel
theorem dX4_run_127 : decode cX4_run 127 = .ok (.istore 7, 2) := by decide +kernel
theorem dX4_run_129 : decode cX4_run 129 = .ok (.iload 7, 2) := by decide +kernel
theorem dX4_run_131 : decode cX4_run 131 = .ok (.bipush 32, 2) := by decide +kernel
theorem dX4_run_133 : decode cX4_run 133 = .ok (.if_icmp .ge 155, 3) := by decide +kernel
theorem dX4_run_136 : decode cX4_run 136 = .ok (.iload 5, 2) := by decide +kernel
theorem dX4_run_138 : decode cX4_run 138 = .ok (.iload 7, 2) := by decide +kernel
theorem dX4_run_140 : decode cX4_run 140 = .ok (.iload_n 2, 1) := by decide +kernel
theorem dX4_run_141 : decode cX4_run 141 = .ok (.iload_n 3, 1) := by decide +kernel
theorem dX4_run_142 : decode cX4_run 142 = .ok (.invokestatic 119, 3) := by decide +kernel
theorem dX4_run_145 : decode cX4_run 145 = .ok (.ifCond .eq 15, 3) := by decide +kernel
theorem dX4_run_148 : decode cX4_run 148 = .ok (.aload_n 0, 1) := by decide +kernel
theorem dX4_run_149 : decode cX4_run 149 = .ok (.iload_n 1, 1) := by decide +kernel
theorem dX4_run_150 : decode cX4_run 150 = .ok (.iload 5, 2) := by decide +kernel
theorem dX4_run_152 : decode cX4_run 152 = .ok (.iload 7, 2) := by decide +kernel
theorem dX4_run_154 : decode cX4_run 154 = .ok (.invokevirtual 84, 3) := by decide +kernel
theorem dX4_run_157 : decode cX4_run 157 = .ok (.goto 4, 3) := by decide +kernel
theorem dX4_run_160 : decode cX4_run 160 = .ok (.iconst 0, 1) := by decide +kernel
theorem dX4_run_161 : decode cX4_run 161 = .ok (.istore 8, 2) := by decide +kernel
theorem dX4_run_163 : decode cX4_run 163 = .ok (.iload 5, 2) := by decide +kernel
theorem dX4_run_165 : decode cX4_run 165 = .ok (.iload 7, 2) := by decide +kernel
theorem dX4_run_167 : decode cX4_run 167 = .ok (.if_icmp .ne 38, 3) := by decide +kernel
theorem dX4_run_170 : decode cX4_run 170 = .ok (.aload_n 0, 1) := by decide +kernel
theorem dX4_run_171 : decode cX4_run 171 = .ok (.getfield 19, 3) := by decide +kernel
theorem dX4_run_174 : decode cX4_run 174 = .ok (.iload_n 1, 1) := by decide +kernel
theorem dX4_run_175 : decode cX4_run 175 = .ok (.iaload, 1) := by decide +kernel
theorem dX4_run_176 : decode cX4_run 176 = .ok (.iconst 4, 1) := by decide +kernel
theorem dX4_run_177 : decode cX4_run 177 = .ok (.if_icmp .eq 24, 3) := by decide +kernel
theorem dX4_run_180 : decode cX4_run 180 = .ok (.aload_n 0, 1) := by decide +kernel
theorem dX4_run_181 : decode cX4_run 181 = .ok (.getfield 19, 3) := by decide +kernel
theorem dX4_run_184 : decode cX4_run 184 = .ok (.iload_n 1, 1) := by decide +kernel
theorem dX4_run_185 : decode cX4_run 185 = .ok (.iaload, 1) := by decide +kernel
theorem dX4_run_186 : decode cX4_run 186 = .ok (.bipush 6, 2) := by decide +kernel
theorem dX4_run_188 : decode cX4_run 188 = .ok (.if_icmp .ne 17, 3) := by decide +kernel
theorem dX4_run_191 : decode cX4_run 191 = .ok (.aload_n 0, 1) := by decide +kernel
theorem dX4_run_192 : decode cX4_run 192 = .ok (.getfield 40, 3) := by decide +kernel
theorem dX4_run_195 : decode cX4_run 195 = .ok (.iload 5, 2) := by decide +kernel
theorem dX4_run_197 : decode cX4_run 197 = .ok (.baload, 1) := by decide +kernel
theorem dX4_run_198 : decode cX4_run 198 = .ok (.ifCond .eq 7, 3) := by decide +kernel
theorem dX4_run_201 : decode cX4_run 201 = .ok (.iconst 0, 1) := by decide +kernel
theorem dX4_run_202 : decode cX4_run 202 = .ok (.goto 19, 3) := by decide +kernel
theorem dX4_run_205 : decode cX4_run 205 = .ok (.iload 6, 2) := by decide +kernel
theorem dX4_run_207 : decode cX4_run 207 = .ok (.ifCond .eq 13, 3) := by decide +kernel
theorem dX4_run_210 : decode cX4_run 210 = .ok (.aload_n 0, 1) := by decide +kernel
theorem dX4_run_211 : decode cX4_run 211 = .ok (.getfield 43, 3) := by decide +kernel
theorem dX4_run_214 : decode cX4_run 214 = .ok (.iload 7, 2) := by decide +kernel
theorem dX4_run_216 : decode cX4_run 216 = .ok (.iaload, 1) := by decide +kernel
theorem dX4_run_217 : decode cX4_run 217 = .ok (.goto 4, 3) := by decide +kernel
theorem dX4_run_220 : decode cX4_run 220 = .ok (.iconst 1, 1) := by decide +kernel
theorem dX4_run_221 : decode cX4_run 221 = .ok (.istore 9, 2) := by decide +kernel
theorem dX4_run_223 : decode cX4_run 223 = .ok (.iconst 0, 1) := by decide +kernel
theorem dX4_run_224 : decode cX4_run 224 = .ok (.istore 10, 2) := by decide +kernel
theorem dX4_run_226 : decode cX4_run 226 = .ok (.iload 10, 2) := by decide +kernel
theorem dX4_run_228 : decode cX4_run 228 = .ok (.iload 8, 2) := by decide +kernel
theorem dX4_run_230 : decode cX4_run 230 = .ok (.if_icmp .ge 52, 3) := by decide +kernel
theorem dX4_run_233 : decode cX4_run 233 = .ok (.aload_n 0, 1) := by decide +kernel
theorem dX4_run_234 : decode cX4_run 234 = .ok (.getfield 49, 3) := by decide +kernel
theorem dX4_run_237 : decode cX4_run 237 = .ok (.aload_n 0, 1) := by decide +kernel
theorem dX4_run_238 : decode cX4_run 238 = .ok (.getfield 132, 3) := by decide +kernel
theorem dX4_run_241 : decode cX4_run 241 = .ok (.iload 5, 2) := by decide +kernel
theorem dX4_run_243 : decode cX4_run 243 = .ok (.iastore, 1) := by decide +kernel
theorem dX4_run_244 : decode cX4_run 244 = .ok (.aload_n 0, 1) := by decide +kernel
theorem dX4_run_245 : decode cX4_run 245 = .ok (.getfield 52, 3) := by decide +kernel
theorem dX4_run_248 : decode cX4_run 248 = .ok (.aload_n 0, 1) := by decide +kernel
theorem dX4_run_249 : decode cX4_run 249 = .ok (.getfield 132, 3) := by decide +kernel
theorem dX4_run_252 : decode cX4_run 252 = .ok (.iload 7, 2) := by decide +kernel
theorem dX4_run_254 : decode cX4_run 254 = .ok (.iastore, 1) := by decide +kernel
theorem dX4_run_255 : decode cX4_run 255 = .ok (.aload_n 0, 1) := by decide +kernel
theorem dX4_run_256 : decode cX4_run 256 = .ok (.getfield 55, 3) := by decide +kernel
theorem dX4_run_259 : decode cX4_run 259 = .ok (.aload_n 0, 1) := by decide +kernel
theorem dX4_run_260 : decode cX4_run 260 = .ok (.getfield 132, 3) := by decide +kernel
theorem dX4_run_263 : decode cX4_run 263 = .ok (.iload 9, 2) := by decide +kernel
theorem dX4_run_265 : decode cX4_run 265 = .ok (.iastore, 1) := by decide +kernel
theorem dX4_run_266 : decode cX4_run 266 = .ok (.aload_n 0, 1) := by decide +kernel
theorem dX4_run_267 : decode cX4_run 267 = .ok (.dup, 1) := by decide +kernel
theorem dX4_run_268 : decode cX4_run 268 = .ok (.getfield 132, 3) := by decide +kernel
theorem dX4_run_271 : decode cX4_run 271 = .ok (.iconst 1, 1) := by decide +kernel
theorem dX4_run_272 : decode cX4_run 272 = .ok (.iadd, 1) := by decide +kernel
theorem dX4_run_273 : decode cX4_run 273 = .ok (.putfield 132, 3) := by decide +kernel
theorem dX4_run_276 : decode cX4_run 276 = .ok (.iinc 10 1, 3) := by decide +kernel
theorem dX4_run_279 : decode cX4_run 279 = .ok (.goto (-53), 3) := by decide +kernel
theorem dX4_run_282 : decode cX4_run 282 = .ok (.iinc 7 1, 3) := by decide +kernel
theorem dX4_run_285 : decode cX4_run 285 = .ok (.goto (-156), 3) := by decide +kernel
theorem dX4_run_288 : decode cX4_run 288 = .ok (.iinc 5 1, 3) := by decide +kernel
theorem dX4_run_291 : decode cX4_run 291 = .ok (.goto (-216), 3) := by decide +kernel
theorem dX4_run_294 : decode cX4_run 294 = .ok (.iload 4, 2) := by decide +kernel
theorem dX4_run_296 : decode cX4_run 296 = .ok (.ireturn, 1) := by decide +kernel
theorem dX4_plain_0 : decode cX4_plain 0 = .ok (.aload_n 0, 1) := by decide +kernel
theorem dX4_plain_1 : decode cX4_plain 1 = .ok (.iconst 0, 1) := by decide +kernel
theorem dX4_plain_2 : decode cX4_plain 2 = .ok (.putfield 58, 3) := by decide +kernel
theorem dX4_plain_5 : decode cX4_plain 5 = .ok (.aload_n 0, 1) := by decide +kernel
theorem dX4_plain_6 : decode cX4_plain 6 = .ok (.iload_n 1, 1) := by decide +kernel
theorem dX4_plain_7 : decode cX4_plain 7 = .ok (.invokevirtual 75, 3) := by decide +kernel
theorem dX4_plain_10 : decode cX4_plain 10 = .ok (.ifCond .ne 5, 3) := by decide +kernel
theorem dX4_plain_13 : decode cX4_plain 13 = .ok (.iconst (-1), 1) := by decide +kernel
theorem dX4_plain_14 : decode cX4_plain 14 = .ok (.ireturn, 1) := by decide +kernel
theorem dX4_plain_15 : decode cX4_plain 15 = .ok (.iload_n 2, 1) := by decide +kernel
theorem dX4_plain_16 : decode cX4_plain 16 = .ok (.invokestatic 123, 3) := by decide +kernel
theorem dX4_plain_19 : decode cX4_plain 19 = .ok (.ifCond .eq 20, 3) := by decide +kernel
theorem dX4_plain_22 : decode cX4_plain 22 = .ok (.iload_n 3, 1) := by decide +kernel
theorem dX4_plain_23 : decode cX4_plain 23 = .ok (.invokestatic 123, 3) := by decide +kernel
theorem dX4_plain_26 : decode cX4_plain 26 = .ok (.ifCond .eq 13, 3) := by decide +kernel
theorem dX4_plain_29 : decode cX4_plain 29 = .ok (.aload_n 0, 1) := by decide +kernel
theorem dX4_plain_30 : decode cX4_plain 30 = .ok (.iload_n 1, 1) := by decide +kernel
theorem dX4_plain_31 : decode cX4_plain 31 = .ok (.iload_n 2, 1) := by decide +kernel
theorem dX4_plain_32 : decode cX4_plain 32 = .ok (.iload_n 3, 1) := by decide +kernel
theorem dX4_plain_33 : decode cX4_plain 33 = .ok (.invokevirtual 126, 3) := by decide +kernel
theorem dX4_plain_36 : decode cX4_plain 36 = .ok (.goto 5, 3) := by decide +kernel
theorem dX4_plain_39 : decode cX4_plain 39 = .ok (.bipush (-2), 2) := by decide +kernel
theorem dX4_plain_41 : decode cX4_plain 41 = .ok (.ireturn, 1) := by decide +kernel
theorem dX4_isRow_0 : decode cX4_isRow 0 = .ok (.aload_n 0, 1) := by decide +kernel
theorem dX4_isRow_1 : decode cX4_isRow 1 = .ok (.getfield 129, 3) := by decide +kernel
theorem dX4_isRow_4 : decode cX4_isRow 4 = .ok (.ifCond .eq 19, 3) := by decide +kernel
theorem dX4_isRow_7 : decode cX4_isRow 7 = .ok (.iload_n 1, 1) := by decide +kernel
theorem dX4_isRow_8 : decode cX4_isRow 8 = .ok (.ifCond .lt 15, 3) := by decide +kernel
theorem dX4_isRow_11 : decode cX4_isRow 11 = .ok (.iload_n 1, 1) := by decide +kernel
theorem dX4_isRow_12 : decode cX4_isRow 12 = .ok (.aload_n 0, 1) := by decide +kernel
theorem dX4_isRow_13 : decode cX4_isRow 13 = .ok (.getfield 132, 3) := by decide +kernel
theorem dX4_isRow_16 : decode cX4_isRow 16 = .ok (.if_icmp .ge 7, 3) := by decide +kernel
theorem dX4_isRow_19 : decode cX4_isRow 19 = .ok (.iconst 1, 1) := by decide +kernel
theorem dX4_isRow_20 : decode cX4_isRow 20 = .ok (.goto 4, 3) := by decide +kernel
theorem dX4_isRow_23 : decode cX4_isRow 23 = .ok (.iconst 0, 1) := by decide +kernel
theorem dX4_isRow_24 : decode cX4_isRow 24 = .ok (.ireturn, 1) := by decide +kernel
theorem dX4_at_0 : decode cX4_at 0 = .ok (.aload_n 0, 1) := by decide +kernel
theorem dX4_at_1 : decode cX4_at 1 = .ok (.iconst 0, 1) := by decide +kernel
theorem dX4_at_2 : decode cX4_at 2 = .ok (.putfield 58, 3) := by decide +kernel
theorem dX4_at_5 : decode cX4_at 5 = .ok (.iload_n 2, 1) := by decide +kernel
theorem dX4_at_6 : decode cX4_at 6 = .ok (.ifCond .eq 11, 3) := by decide +kernel
theorem dX4_at_9 : decode cX4_at 9 = .ok (.iload_n 2, 1) := by decide +kernel
theorem dX4_at_10 : decode cX4_at 10 = .ok (.iconst 1, 1) := by decide +kernel
theorem dX4_at_11 : decode cX4_at 11 = .ok (.if_icmp .eq 6, 3) := by decide +kernel
theorem dX4_at_14 : decode cX4_at 14 = .ok (.bipush (-2), 2) := by decide +kernel
theorem dX4_at_16 : decode cX4_at 16 = .ok (.ireturn, 1) := by decide +kernel
theorem dX4_at_17 : decode cX4_at 17 = .ok (.aload_n 0, 1) := by decide +kernel
theorem dX4_at_18 : decode cX4_at 18 = .ok (.getfield 129, 3) := by decide +kernel
theorem dX4_at_21 : decode cX4_at 21 = .ok (.ifCond .ne 6, 3) := by decide +kernel
theorem dX4_at_24 : decode cX4_at 24 = .ok (.bipush (-3), 2) := by decide +kernel
theorem dX4_at_26 : decode cX4_at 26 = .ok (.ireturn, 1) := by decide +kernel
theorem dX4_at_27 : decode cX4_at 27 = .ok (.aload_n 0, 1) := by decide +kernel
theorem dX4_at_28 : decode cX4_at 28 = .ok (.iload_n 1, 1) := by decide +kernel
theorem dX4_at_29 : decode cX4_at 29 = .ok (.invokevirtual 135, 3) := by decide +kernel
theorem dX4_at_32 : decode cX4_at 32 = .ok (.ifCond .ne 7, 3) := by decide +kernel
theorem dX4_at_35 : decode cX4_at 35 = .ok (.iconst (-1), 1) := by decide +kernel
theorem dX4_at_36 : decode cX4_at 36 = .ok (.goto 22, 3) := by decide +kernel
theorem dX4_at_39 : decode cX4_at 39 = .ok (.iload_n 2, 1) := by decide +kernel
theorem dX4_at_40 : decode cX4_at 40 = .ok (.ifCond .ne 12, 3) := by decide +kernel
theorem dX4_at_43 : decode cX4_at 43 = .ok (.aload_n 0, 1) := by decide +kernel
theorem dX4_at_44 : decode cX4_at 44 = .ok (.getfield 49, 3) := by decide +kernel
theorem dX4_at_47 : decode cX4_at 47 = .ok (.iload_n 1, 1) := by decide +kernel
theorem dX4_at_48 : decode cX4_at 48 = .ok (.iaload, 1) := by decide +kernel
theorem dX4_at_49 : decode cX4_at 49 = .ok (.goto 9, 3) := by decide +kernel
theorem dX4_at_52 : decode cX4_at 52 = .ok (.aload_n 0, 1) := by decide +kernel
theorem dX4_at_53 : decode cX4_at 53 = .ok (.getfield 52, 3) := by decide +kernel
theorem dX4_at_56 : decode cX4_at 56 = .ok (.iload_n 1, 1) := by decide +kernel
theorem dX4_at_57 : decode cX4_at 57 = .ok (.iaload, 1) := by decide +kernel
theorem dX4_at_58 : decode cX4_at 58 = .ok (.ireturn, 1) := by decide +kernel
theorem dX4_cycle_0 : decode cX4_cycle 0 = .ok (.aload_n 0, 1) := by decide +kernel
theorem dX4_cycle_1 : decode cX4_cycle 1 = .ok (.iconst 0, 1) := by decide +kernel
theorem dX4_cycle_2 : decode cX4_cycle 2 = .ok (.putfield 58, 3) := by decide +kernel
theorem dX4_cycle_5 : decode cX4_cycle 5 = .ok (.aload_n 0, 1) := by decide +kernel
theorem dX4_cycle_6 : decode cX4_cycle 6 = .ok (.iload_n 1, 1) := by decide +kernel
theorem dX4_cycle_7 : decode cX4_cycle 7 = .ok (.invokevirtual 135, 3) := by decide +kernel
theorem dX4_cycle_10 : decode cX4_cycle 10 = .ok (.ifCond .eq 22, 3) := by decide +kernel
theorem dX4_cycle_13 : decode cX4_cycle 13 = .ok (.aload_n 0, 1) := by decide +kernel
theorem dX4_cycle_14 : decode cX4_cycle 14 = .ok (.getfield 49, 3) := by decide +kernel
theorem dX4_cycle_17 : decode cX4_cycle 17 = .ok (.iload_n 1, 1) := by decide +kernel
theorem dX4_cycle_18 : decode cX4_cycle 18 = .ok (.iaload, 1) := by decide +kernel
theorem dX4_cycle_19 : decode cX4_cycle 19 = .ok (.aload_n 0, 1) := by decide +kernel
theorem dX4_cycle_20 : decode cX4_cycle 20 = .ok (.getfield 52, 3) := by decide +kernel
theorem dX4_cycle_23 : decode cX4_cycle 23 = .ok (.iload_n 1, 1) := by decide +kernel
theorem dX4_cycle_24 : decode cX4_cycle 24 = .ok (.iaload, 1) := by decide +kernel
theorem dX4_cycle_25 : decode cX4_cycle 25 = .ok (.if_icmp .ne 7, 3) := by decide +kernel
theorem dX4_cycle_28 : decode cX4_cycle 28 = .ok (.iconst 1, 1) := by decide +kernel
theorem dX4_cycle_29 : decode cX4_cycle 29 = .ok (.goto 4, 3) := by decide +kernel
theorem dX4_cycle_32 : decode cX4_cycle 32 = .ok (.iconst 0, 1) := by decide +kernel
theorem dX4_cycle_33 : decode cX4_cycle 33 = .ok (.ireturn, 1) := by decide +kernel
theorem dX4_depth_0 : decode cX4_depth 0 = .ok (.aload_n 0, 1) := by decide +kernel
theorem dX4_depth_1 : decode cX4_depth 1 = .ok (.aload_n 0, 1) := by decide +kernel
theorem dX4_depth_2 : decode cX4_depth 2 = .ok (.iload_n 1, 1) := by decide +kernel
theorem dX4_depth_3 : decode cX4_depth 3 = .ok (.invokevirtual 135, 3) := by decide +kernel
theorem dX4_depth_6 : decode cX4_depth 6 = .ok (.ifCond .eq 7, 3) := by decide +kernel
theorem dX4_depth_9 : decode cX4_depth 9 = .ok (.iconst 0, 1) := by decide +kernel
theorem dX4_depth_10 : decode cX4_depth 10 = .ok (.goto 4, 3) := by decide +kernel
theorem dX4_depth_13 : decode cX4_depth 13 = .ok (.iconst 1, 1) := by decide +kernel
theorem dX4_depth_14 : decode cX4_depth 14 = .ok (.putfield 58, 3) := by decide +kernel
theorem dX4_depth_17 : decode cX4_depth 17 = .ok (.aload_n 0, 1) := by decide +kernel
theorem dX4_depth_18 : decode cX4_depth 18 = .ok (.getfield 58, 3) := by decide +kernel
theorem dX4_depth_21 : decode cX4_depth 21 = .ok (.ifCond .le 7, 3) := by decide +kernel
theorem dX4_depth_24 : decode cX4_depth 24 = .ok (.iconst 0, 1) := by decide +kernel
theorem dX4_depth_25 : decode cX4_depth 25 = .ok (.goto 9, 3) := by decide +kernel
theorem dX4_depth_28 : decode cX4_depth 28 = .ok (.aload_n 0, 1) := by decide +kernel
theorem dX4_depth_29 : decode cX4_depth 29 = .ok (.getfield 55, 3) := by decide +kernel
theorem dX4_depth_32 : decode cX4_depth 32 = .ok (.iload_n 1, 1) := by decide +kernel
theorem dX4_depth_33 : decode cX4_depth 33 = .ok (.iaload, 1) := by decide +kernel
theorem dX4_depth_34 : decode cX4_depth 34 = .ok (.ireturn, 1) := by decide +kernel
end
section
theorem dJx00060_init_a7421_0 : decode cJx00060_init_a7421 0 = .ok (.aload_n 0, 1) := by decide +kernel
theorem dJx00060_init_a7421_1 : decode cJx00060_init_a7421 1 = .ok (.aload_n 1, 1) := by decide +kernel
theorem dJx00060_init_a7421_2 : decode cJx00060_init_a7421 2 = .ok (.invokespecial 7, 3) := by decide +kernel
theorem dJx00060_init_a7421_5 : decode cJx00060_init_a7421 5 = .ok (.return_, 1) := by decide +kernel
theorem dJ6_bitCount_0f7a4_0 : decode cJ6_bitCount_0f7a4 0 = .ok (.iload_n 0, 1) := by decide +kernel
theorem dJ6_bitCount_0f7a4_1 : decode cJ6_bitCount_0f7a4 1 = .ok (.iload_n 0, 1) := by decide +kernel
theorem dJ6_bitCount_0f7a4_2 : decode cJ6_bitCount_0f7a4 2 = .ok (.iconst 1, 1) := by decide +kernel
theorem dJ6_bitCount_0f7a4_3 : decode cJ6_bitCount_0f7a4 3 = .ok (.iushr, 1) := by decide +kernel
theorem dJ6_bitCount_0f7a4_4 : decode cJ6_bitCount_0f7a4 4 = .ok (.ldc_w 265, 3) := by decide +kernel
theorem dJ6_bitCount_0f7a4_7 : decode cJ6_bitCount_0f7a4 7 = .ok (.iand, 1) := by decide +kernel
theorem dJ6_bitCount_0f7a4_8 : decode cJ6_bitCount_0f7a4 8 = .ok (.isub, 1) := by decide +kernel
theorem dJ6_bitCount_0f7a4_9 : decode cJ6_bitCount_0f7a4 9 = .ok (.istore_n 0, 1) := by decide +kernel
theorem dJ6_bitCount_0f7a4_10 : decode cJ6_bitCount_0f7a4 10 = .ok (.iload_n 0, 1) := by decide +kernel
theorem dJ6_bitCount_0f7a4_11 : decode cJ6_bitCount_0f7a4 11 = .ok (.ldc_w 266, 3) := by decide +kernel
theorem dJ6_bitCount_0f7a4_14 : decode cJ6_bitCount_0f7a4 14 = .ok (.iand, 1) := by decide +kernel
theorem dJ6_bitCount_0f7a4_15 : decode cJ6_bitCount_0f7a4 15 = .ok (.iload_n 0, 1) := by decide +kernel
theorem dJ6_bitCount_0f7a4_16 : decode cJ6_bitCount_0f7a4 16 = .ok (.iconst 2, 1) := by decide +kernel
theorem dJ6_bitCount_0f7a4_17 : decode cJ6_bitCount_0f7a4 17 = .ok (.iushr, 1) := by decide +kernel
theorem dJ6_bitCount_0f7a4_18 : decode cJ6_bitCount_0f7a4 18 = .ok (.ldc_w 266, 3) := by decide +kernel
theorem dJ6_bitCount_0f7a4_21 : decode cJ6_bitCount_0f7a4 21 = .ok (.iand, 1) := by decide +kernel
theorem dJ6_bitCount_0f7a4_22 : decode cJ6_bitCount_0f7a4 22 = .ok (.iadd, 1) := by decide +kernel
theorem dJ6_bitCount_0f7a4_23 : decode cJ6_bitCount_0f7a4 23 = .ok (.istore_n 0, 1) := by decide +kernel
theorem dJ6_bitCount_0f7a4_24 : decode cJ6_bitCount_0f7a4 24 = .ok (.iload_n 0, 1) := by decide +kernel
theorem dJ6_bitCount_0f7a4_25 : decode cJ6_bitCount_0f7a4 25 = .ok (.iload_n 0, 1) := by decide +kernel
theorem dJ6_bitCount_0f7a4_26 : decode cJ6_bitCount_0f7a4 26 = .ok (.iconst 4, 1) := by decide +kernel
theorem dJ6_bitCount_0f7a4_27 : decode cJ6_bitCount_0f7a4 27 = .ok (.iushr, 1) := by decide +kernel
theorem dJ6_bitCount_0f7a4_28 : decode cJ6_bitCount_0f7a4 28 = .ok (.iadd, 1) := by decide +kernel
theorem dJ6_bitCount_0f7a4_29 : decode cJ6_bitCount_0f7a4 29 = .ok (.ldc_w 267, 3) := by decide +kernel
theorem dJ6_bitCount_0f7a4_32 : decode cJ6_bitCount_0f7a4 32 = .ok (.iand, 1) := by decide +kernel
theorem dJ6_bitCount_0f7a4_33 : decode cJ6_bitCount_0f7a4 33 = .ok (.istore_n 0, 1) := by decide +kernel
theorem dJ6_bitCount_0f7a4_34 : decode cJ6_bitCount_0f7a4 34 = .ok (.iload_n 0, 1) := by decide +kernel
theorem dJ6_bitCount_0f7a4_35 : decode cJ6_bitCount_0f7a4 35 = .ok (.iload_n 0, 1) := by decide +kernel
theorem dJ6_bitCount_0f7a4_36 : decode cJ6_bitCount_0f7a4 36 = .ok (.bipush 8, 2) := by decide +kernel
theorem dJ6_bitCount_0f7a4_38 : decode cJ6_bitCount_0f7a4 38 = .ok (.iushr, 1) := by decide +kernel
theorem dJ6_bitCount_0f7a4_39 : decode cJ6_bitCount_0f7a4 39 = .ok (.iadd, 1) := by decide +kernel
theorem dJ6_bitCount_0f7a4_40 : decode cJ6_bitCount_0f7a4 40 = .ok (.istore_n 0, 1) := by decide +kernel
theorem dJ6_bitCount_0f7a4_41 : decode cJ6_bitCount_0f7a4 41 = .ok (.iload_n 0, 1) := by decide +kernel
theorem dJ6_bitCount_0f7a4_42 : decode cJ6_bitCount_0f7a4 42 = .ok (.iload_n 0, 1) := by decide +kernel
theorem dJ6_bitCount_0f7a4_43 : decode cJ6_bitCount_0f7a4 43 = .ok (.bipush 16, 2) := by decide +kernel
theorem dJ6_bitCount_0f7a4_45 : decode cJ6_bitCount_0f7a4 45 = .ok (.iushr, 1) := by decide +kernel
theorem dJ6_bitCount_0f7a4_46 : decode cJ6_bitCount_0f7a4 46 = .ok (.iadd, 1) := by decide +kernel
theorem dJ6_bitCount_0f7a4_47 : decode cJ6_bitCount_0f7a4 47 = .ok (.istore_n 0, 1) := by decide +kernel
theorem dJ6_bitCount_0f7a4_48 : decode cJ6_bitCount_0f7a4 48 = .ok (.iload_n 0, 1) := by decide +kernel
theorem dJ6_bitCount_0f7a4_49 : decode cJ6_bitCount_0f7a4 49 = .ok (.bipush 63, 2) := by decide +kernel
theorem dJ6_bitCount_0f7a4_51 : decode cJ6_bitCount_0f7a4 51 = .ok (.iand, 1) := by decide +kernel
theorem dJ6_bitCount_0f7a4_52 : decode cJ6_bitCount_0f7a4 52 = .ok (.ireturn, 1) := by decide +kernel
theorem dJ9_min_f86c9_0 : decode cJ9_min_f86c9 0 = .ok (.lload_n 0, 1) := by decide +kernel
theorem dJ9_min_f86c9_1 : decode cJ9_min_f86c9 1 = .ok (.lload_n 2, 1) := by decide +kernel
theorem dJ9_min_f86c9_2 : decode cJ9_min_f86c9 2 = .ok (.lcmp, 1) := by decide +kernel
theorem dJ9_min_f86c9_3 : decode cJ9_min_f86c9 3 = .ok (.ifCond .gt 7, 3) := by decide +kernel
theorem dJ9_min_f86c9_6 : decode cJ9_min_f86c9 6 = .ok (.lload_n 0, 1) := by decide +kernel
theorem dJ9_min_f86c9_7 : decode cJ9_min_f86c9 7 = .ok (.goto 4, 3) := by decide +kernel
theorem dJ9_min_f86c9_10 : decode cJ9_min_f86c9 10 = .ok (.lload_n 2, 1) := by decide +kernel
theorem dJ9_min_f86c9_11 : decode cJ9_min_f86c9 11 = .ok (.lreturn, 1) := by decide +kernel
theorem dL_depth_0 : decode cL_depth 0 = .ok (.aload_n 2, 1) := by decide +kernel
theorem dL_depth_1 : decode cL_depth 1 = .ok (.iconst 0, 1) := by decide +kernel
theorem dL_depth_2 : decode cL_depth 2 = .ok (.aload_n 0, 1) := by decide +kernel
theorem dL_depth_3 : decode cL_depth 3 = .ok (.iload_n 1, 1) := by decide +kernel
theorem dL_depth_4 : decode cL_depth 4 = .ok (.invokevirtual 7, 3) := by decide +kernel
theorem dL_depth_7 : decode cL_depth 7 = .ok (.i2l, 1) := by decide +kernel
theorem dL_depth_8 : decode cL_depth 8 = .ok (.lastore, 1) := by decide +kernel
theorem dL_depth_9 : decode cL_depth 9 = .ok (.goto 6, 3) := by decide +kernel
theorem dL_depth_12 : decode cL_depth 12 = .ok (.astore_n 3, 1) := by decide +kernel
theorem dL_depth_13 : decode cL_depth 13 = .ok (.iconst 1, 1) := by decide +kernel
theorem dL_depth_14 : decode cL_depth 14 = .ok (.ireturn, 1) := by decide +kernel
theorem dL_depth_15 : decode cL_depth 15 = .ok (.iconst 0, 1) := by decide +kernel
theorem dL_depth_16 : decode cL_depth 16 = .ok (.ireturn, 1) := by decide +kernel
theorem dL_law_0 : decode cL_law 0 = .ok (.new 8, 3) := by decide +kernel
theorem dL_law_3 : decode cL_law 3 = .ok (.dup, 1) := by decide +kernel
theorem dL_law_4 : decode cL_law 4 = .ok (.invokespecial 15, 3) := by decide +kernel
theorem dL_law_7 : decode cL_law 7 = .ok (.astore_n 1, 1) := by decide +kernel
theorem dL_law_8 : decode cL_law 8 = .ok (.new 16, 3) := by decide +kernel
theorem dL_law_11 : decode cL_law 11 = .ok (.dup, 1) := by decide +kernel
theorem dL_law_12 : decode cL_law 12 = .ok (.invokespecial 18, 3) := by decide +kernel
theorem dL_law_15 : decode cL_law 15 = .ok (.astore_n 2, 1) := by decide +kernel
theorem dL_law_16 : decode cL_law 16 = .ok (.iconst 1, 1) := by decide +kernel
theorem dL_law_17 : decode cL_law 17 = .ok (.newarray .long, 2) := by decide +kernel
theorem dL_law_19 : decode cL_law 19 = .ok (.astore_n 3, 1) := by decide +kernel
theorem dL_law_20 : decode cL_law 20 = .ok (.iconst 0, 1) := by decide +kernel
theorem dL_law_21 : decode cL_law 21 = .ok (.istore 4, 2) := by decide +kernel
theorem dL_law_23 : decode cL_law 23 = .ok (.iload 4, 2) := by decide +kernel
theorem dL_law_25 : decode cL_law 25 = .ok (.aload_n 0, 1) := by decide +kernel
theorem dL_law_26 : decode cL_law 26 = .ok (.arraylength, 1) := by decide +kernel
theorem dL_law_27 : decode cL_law 27 = .ok (.iconst 4, 1) := by decide +kernel
theorem dL_law_28 : decode cL_law 28 = .ok (.isub, 1) := by decide +kernel
theorem dL_law_29 : decode cL_law 29 = .ok (.if_icmp .gt 499, 3) := by decide +kernel
theorem dL_law_32 : decode cL_law 32 = .ok (.aload_n 0, 1) := by decide +kernel
theorem dL_law_33 : decode cL_law 33 = .ok (.iload 4, 2) := by decide +kernel
theorem dL_law_35 : decode cL_law 35 = .ok (.iaload, 1) := by decide +kernel
theorem dL_law_36 : decode cL_law 36 = .ok (.bipush 15, 2) := by decide +kernel
theorem dL_law_38 : decode cL_law 38 = .ok (.iand, 1) := by decide +kernel
theorem dL_law_39 : decode cL_law 39 = .ok (.tableswitch 483 0 10 #[57, 106, 155, 180, 229, 266, 315, 340, 365, 421, 446], 57) := by decide +kernel
theorem dL_law_96 : decode cL_law 96 = .ok (.aload_n 1, 1) := by decide +kernel
theorem dL_law_97 : decode cL_law 97 = .ok (.aload_n 0, 1) := by decide +kernel
theorem dL_law_98 : decode cL_law 98 = .ok (.iload 4, 2) := by decide +kernel
theorem dL_law_100 : decode cL_law 100 = .ok (.iconst 1, 1) := by decide +kernel
theorem dL_law_101 : decode cL_law 101 = .ok (.iadd, 1) := by decide +kernel
theorem dL_law_102 : decode cL_law 102 = .ok (.iaload, 1) := by decide +kernel
theorem dL_law_103 : decode cL_law 103 = .ok (.aload_n 0, 1) := by decide +kernel
theorem dL_law_104 : decode cL_law 104 = .ok (.iload 4, 2) := by decide +kernel
theorem dL_law_106 : decode cL_law 106 = .ok (.iconst 2, 1) := by decide +kernel
theorem dL_law_107 : decode cL_law 107 = .ok (.iadd, 1) := by decide +kernel
theorem dL_law_108 : decode cL_law 108 = .ok (.iaload, 1) := by decide +kernel
theorem dL_law_109 : decode cL_law 109 = .ok (.aload_n 0, 1) := by decide +kernel
theorem dL_law_110 : decode cL_law 110 = .ok (.iload 4, 2) := by decide +kernel
theorem dL_law_112 : decode cL_law 112 = .ok (.iconst 3, 1) := by decide +kernel
theorem dL_law_113 : decode cL_law 113 = .ok (.iadd, 1) := by decide +kernel
theorem dL_law_114 : decode cL_law 114 = .ok (.iaload, 1) := by decide +kernel
theorem dL_law_115 : decode cL_law 115 = .ok (.invokevirtual 19, 3) := by decide +kernel
theorem dL_law_118 : decode cL_law 118 = .ok (.aload_n 2, 1) := by decide +kernel
theorem dL_law_119 : decode cL_law 119 = .ok (.aload_n 0, 1) := by decide +kernel
theorem dL_law_120 : decode cL_law 120 = .ok (.iload 4, 2) := by decide +kernel
theorem dL_law_122 : decode cL_law 122 = .ok (.iconst 1, 1) := by decide +kernel
theorem dL_law_123 : decode cL_law 123 = .ok (.iadd, 1) := by decide +kernel
theorem dL_law_124 : decode cL_law 124 = .ok (.iaload, 1) := by decide +kernel
theorem dL_law_125 : decode cL_law 125 = .ok (.aload_n 0, 1) := by decide +kernel
theorem dL_law_126 : decode cL_law 126 = .ok (.iload 4, 2) := by decide +kernel
theorem dL_law_128 : decode cL_law 128 = .ok (.iconst 2, 1) := by decide +kernel
theorem dL_law_129 : decode cL_law 129 = .ok (.iadd, 1) := by decide +kernel
theorem dL_law_130 : decode cL_law 130 = .ok (.iaload, 1) := by decide +kernel
theorem dL_law_131 : decode cL_law 131 = .ok (.aload_n 0, 1) := by decide +kernel
theorem dL_law_132 : decode cL_law 132 = .ok (.iload 4, 2) := by decide +kernel
theorem dL_law_134 : decode cL_law 134 = .ok (.iconst 3, 1) := by decide +kernel
theorem dL_law_135 : decode cL_law 135 = .ok (.iadd, 1) := by decide +kernel
theorem dL_law_136 : decode cL_law 136 = .ok (.iaload, 1) := by decide +kernel
theorem dL_law_137 : decode cL_law 137 = .ok (.invokevirtual 23, 3) := by decide +kernel
theorem dL_law_140 : decode cL_law 140 = .ok (.if_icmp .eq 382, 3) := by decide +kernel
theorem dL_law_143 : decode cL_law 143 = .ok (.iconst 0, 1) := by decide +kernel
theorem dL_law_144 : decode cL_law 144 = .ok (.ireturn, 1) := by decide +kernel
theorem dL_law_145 : decode cL_law 145 = .ok (.aload_n 1, 1) := by decide +kernel
theorem dL_law_146 : decode cL_law 146 = .ok (.aload_n 0, 1) := by decide +kernel
theorem dL_law_147 : decode cL_law 147 = .ok (.iload 4, 2) := by decide +kernel
theorem dL_law_149 : decode cL_law 149 = .ok (.iconst 1, 1) := by decide +kernel
theorem dL_law_150 : decode cL_law 150 = .ok (.iadd, 1) := by decide +kernel
theorem dL_law_151 : decode cL_law 151 = .ok (.iaload, 1) := by decide +kernel
theorem dL_law_152 : decode cL_law 152 = .ok (.aload_n 0, 1) := by decide +kernel
theorem dL_law_153 : decode cL_law 153 = .ok (.iload 4, 2) := by decide +kernel
theorem dL_law_155 : decode cL_law 155 = .ok (.iconst 2, 1) := by decide +kernel
theorem dL_law_156 : decode cL_law 156 = .ok (.iadd, 1) := by decide +kernel
theorem dL_law_157 : decode cL_law 157 = .ok (.iaload, 1) := by decide +kernel
theorem dL_law_158 : decode cL_law 158 = .ok (.aload_n 0, 1) := by decide +kernel
theorem dL_law_159 : decode cL_law 159 = .ok (.iload 4, 2) := by decide +kernel
theorem dL_law_161 : decode cL_law 161 = .ok (.iconst 3, 1) := by decide +kernel
theorem dL_law_162 : decode cL_law 162 = .ok (.iadd, 1) := by decide +kernel
theorem dL_law_163 : decode cL_law 163 = .ok (.iaload, 1) := by decide +kernel
theorem dL_law_164 : decode cL_law 164 = .ok (.invokevirtual 24, 3) := by decide +kernel
theorem dL_law_167 : decode cL_law 167 = .ok (.aload_n 2, 1) := by decide +kernel
theorem dL_law_168 : decode cL_law 168 = .ok (.aload_n 0, 1) := by decide +kernel
theorem dL_law_169 : decode cL_law 169 = .ok (.iload 4, 2) := by decide +kernel
theorem dL_law_171 : decode cL_law 171 = .ok (.iconst 1, 1) := by decide +kernel
theorem dL_law_172 : decode cL_law 172 = .ok (.iadd, 1) := by decide +kernel
theorem dL_law_173 : decode cL_law 173 = .ok (.iaload, 1) := by decide +kernel
theorem dL_law_174 : decode cL_law 174 = .ok (.aload_n 0, 1) := by decide +kernel
theorem dL_law_175 : decode cL_law 175 = .ok (.iload 4, 2) := by decide +kernel
theorem dL_law_177 : decode cL_law 177 = .ok (.iconst 2, 1) := by decide +kernel
theorem dL_law_178 : decode cL_law 178 = .ok (.iadd, 1) := by decide +kernel
theorem dL_law_179 : decode cL_law 179 = .ok (.iaload, 1) := by decide +kernel
theorem dL_law_180 : decode cL_law 180 = .ok (.aload_n 0, 1) := by decide +kernel
theorem dL_law_181 : decode cL_law 181 = .ok (.iload 4, 2) := by decide +kernel
theorem dL_law_183 : decode cL_law 183 = .ok (.iconst 3, 1) := by decide +kernel
theorem dL_law_184 : decode cL_law 184 = .ok (.iadd, 1) := by decide +kernel
theorem dL_law_185 : decode cL_law 185 = .ok (.iaload, 1) := by decide +kernel
theorem dL_law_186 : decode cL_law 186 = .ok (.invokevirtual 27, 3) := by decide +kernel
theorem dL_law_189 : decode cL_law 189 = .ok (.if_icmp .eq 333, 3) := by decide +kernel
theorem dL_law_192 : decode cL_law 192 = .ok (.iconst 0, 1) := by decide +kernel
theorem dL_law_193 : decode cL_law 193 = .ok (.ireturn, 1) := by decide +kernel
theorem dL_law_194 : decode cL_law 194 = .ok (.aload_n 1, 1) := by decide +kernel
theorem dL_law_195 : decode cL_law 195 = .ok (.aload_n 0, 1) := by decide +kernel
theorem dL_law_196 : decode cL_law 196 = .ok (.iload 4, 2) := by decide +kernel
theorem dL_law_198 : decode cL_law 198 = .ok (.iconst 1, 1) := by decide +kernel
theorem dL_law_199 : decode cL_law 199 = .ok (.iadd, 1) := by decide +kernel
theorem dL_law_200 : decode cL_law 200 = .ok (.iaload, 1) := by decide +kernel
theorem dL_law_201 : decode cL_law 201 = .ok (.invokevirtual 28, 3) := by decide +kernel
theorem dL_law_204 : decode cL_law 204 = .ok (.aload_n 2, 1) := by decide +kernel
theorem dL_law_205 : decode cL_law 205 = .ok (.aload_n 0, 1) := by decide +kernel
theorem dL_law_206 : decode cL_law 206 = .ok (.iload 4, 2) := by decide +kernel
theorem dL_law_208 : decode cL_law 208 = .ok (.iconst 1, 1) := by decide +kernel
theorem dL_law_209 : decode cL_law 209 = .ok (.iadd, 1) := by decide +kernel
theorem dL_law_210 : decode cL_law 210 = .ok (.iaload, 1) := by decide +kernel
theorem dL_law_211 : decode cL_law 211 = .ok (.invokevirtual 31, 3) := by decide +kernel
theorem dL_law_214 : decode cL_law 214 = .ok (.if_icmp .eq 308, 3) := by decide +kernel
theorem dL_law_217 : decode cL_law 217 = .ok (.iconst 0, 1) := by decide +kernel
theorem dL_law_218 : decode cL_law 218 = .ok (.ireturn, 1) := by decide +kernel
theorem dL_law_219 : decode cL_law 219 = .ok (.aload_n 1, 1) := by decide +kernel
theorem dL_law_220 : decode cL_law 220 = .ok (.aload_n 0, 1) := by decide +kernel
theorem dL_law_221 : decode cL_law 221 = .ok (.iload 4, 2) := by decide +kernel
theorem dL_law_223 : decode cL_law 223 = .ok (.iconst 1, 1) := by decide +kernel
theorem dL_law_224 : decode cL_law 224 = .ok (.iadd, 1) := by decide +kernel
theorem dL_law_225 : decode cL_law 225 = .ok (.iaload, 1) := by decide +kernel
theorem dL_law_226 : decode cL_law 226 = .ok (.aload_n 0, 1) := by decide +kernel
theorem dL_law_227 : decode cL_law 227 = .ok (.iload 4, 2) := by decide +kernel
theorem dL_law_229 : decode cL_law 229 = .ok (.iconst 2, 1) := by decide +kernel
theorem dL_law_230 : decode cL_law 230 = .ok (.iadd, 1) := by decide +kernel
theorem dL_law_231 : decode cL_law 231 = .ok (.iaload, 1) := by decide +kernel
theorem dL_law_232 : decode cL_law 232 = .ok (.aload_n 0, 1) := by decide +kernel
theorem dL_law_233 : decode cL_law 233 = .ok (.iload 4, 2) := by decide +kernel
theorem dL_law_235 : decode cL_law 235 = .ok (.iconst 3, 1) := by decide +kernel
theorem dL_law_236 : decode cL_law 236 = .ok (.iadd, 1) := by decide +kernel
theorem dL_law_237 : decode cL_law 237 = .ok (.iaload, 1) := by decide +kernel
theorem dL_law_238 : decode cL_law 238 = .ok (.invokevirtual 32, 3) := by decide +kernel
theorem dL_law_241 : decode cL_law 241 = .ok (.aload_n 2, 1) := by decide +kernel
theorem dL_law_242 : decode cL_law 242 = .ok (.aload_n 0, 1) := by decide +kernel
theorem dL_law_243 : decode cL_law 243 = .ok (.iload 4, 2) := by decide +kernel
theorem dL_law_245 : decode cL_law 245 = .ok (.iconst 1, 1) := by decide +kernel
theorem dL_law_246 : decode cL_law 246 = .ok (.iadd, 1) := by decide +kernel
theorem dL_law_247 : decode cL_law 247 = .ok (.iaload, 1) := by decide +kernel
theorem dL_law_248 : decode cL_law 248 = .ok (.aload_n 0, 1) := by decide +kernel
theorem dL_law_249 : decode cL_law 249 = .ok (.iload 4, 2) := by decide +kernel
theorem dL_law_251 : decode cL_law 251 = .ok (.iconst 2, 1) := by decide +kernel
theorem dL_law_252 : decode cL_law 252 = .ok (.iadd, 1) := by decide +kernel
theorem dL_law_253 : decode cL_law 253 = .ok (.iaload, 1) := by decide +kernel
theorem dL_law_254 : decode cL_law 254 = .ok (.aload_n 0, 1) := by decide +kernel
theorem dL_law_255 : decode cL_law 255 = .ok (.iload 4, 2) := by decide +kernel
theorem dL_law_257 : decode cL_law 257 = .ok (.iconst 3, 1) := by decide +kernel
theorem dL_law_258 : decode cL_law 258 = .ok (.iadd, 1) := by decide +kernel
theorem dL_law_259 : decode cL_law 259 = .ok (.iaload, 1) := by decide +kernel
theorem dL_law_260 : decode cL_law 260 = .ok (.invokevirtual 35, 3) := by decide +kernel
theorem dL_law_263 : decode cL_law 263 = .ok (.if_icmp .eq 259, 3) := by decide +kernel
theorem dL_law_266 : decode cL_law 266 = .ok (.iconst 0, 1) := by decide +kernel
theorem dL_law_267 : decode cL_law 267 = .ok (.ireturn, 1) := by decide +kernel
theorem dL_law_268 : decode cL_law 268 = .ok (.aload_n 1, 1) := by decide +kernel
theorem dL_law_269 : decode cL_law 269 = .ok (.aload_n 0, 1) := by decide +kernel
theorem dL_law_270 : decode cL_law 270 = .ok (.iload 4, 2) := by decide +kernel
theorem dL_law_272 : decode cL_law 272 = .ok (.iconst 1, 1) := by decide +kernel
theorem dL_law_273 : decode cL_law 273 = .ok (.iadd, 1) := by decide +kernel
theorem dL_law_274 : decode cL_law 274 = .ok (.iaload, 1) := by decide +kernel
theorem dL_law_275 : decode cL_law 275 = .ok (.aload_n 0, 1) := by decide +kernel
theorem dL_law_276 : decode cL_law 276 = .ok (.iload 4, 2) := by decide +kernel
theorem dL_law_278 : decode cL_law 278 = .ok (.iconst 2, 1) := by decide +kernel
theorem dL_law_279 : decode cL_law 279 = .ok (.iadd, 1) := by decide +kernel
theorem dL_law_280 : decode cL_law 280 = .ok (.iaload, 1) := by decide +kernel
theorem dL_law_281 : decode cL_law 281 = .ok (.invokevirtual 36, 3) := by decide +kernel
theorem dL_law_284 : decode cL_law 284 = .ok (.aload_n 2, 1) := by decide +kernel
theorem dL_law_285 : decode cL_law 285 = .ok (.aload_n 0, 1) := by decide +kernel
theorem dL_law_286 : decode cL_law 286 = .ok (.iload 4, 2) := by decide +kernel
theorem dL_law_288 : decode cL_law 288 = .ok (.iconst 1, 1) := by decide +kernel
theorem dL_law_289 : decode cL_law 289 = .ok (.iadd, 1) := by decide +kernel
theorem dL_law_290 : decode cL_law 290 = .ok (.iaload, 1) := by decide +kernel
theorem dL_law_291 : decode cL_law 291 = .ok (.aload_n 0, 1) := by decide +kernel
theorem dL_law_292 : decode cL_law 292 = .ok (.iload 4, 2) := by decide +kernel
theorem dL_law_294 : decode cL_law 294 = .ok (.iconst 2, 1) := by decide +kernel
theorem dL_law_295 : decode cL_law 295 = .ok (.iadd, 1) := by decide +kernel
theorem dL_law_296 : decode cL_law 296 = .ok (.iaload, 1) := by decide +kernel
theorem dL_law_297 : decode cL_law 297 = .ok (.invokevirtual 40, 3) := by decide +kernel
theorem dL_law_300 : decode cL_law 300 = .ok (.if_icmp .eq 222, 3) := by decide +kernel
theorem dL_law_303 : decode cL_law 303 = .ok (.iconst 0, 1) := by decide +kernel
theorem dL_law_304 : decode cL_law 304 = .ok (.ireturn, 1) := by decide +kernel
theorem dL_law_305 : decode cL_law 305 = .ok (.aload_n 1, 1) := by decide +kernel
theorem dL_law_306 : decode cL_law 306 = .ok (.aload_n 0, 1) := by decide +kernel
theorem dL_law_307 : decode cL_law 307 = .ok (.iload 4, 2) := by decide +kernel
theorem dL_law_309 : decode cL_law 309 = .ok (.iconst 1, 1) := by decide +kernel
theorem dL_law_310 : decode cL_law 310 = .ok (.iadd, 1) := by decide +kernel
theorem dL_law_311 : decode cL_law 311 = .ok (.iaload, 1) := by decide +kernel
theorem dL_law_312 : decode cL_law 312 = .ok (.aload_n 0, 1) := by decide +kernel
theorem dL_law_313 : decode cL_law 313 = .ok (.iload 4, 2) := by decide +kernel
theorem dL_law_315 : decode cL_law 315 = .ok (.iconst 2, 1) := by decide +kernel
theorem dL_law_316 : decode cL_law 316 = .ok (.iadd, 1) := by decide +kernel
theorem dL_law_317 : decode cL_law 317 = .ok (.iaload, 1) := by decide +kernel
theorem dL_law_318 : decode cL_law 318 = .ok (.aload_n 0, 1) := by decide +kernel
theorem dL_law_319 : decode cL_law 319 = .ok (.iload 4, 2) := by decide +kernel
theorem dL_law_321 : decode cL_law 321 = .ok (.iconst 3, 1) := by decide +kernel
theorem dL_law_322 : decode cL_law 322 = .ok (.iadd, 1) := by decide +kernel
theorem dL_law_323 : decode cL_law 323 = .ok (.iaload, 1) := by decide +kernel
theorem dL_law_324 : decode cL_law 324 = .ok (.invokevirtual 41, 3) := by decide +kernel
theorem dL_law_327 : decode cL_law 327 = .ok (.aload_n 2, 1) := by decide +kernel
theorem dL_law_328 : decode cL_law 328 = .ok (.aload_n 0, 1) := by decide +kernel
theorem dL_law_329 : decode cL_law 329 = .ok (.iload 4, 2) := by decide +kernel
theorem dL_law_331 : decode cL_law 331 = .ok (.iconst 1, 1) := by decide +kernel
theorem dL_law_332 : decode cL_law 332 = .ok (.iadd, 1) := by decide +kernel
theorem dL_law_333 : decode cL_law 333 = .ok (.iaload, 1) := by decide +kernel
theorem dL_law_334 : decode cL_law 334 = .ok (.aload_n 0, 1) := by decide +kernel
theorem dL_law_335 : decode cL_law 335 = .ok (.iload 4, 2) := by decide +kernel
theorem dL_law_337 : decode cL_law 337 = .ok (.iconst 2, 1) := by decide +kernel
theorem dL_law_338 : decode cL_law 338 = .ok (.iadd, 1) := by decide +kernel
theorem dL_law_339 : decode cL_law 339 = .ok (.iaload, 1) := by decide +kernel
theorem dL_law_340 : decode cL_law 340 = .ok (.aload_n 0, 1) := by decide +kernel
theorem dL_law_341 : decode cL_law 341 = .ok (.iload 4, 2) := by decide +kernel
theorem dL_law_343 : decode cL_law 343 = .ok (.iconst 3, 1) := by decide +kernel
theorem dL_law_344 : decode cL_law 344 = .ok (.iadd, 1) := by decide +kernel
theorem dL_law_345 : decode cL_law 345 = .ok (.iaload, 1) := by decide +kernel
theorem dL_law_346 : decode cL_law 346 = .ok (.invokevirtual 44, 3) := by decide +kernel
theorem dL_law_349 : decode cL_law 349 = .ok (.if_icmp .eq 173, 3) := by decide +kernel
theorem dL_law_352 : decode cL_law 352 = .ok (.iconst 0, 1) := by decide +kernel
theorem dL_law_353 : decode cL_law 353 = .ok (.ireturn, 1) := by decide +kernel
theorem dL_law_354 : decode cL_law 354 = .ok (.aload_n 1, 1) := by decide +kernel
theorem dL_law_355 : decode cL_law 355 = .ok (.aload_n 0, 1) := by decide +kernel
theorem dL_law_356 : decode cL_law 356 = .ok (.iload 4, 2) := by decide +kernel
theorem dL_law_358 : decode cL_law 358 = .ok (.iconst 1, 1) := by decide +kernel
theorem dL_law_359 : decode cL_law 359 = .ok (.iadd, 1) := by decide +kernel
theorem dL_law_360 : decode cL_law 360 = .ok (.iaload, 1) := by decide +kernel
theorem dL_law_361 : decode cL_law 361 = .ok (.invokevirtual 45, 3) := by decide +kernel
theorem dL_law_364 : decode cL_law 364 = .ok (.aload_n 2, 1) := by decide +kernel
theorem dL_law_365 : decode cL_law 365 = .ok (.aload_n 0, 1) := by decide +kernel
theorem dL_law_366 : decode cL_law 366 = .ok (.iload 4, 2) := by decide +kernel
theorem dL_law_368 : decode cL_law 368 = .ok (.iconst 1, 1) := by decide +kernel
theorem dL_law_369 : decode cL_law 369 = .ok (.iadd, 1) := by decide +kernel
theorem dL_law_370 : decode cL_law 370 = .ok (.iaload, 1) := by decide +kernel
theorem dL_law_371 : decode cL_law 371 = .ok (.invokevirtual 48, 3) := by decide +kernel
theorem dL_law_374 : decode cL_law 374 = .ok (.if_icmp .eq 148, 3) := by decide +kernel
theorem dL_law_377 : decode cL_law 377 = .ok (.iconst 0, 1) := by decide +kernel
theorem dL_law_378 : decode cL_law 378 = .ok (.ireturn, 1) := by decide +kernel
theorem dL_law_379 : decode cL_law 379 = .ok (.aload_n 1, 1) := by decide +kernel
theorem dL_law_380 : decode cL_law 380 = .ok (.aload_n 0, 1) := by decide +kernel
theorem dL_law_381 : decode cL_law 381 = .ok (.iload 4, 2) := by decide +kernel
theorem dL_law_383 : decode cL_law 383 = .ok (.iconst 1, 1) := by decide +kernel
theorem dL_law_384 : decode cL_law 384 = .ok (.iadd, 1) := by decide +kernel
theorem dL_law_385 : decode cL_law 385 = .ok (.iaload, 1) := by decide +kernel
theorem dL_law_386 : decode cL_law 386 = .ok (.invokevirtual 49, 3) := by decide +kernel
theorem dL_law_389 : decode cL_law 389 = .ok (.aload_n 2, 1) := by decide +kernel
theorem dL_law_390 : decode cL_law 390 = .ok (.aload_n 0, 1) := by decide +kernel
theorem dL_law_391 : decode cL_law 391 = .ok (.iload 4, 2) := by decide +kernel
theorem dL_law_393 : decode cL_law 393 = .ok (.iconst 1, 1) := by decide +kernel
theorem dL_law_394 : decode cL_law 394 = .ok (.iadd, 1) := by decide +kernel
theorem dL_law_395 : decode cL_law 395 = .ok (.iaload, 1) := by decide +kernel
theorem dL_law_396 : decode cL_law 396 = .ok (.invokevirtual 53, 3) := by decide +kernel
theorem dL_law_399 : decode cL_law 399 = .ok (.if_icmp .eq 123, 3) := by decide +kernel
theorem dL_law_402 : decode cL_law 402 = .ok (.iconst 0, 1) := by decide +kernel
theorem dL_law_403 : decode cL_law 403 = .ok (.ireturn, 1) := by decide +kernel
theorem dL_law_404 : decode cL_law 404 = .ok (.aload_n 1, 1) := by decide +kernel
theorem dL_law_405 : decode cL_law 405 = .ok (.aload_n 0, 1) := by decide +kernel
theorem dL_law_406 : decode cL_law 406 = .ok (.iload 4, 2) := by decide +kernel
theorem dL_law_408 : decode cL_law 408 = .ok (.iconst 1, 1) := by decide +kernel
theorem dL_law_409 : decode cL_law 409 = .ok (.iadd, 1) := by decide +kernel
theorem dL_law_410 : decode cL_law 410 = .ok (.iaload, 1) := by decide +kernel
theorem dL_law_411 : decode cL_law 411 = .ok (.aload_n 3, 1) := by decide +kernel
theorem dL_law_412 : decode cL_law 412 = .ok (.invokestatic 54, 3) := by decide +kernel
theorem dL_law_415 : decode cL_law 415 = .ok (.istore 5, 2) := by decide +kernel
theorem dL_law_417 : decode cL_law 417 = .ok (.aload_n 2, 1) := by decide +kernel
theorem dL_law_418 : decode cL_law 418 = .ok (.aload_n 0, 1) := by decide +kernel
theorem dL_law_419 : decode cL_law 419 = .ok (.iload 4, 2) := by decide +kernel
theorem dL_law_421 : decode cL_law 421 = .ok (.iconst 1, 1) := by decide +kernel
theorem dL_law_422 : decode cL_law 422 = .ok (.iadd, 1) := by decide +kernel
theorem dL_law_423 : decode cL_law 423 = .ok (.iaload, 1) := by decide +kernel
theorem dL_law_424 : decode cL_law 424 = .ok (.invokevirtual 59, 3) := by decide +kernel
theorem dL_law_427 : decode cL_law 427 = .ok (.istore 6, 2) := by decide +kernel
theorem dL_law_429 : decode cL_law 429 = .ok (.aload_n 2, 1) := by decide +kernel
theorem dL_law_430 : decode cL_law 430 = .ok (.invokevirtual 60, 3) := by decide +kernel
theorem dL_law_433 : decode cL_law 433 = .ok (.iload 5, 2) := by decide +kernel
theorem dL_law_435 : decode cL_law 435 = .ok (.if_icmp .eq 5, 3) := by decide +kernel
theorem dL_law_438 : decode cL_law 438 = .ok (.iconst 0, 1) := by decide +kernel
theorem dL_law_439 : decode cL_law 439 = .ok (.ireturn, 1) := by decide +kernel
theorem dL_law_440 : decode cL_law 440 = .ok (.iload 5, 2) := by decide +kernel
theorem dL_law_442 : decode cL_law 442 = .ok (.ifCond .ne 15, 3) := by decide +kernel
theorem dL_law_445 : decode cL_law 445 = .ok (.aload_n 3, 1) := by decide +kernel
theorem dL_law_446 : decode cL_law 446 = .ok (.iconst 0, 1) := by decide +kernel
theorem dL_law_447 : decode cL_law 447 = .ok (.laload, 1) := by decide +kernel
theorem dL_law_448 : decode cL_law 448 = .ok (.iload 6, 2) := by decide +kernel
theorem dL_law_450 : decode cL_law 450 = .ok (.i2l, 1) := by decide +kernel
theorem dL_law_451 : decode cL_law 451 = .ok (.lcmp, 1) := by decide +kernel
theorem dL_law_452 : decode cL_law 452 = .ok (.ifCond .eq 5, 3) := by decide +kernel
theorem dL_law_455 : decode cL_law 455 = .ok (.iconst 0, 1) := by decide +kernel
theorem dL_law_456 : decode cL_law 456 = .ok (.ireturn, 1) := by decide +kernel
theorem dL_law_457 : decode cL_law 457 = .ok (.goto 65, 3) := by decide +kernel
theorem dL_law_460 : decode cL_law 460 = .ok (.aload_n 1, 1) := by decide +kernel
theorem dL_law_461 : decode cL_law 461 = .ok (.aload_n 0, 1) := by decide +kernel
theorem dL_law_462 : decode cL_law 462 = .ok (.iload 4, 2) := by decide +kernel
theorem dL_law_464 : decode cL_law 464 = .ok (.iconst 1, 1) := by decide +kernel
theorem dL_law_465 : decode cL_law 465 = .ok (.iadd, 1) := by decide +kernel
theorem dL_law_466 : decode cL_law 466 = .ok (.iaload, 1) := by decide +kernel
theorem dL_law_467 : decode cL_law 467 = .ok (.invokevirtual 64, 3) := by decide +kernel
theorem dL_law_470 : decode cL_law 470 = .ok (.aload_n 2, 1) := by decide +kernel
theorem dL_law_471 : decode cL_law 471 = .ok (.aload_n 0, 1) := by decide +kernel
theorem dL_law_472 : decode cL_law 472 = .ok (.iload 4, 2) := by decide +kernel
theorem dL_law_474 : decode cL_law 474 = .ok (.iconst 1, 1) := by decide +kernel
theorem dL_law_475 : decode cL_law 475 = .ok (.iadd, 1) := by decide +kernel
theorem dL_law_476 : decode cL_law 476 = .ok (.iaload, 1) := by decide +kernel
theorem dL_law_477 : decode cL_law 477 = .ok (.invokevirtual 67, 3) := by decide +kernel
theorem dL_law_480 : decode cL_law 480 = .ok (.if_icmp .eq 42, 3) := by decide +kernel
theorem dL_law_483 : decode cL_law 483 = .ok (.iconst 0, 1) := by decide +kernel
theorem dL_law_484 : decode cL_law 484 = .ok (.ireturn, 1) := by decide +kernel
theorem dL_law_485 : decode cL_law 485 = .ok (.aload_n 1, 1) := by decide +kernel
theorem dL_law_486 : decode cL_law 486 = .ok (.aload_n 0, 1) := by decide +kernel
theorem dL_law_487 : decode cL_law 487 = .ok (.iload 4, 2) := by decide +kernel
theorem dL_law_489 : decode cL_law 489 = .ok (.iconst 1, 1) := by decide +kernel
theorem dL_law_490 : decode cL_law 490 = .ok (.iadd, 1) := by decide +kernel
theorem dL_law_491 : decode cL_law 491 = .ok (.iaload, 1) := by decide +kernel
theorem dL_law_492 : decode cL_law 492 = .ok (.aload_n 0, 1) := by decide +kernel
theorem dL_law_493 : decode cL_law 493 = .ok (.iload 4, 2) := by decide +kernel
theorem dL_law_495 : decode cL_law 495 = .ok (.iconst 2, 1) := by decide +kernel
theorem dL_law_496 : decode cL_law 496 = .ok (.iadd, 1) := by decide +kernel
theorem dL_law_497 : decode cL_law 497 = .ok (.iaload, 1) := by decide +kernel
theorem dL_law_498 : decode cL_law 498 = .ok (.invokevirtual 68, 3) := by decide +kernel
theorem dL_law_501 : decode cL_law 501 = .ok (.aload_n 2, 1) := by decide +kernel
theorem dL_law_502 : decode cL_law 502 = .ok (.aload_n 0, 1) := by decide +kernel
theorem dL_law_503 : decode cL_law 503 = .ok (.iload 4, 2) := by decide +kernel
theorem dL_law_505 : decode cL_law 505 = .ok (.iconst 1, 1) := by decide +kernel
theorem dL_law_506 : decode cL_law 506 = .ok (.iadd, 1) := by decide +kernel
theorem dL_law_507 : decode cL_law 507 = .ok (.iaload, 1) := by decide +kernel
theorem dL_law_508 : decode cL_law 508 = .ok (.aload_n 0, 1) := by decide +kernel
theorem dL_law_509 : decode cL_law 509 = .ok (.iload 4, 2) := by decide +kernel
theorem dL_law_511 : decode cL_law 511 = .ok (.iconst 2, 1) := by decide +kernel
theorem dL_law_512 : decode cL_law 512 = .ok (.iadd, 1) := by decide +kernel
theorem dL_law_513 : decode cL_law 513 = .ok (.iaload, 1) := by decide +kernel
theorem dL_law_514 : decode cL_law 514 = .ok (.invokevirtual 71, 3) := by decide +kernel
theorem dL_law_517 : decode cL_law 517 = .ok (.if_icmp .eq 5, 3) := by decide +kernel
theorem dL_law_520 : decode cL_law 520 = .ok (.iconst 0, 1) := by decide +kernel
theorem dL_law_521 : decode cL_law 521 = .ok (.ireturn, 1) := by decide +kernel
theorem dL_law_522 : decode cL_law 522 = .ok (.iinc 4 4, 3) := by decide +kernel
theorem dL_law_525 : decode cL_law 525 = .ok (.goto (-502), 3) := by decide +kernel
theorem dL_law_528 : decode cL_law 528 = .ok (.iconst 1, 1) := by decide +kernel
theorem dL_law_529 : decode cL_law 529 = .ok (.ireturn, 1) := by decide +kernel
end
section
/-! MY OWN WORLD: a map from addresses to contents (no list, no places): what a cell holds is 'w a = some e'; a store is wd_up; every contract speaks of the whole map, so no frame rule is wanted. s0: the heap's size at the law's entry; all that is written lies from s0 on. -/
abbrev wd_M : Type := Nat → Option va_E
def wd_up (w : wd_M) (a : Nat) (e : va_E) : wd_M := fun b => if b = a then some e else w b
theorem wd_us {w : wd_M} {a : Nat} {e : va_E} : wd_up w a e a = some e := if_pos rfl
theorem wd_un {w : wd_M} {a b : Nat} {e : va_E} (h : b ≠ a) : wd_up w a e b = w b := if_neg h
theorem wd_uu {w : wd_M} {a : Nat} {e e' : va_E} : wd_up (wd_up w a e) a e' = wd_up w a e' := by
  funext b
  unfold wd_up
  by_cases h : b = a <;> simp [h]
theorem wd_self {w : wd_M} {a : Nat} {e : va_E} (h : w a = some e) : wd_up w a e = w := by
  funext b
  unfold wd_up
  by_cases hb : b = a
  · rw [if_pos hb, hb, h]
  · rw [if_neg hb]
def wd_P (D : va_G) (cl : List vw_C) (w : wd_M) (H : Heap) : Prop := ∀ (a : Nat) (e : va_E), w a = some e → va_at D cl (a, e) H
theorem wd_P.lt {D : va_G} {cl : List vw_C} {w : wd_M} {H : Heap} (h : wd_P D cl w H) {a : Nat} {e : va_E} (ha : w a = some e) : a < H.size := (h a e ha).lt
theorem wd_P.fresh {D : va_G} {cl : List vw_C} {w : wd_M} {H : Heap} (h : wd_P D cl w H) {a : Nat} (ha : H.size ≤ a) : w a = none := by
  cases hw : w a with
  | none => rfl
  | some e => exact absurd (h.lt hw) (by omega)
theorem wd_P.set {D : va_G} {cl : List vw_C} {w : wd_M} {H H1 : Heap} {a : Nat} {e : va_E} (h : wd_P D cl w H) (ha : va_at D cl (a, e) H1) (oq : ∀ q : Nat, q ≠ a → H1[q]? = H[q]?) : wd_P D cl (wd_up w a e) H1 := by
  intro b x hb
  by_cases hq : b = a
  · subst hq
    rw [wd_us] at hb
    cases hb
    exact ha
  · rw [wd_un hq] at hb
    exact (h b x hb).kept (oq b hq)
theorem wd_P.push {D : va_G} {cl : List vw_C} {w : wd_M} {H H1 : Heap} {e : va_E} (h : wd_P D cl w H) (ha : va_at D cl (H.size, e) H1) (oq : ∀ q : Nat, q < H.size → H1[q]? = H[q]?) : wd_P D cl (wd_up w H.size e) H1 := by
  intro b x hb
  by_cases hq : b = H.size
  · subst hq
    rw [wd_us] at hb
    cases hb
    exact ha
  · rw [wd_un hq] at hb
    exact (h b x hb).kept (oq b (h.lt hb))
/-- the cells a map holds, as the kit's list of one -/
theorem wd_P.one {D : va_G} {cl : List vw_C} {w : wd_M} {H : Heap} (h : wd_P D cl w H) {a : Nat} {e : va_E} (ha : w a = some e) : va_P D cl [(a, e)] H := by
  intro k q hk
  cases k with
  | zero => cases hk; exact h a e ha
  | succ k => simp at hk
def wd_L (s0 : Nat) (H0 H : Heap) (locs : List Loc) : Prop := s0 ≤ H0.size ∧ va_S (fun q => s0 ≤ q) H0 H locs
abbrev wd_iA (cI : ClassId) (n : Nat) (f : Nat → Int32) : va_E := .inl (cI, n, .inl f)
abbrev wd_lA (cI : ClassId) (n : Nat) (f : Nat → Int64) : va_E := .inl (cI, n, .inr (.inl f))
abbrev wd_qA (cI : ClassId) (n : Nat) (f : Nat → Option Nat) : va_E := .inl (cI, n, .inr (.inr (.inr (.inr f))))
abbrev wd_ob (ci : Nat) (fs : List Value) : va_E := .inr (ci, fs)
section WDL
variable {p : Program} {l : Launch} {e : Env} {R : Room} {s : State} {m : MethodId} {args : Array Value} {below : List Frame} {meth : Method} {c : Code} {H : Heap} {locs : List Loc} {cells slots : Nat} {Q : State → Prop}
variable {cc : ByteArray} {pc : Nat} {ls : Array Slot} {rest : List Value} {D : va_G} {cl : List vw_C} {a s0 : Nat} {tys : List (ClassId × FieldType)} {w : wd_M} {H0 : Heap}
theorem wd_get (hexec : p.tables.exec = Jvm.exec) (hb : c.code = cc) {own ref C : String} {T : u_T} {N ci index : Nat} {Ts : List Cond} (hts : ∀ w ∈ Ts, w.before args s = true) (hin : ∀ w ∈ u_ws C T N, w ∈ Ts) (hown : s.vm.findClass own = some m.cls) (hK : va_K D cl tys s) (hP : wd_P D cl w H) {fs : List Value} (he : w a = some (.inr (ci, fs))) (hc : cl[ci]? = some (C, T, N)) (k : Nat) (hk : k < N) (hlink : (Cond.fieldLink own index ref (T k).2.1 (T k).2.2.1).before args s = true) (hsame : ∀ x, s.fieldFound? (T k).1 (T k).2.1 (T k).2.2.1 = some x → s.fieldFound? ref (T k).2.1 (T k).2.2.1 = some x) {v : Value} (hv : fs[k]? = some v) (hdg : decode cc pc = .ok (.getfield index, 3))
    (kk : W p l e R s m args below meth c H locs cells slots Q (F0 m (pc + 3) ls (v :: rest))) : W p l e R s m args below meth c H locs cells slots Q (F0 m pc ls (.ref a :: rest)) :=
  va_get hexec hb hts hin hown hK (hP.one he) 0 rfl hc k hk hlink hsame hv hdg kk
theorem wd_put (hexec : p.tables.exec = Jvm.exec) (hb : c.code = cc) {own ref C : String} {T : u_T} {N ci index : Nat} {Ts : List Cond} (hts : ∀ w ∈ Ts, w.before args s = true) (hin : ∀ w ∈ u_ws C T N, w ∈ Ts) (ty0 : Nat → FieldType) (hty : ∀ k, k < N → parseFieldDescriptor (T k).2.2.1 = some (ty0 k)) (hnm : ∀ a, a < N → ∀ b, b < N → a ≠ b → (T a).2.1 ≠ (T b).2.1) (hown : s.vm.findClass own = some m.cls) (hK : va_K D cl tys s) (hP : wd_P D cl w H) (hS0 : va_S (fun q => s0 ≤ q) H0 H locs) (ha0 : s0 ≤ a) {fs : List Value} (he : w a = some (.inr (ci, fs))) (hc : cl[ci]? = some (C, T, N)) (k : Nat) (hk : k < N) (hlink : (Cond.fieldLink own index ref (T k).2.1 (T k).2.2.1).before args s = true) (hsame : ∀ x, s.fieldFound? (T k).1 (T k).2.1 (T k).2.2.1 = some x → s.fieldFound? ref (T k).2.1 (T k).2.2.1 = some x) (hfin : (T k).2.2.2 = false) {ty : FieldType} {v : Value} (hd : parseFieldDescriptor (T k).2.2.1 = some ty) (hn : narrow ty v = v) (hfit : fits ty v = true) (hl : k < fs.length)
    (hdg : decode cc pc = .ok (.putfield index, 3)) (kk : ∀ (H1 : Heap) (locs1 : List Loc), wd_P D cl (wd_up w a (.inr (ci, fs.set k v))) H1 → va_S (fun q => s0 ≤ q) H0 H1 locs1 → H1.size = H.size → W p l e R s m args below meth c H1 locs1 cells slots Q (F0 m (pc + 3) ls rest)) : W p l e R s m args below meth c H locs cells slots Q (F0 m pc ls (v :: .ref a :: rest)) := by
  have hap := va_apart (own := own) hts hin ty0 hty hnm hK hc
  obtain ⟨r, h1, cell, q1, q2, q3, q4⟩ := hP a _ he
  have hr : r = (C, T, N) := Option.some.inj (h1.symm.trans hc)
  subst hr
  obtain ⟨hS, hfc, kC, hkC, hkind⟩ := hK.1 ci _ hc
  obtain ⟨cf, kf, fi, f, hi, hsl⟩ := hS k hk
  have hlay := hts _ (hin _ (u_in_lay hk))
  unfold u_lay at hlay
  rw [if_neg (by rw [hfin]; decide)] at hlay
  have hst := (u_facts hfc hkC (u_lays hts hin hk) hi).1
  have h6 := u_store hfc hkC hkind hlay hi hd hn hfit
  refine W.putK hexec hb (f := f) ⟨hown, hlink, ⟨_, _, _, hsame _ hi⟩, hst⟩ (by rw [q2]; exact h6) q1 q3 (by rw [hsl]; exact k2_hasslot (q4 k hk)) rfl rfl hdg fun H' e1 e2 e3 => ?_
  rw [hsl] at e1 ⊢
  exact kk H' _ (hP.set ⟨_, hc, t_OB.to (V := updV (vp_V fs) k v) ⟨_, e1, q2, q3, t_set q4 hap hk v⟩ (fun j _ => vp_updV_set hl v j)⟩ e3) (hS0.put e2 e3 ha0) e2
theorem wd_putF (hexec : p.tables.exec = Jvm.exec) (hb : c.code = cc) {own ref C : String} {T : u_T} {N ci index : Nat} {Ts : List Cond} (hts : ∀ w ∈ Ts, w.before args s = true) (hin : ∀ w ∈ u_ws C T N, w ∈ Ts) (ty0 : Nat → FieldType) (hty : ∀ k, k < N → parseFieldDescriptor (T k).2.2.1 = some (ty0 k)) (hnm : ∀ a, a < N → ∀ b, b < N → a ≠ b → (T a).2.1 ≠ (T b).2.1) (hown : s.vm.findClass own = some m.cls) (hK : va_K D cl tys s) (hP : wd_P D cl w H) (hS0 : va_S (fun q => s0 ≤ q) H0 H locs) (ha0 : s0 ≤ a) {fs : List Value} (he : w a = some (.inr (ci, fs))) (hc : cl[ci]? = some (C, T, N)) (k : Nat) (hk : k < N) (hlink : (Cond.fieldLink own index ref (T k).2.1 (T k).2.2.1).before args s = true) (hsame : ∀ x, s.fieldFound? (T k).1 (T k).2.1 (T k).2.2.1 = some x → s.fieldFound? ref (T k).2.1 (T k).2.2.1 = some x) (hfin : (T k).2.2.2 = true) (hin2 : meth.name = "<init>") (hdecl : (T k).1 = own) {ty : FieldType} {v : Value} (hd : parseFieldDescriptor (T k).2.2.1 = some ty) (hn : narrow ty v = v) (hfit : fits ty v = true) (hl : k < fs.length)
    (hdg : decode cc pc = .ok (.putfield index, 3)) (kk : ∀ (H1 : Heap) (locs1 : List Loc), wd_P D cl (wd_up w a (.inr (ci, fs.set k v))) H1 → va_S (fun q => s0 ≤ q) H0 H1 locs1 → H1.size = H.size → W p l e R s m args below meth c H1 locs1 cells slots Q (F0 m (pc + 3) ls rest)) : W p l e R s m args below meth c H locs cells slots Q (F0 m pc ls (v :: .ref a :: rest)) := by
  have hap := va_apart (own := own) hts hin ty0 hty hnm hK hc
  obtain ⟨r, h1, cell, q1, q2, q3, q4⟩ := hP a _ he
  have hr : r = (C, T, N) := Option.some.inj (h1.symm.trans hc)
  subst hr
  obtain ⟨hS, hfc, kC, hkC, hkind⟩ := hK.1 ci _ hc
  obtain ⟨cf, kf, fi, f, hi, hsl⟩ := hS k hk
  have hlay := hts _ (hin _ (u_in_lay hk))
  unfold u_lay at hlay
  rw [if_pos hfin] at hlay
  have hst := (u_facts hfc hkC (u_lays hts hin hk) hi).1
  have hcf : m.cls = cf := by
    obtain ⟨_, _, c', _, _, _, -, -, hf', -, -, -, hown2, -⟩ := Cond.laysFinal_spec hlay
    have e1 : c' = cf := by have := hi.symm.trans hf'; simp at this; exact this.1.symm
    rw [hdecl] at hown2
    rw [← e1]; exact Option.some.inj (hown.symm.trans hown2)
  have h6 := u_fits hfc hkC hkind (Or.inr hlay) hi hd hn hfit
  refine W.putFinK hexec hb hown hlink (hsame _ hi) hst hcf hin2 (by rw [q2]; exact h6) q1 q3 (by rw [hsl]; exact k2_hasslot (q4 k hk)) rfl rfl hdg fun H' e1 e2 e3 => ?_
  rw [hsl] at e1 ⊢
  exact kk H' _ (hP.set ⟨_, hc, t_OB.to (V := updV (vp_V fs) k v) ⟨_, e1, q2, q3, t_set q4 hap hk v⟩ (fun j _ => vp_updV_set hl v j)⟩ e3) (hS0.put e2 e3 ha0) e2
theorem wd_iald (hexec : p.tables.exec = Jvm.exec) (hb : c.code = cc) (hK : va_K D cl tys s) (hP : wd_P D cl w H) (t0 : Nat) {cA : ClassId} {n : Nat} {f : Nat → Int32} (ha : w a = some (.inl (cA, n, .inl f))) (ht : tys[t0]? = some (cA, .int)) {i : Int32} (hin : vp_in i n) (hdg : decode cc pc = .ok (.iaload, 1))
    (kk : W p l e R s m args below meth c H locs cells slots Q (F0 m (pc + 1) ls (.int (f i.toNatClampNeg) :: rest))) : W p l e R s m args below meth c H locs cells slots Q (F0 m pc ls (.int i :: .ref a :: rest)) :=
  va_iald hexec hb hK (hP.one ha) 0 t0 rfl ht hin hdg kk
theorem wd_lald (hexec : p.tables.exec = Jvm.exec) (hb : c.code = cc) (hK : va_K D cl tys s) (hP : wd_P D cl w H) (t0 : Nat) {cA : ClassId} {n : Nat} {f : Nat → Int64} (ha : w a = some (.inl (cA, n, .inr (.inl f)))) (ht : tys[t0]? = some (cA, .long)) {i : Int32} (hin : vp_in i n) (hdg : decode cc pc = .ok (.laload, 1))
    (kk : W p l e R s m args below meth c H locs cells slots Q (F0 m (pc + 1) ls (.long (f i.toNatClampNeg) :: rest))) : W p l e R s m args below meth c H locs cells slots Q (F0 m pc ls (.int i :: .ref a :: rest)) :=
  va_lald hexec hb hK (hP.one ha) 0 t0 rfl ht hin hdg kk
theorem wd_aldq (hexec : p.tables.exec = Jvm.exec) (hb : c.code = cc) (hK : va_K D cl tys s) (hP : wd_P D cl w H) (t0 : Nat) {cA : ClassId} {C : String} {n : Nat} {f : Nat → Option Nat} (ha : w a = some (.inl (cA, n, .inr (.inr (.inr (.inr f)))))) (ht : tys[t0]? = some (cA, .object C)) {i : Int32} (hin : vp_in i n) (hdg : decode cc pc = .ok (.aaload, 1))
    (kk : W p l e R s m args below meth c H locs cells slots Q (F0 m (pc + 1) ls (va_rf (f i.toNatClampNeg) :: rest))) : W p l e R s m args below meth c H locs cells slots Q (F0 m pc ls (.int i :: .ref a :: rest)) :=
  va_aldq hexec hb hK (hP.one ha) 0 t0 rfl ht hin hdg kk
theorem wd_iast (hexec : p.tables.exec = Jvm.exec) (hb : c.code = cc) (hK : va_K D cl tys s) (hP : wd_P D cl w H) (hS : va_S (fun q => s0 ≤ q) H0 H locs) (ha0 : s0 ≤ a) (t0 : Nat) {cA : ClassId} {n : Nat} {f : Nat → Int32} (ha : w a = some (.inl (cA, n, .inl f))) (ht : tys[t0]? = some (cA, .int)) {i : Int32} {x : Int32} (hin : vp_in i n) (hdg : decode cc pc = .ok (.iastore, 1))
    (kk : ∀ (H1 : Heap) (locs1 : List Loc), wd_P D cl (wd_up w a (.inl (cA, n, .inl (upd f i.toNatClampNeg x)))) H1 → va_S (fun q => s0 ≤ q) H0 H1 locs1 → H1.size = H.size → W p l e R s m args below meth c H1 locs1 cells slots Q (F0 m (pc + 1) ls rest)) : W p l e R s m args below meth c H locs cells slots Q (F0 m pc ls (.int x :: .int i :: .ref a :: rest)) := by
  refine W.iast hexec hb (hP a _ ha) ((hK.2 t0 _ ht).1 n (fun j => .int (f j))) (fun q => by cases q) (by show ¬ (i < 0 ∨ (arrV _ _ _).slots.size ≤ _); rw [arrV_size]; exact hin) rfl rfl hdg fun H1 e z oq => ?_
  refine kk H1 _ (hP.set ?_ oq) (hS.put z oq ha0) z
  show H1[a]? = some (vp_cell _ _)
  rw [e]
  rw [vp_cell_i, vp_cell_i, arrV_store]
  congr 2
  funext q
  by_cases hq : q = i.toNatClampNeg
  · subst hq
    simp [updV, upd]
  · simp [updV, upd, hq]
theorem wd_last (hexec : p.tables.exec = Jvm.exec) (hb : c.code = cc) (hK : va_K D cl tys s) (hP : wd_P D cl w H) (hS : va_S (fun q => s0 ≤ q) H0 H locs) (ha0 : s0 ≤ a) (t0 : Nat) {cA : ClassId} {n : Nat} {f : Nat → Int64} (ha : w a = some (.inl (cA, n, .inr (.inl f)))) (ht : tys[t0]? = some (cA, .long)) {i : Int32} {x : Int64} (hin : vp_in i n) (hdg : decode cc pc = .ok (.lastore, 1))
    (kk : ∀ (H1 : Heap) (locs1 : List Loc), wd_P D cl (wd_up w a (.inl (cA, n, .inr (.inl (vp_updL f i.toNatClampNeg x))))) H1 → va_S (fun q => s0 ≤ q) H0 H1 locs1 → H1.size = H.size → W p l e R s m args below meth c H1 locs1 cells slots Q (F0 m (pc + 1) ls rest)) : W p l e R s m args below meth c H locs cells slots Q (F0 m pc ls (.long x :: .int i :: .ref a :: rest)) := by
  refine W.last hexec hb (hP a _ ha) ((hK.2 t0 _ ht).1 n (fun j => .long (f j))) (fun q => by cases q) (by show ¬ (i < 0 ∨ (arrV _ _ _).slots.size ≤ _); rw [arrV_size]; exact hin) rfl rfl hdg fun H1 e z oq => ?_
  refine kk H1 _ (hP.set ?_ oq) (hS.put z oq ha0) z
  show H1[a]? = some (vp_cell _ _)
  rw [e]
  rw [vp_cell_l, vp_cell_l, arrV_store]
  congr 2
  funext q
  by_cases hq : q = i.toNatClampNeg
  · subst hq
    simp [updV, vp_updL]
  · simp [updV, vp_updL, hq]
theorem wd_astq (hexec : p.tables.exec = Jvm.exec) (hb : c.code = cc) (hK : va_K D cl tys s) (hP : wd_P D cl w H) (hS : va_S (fun q => s0 ≤ q) H0 H locs) (ha0 : s0 ≤ a) (t0 ci : Nat) {cA : ClassId} {r : vw_C} {n v : Nat} {vs : List Value} {f : Nat → Option Nat} (ha : w a = some (.inl (cA, n, .inr (.inr (.inr (.inr f)))))) (ht : tys[t0]? = some (cA, .object r.1)) (hv : w v = some (.inr (ci, vs))) (hc : cl[ci]? = some r) {i : Int32} (hin : vp_in i n) (hdg : decode cc pc = .ok (.aastore, 1))
    (kk : ∀ (H1 : Heap) (locs1 : List Loc), wd_P D cl (wd_up w a (.inl (cA, n, .inr (.inr (.inr (.inr (va_up f i.toNatClampNeg (some v)))))))) H1 → va_S (fun q => s0 ≤ q) H0 H1 locs1 → H1.size = H.size → W p l e R s m args below meth c H1 locs1 cells slots Q (F0 m (pc + 1) ls rest)) : W p l e R s m args below meth c H locs cells slots Q (F0 m pc ls (.ref v :: .int i :: .ref a :: rest)) := by
  have hlt : i.toNatClampNeg < n := Nat.not_le.mp fun q => hin (Or.inr q)
  have h0 : ¬ i < 0 := fun q => hin (Or.inl q)
  obtain ⟨r', hr', cellV, g1, g2, g3, -⟩ := hP v _ hv
  have hcls := (hK.1 ci r hc).2
  obtain ⟨kA, comp, k1, k2, k3, -⟩ := (hK.2 t0 _ ht).2
  have hcomp : comp = D.1 ci := Option.some.inj (k3.symm.trans hcls.1)
  subst hcomp
  obtain ⟨kC, hkC, -⟩ := hcls.2
  refine W.aast hexec hb (hP a _ ha) (fun q h => by cases h) (fun h => by cases h) k1 k2 rfl hkC ⟨h0, by show _ < (arrV _ _ _).slots.size; rw [arrV_size]; exact hlt⟩ g1 (fun q h => by rw [g3] at h; cases h) (by rw [g2]; exact hkC) (by rw [g2]; exact va_assign hcls) rfl rfl hdg fun H1 e z oq => ?_
  refine kk H1 _ (hP.set ?_ oq) (hS.put z oq ha0) z
  show H1[a]? = some (vp_cell _ _)
  rw [e]
  rw [vp_cell_q, vp_cell_q, arrV_store]
  congr 2
  funext q
  by_cases hq : q = i.toNatClampNeg
  · subst hq
    simp [updV, va_up, va_rf]
  · simp [updV, va_up, hq]
theorem wd_alen (hexec : p.tables.exec = Jvm.exec) (hb : c.code = cc) (hK : va_K D cl tys s) (hP : wd_P D cl w H) (t0 : Nat) {cA : ClassId} {ty : FieldType} {n : Nat} {f : Nat → Int32} (ha : w a = some (.inl (cA, n, .inl f))) (ht : tys[t0]? = some (cA, .int)) (hdg : decode cc pc = .ok (.arraylength, 1))
    (kk : W p l e R s m args below meth c H locs cells slots Q (F0 m (pc + 1) ls (.int (nI n) :: rest))) : W p l e R s m args below meth c H locs cells slots Q (F0 m pc ls (.ref a :: rest)) := by
  refine W.alen (n := nI n) hexec hb (hP a _ ha) ((hK.2 t0 _ ht).1 n (fun j => .int (f j))) ?_ rfl rfl hdg kk
  show (arrV _ _ _).slots.size.toInt32 = _
  rw [arrV_size]
  rfl
theorem wd_new {c0 : Code} (hexec : p.tables.exec = Jvm.exec) (hb : c0.code = cc) {own C : String} {T : u_T} {N ci index : Nat} {Ts : List Cond} (hts : ∀ w ∈ Ts, w.before args s = true) (hin : ∀ w ∈ u_ws C T N, w ∈ Ts) (ty : Nat → FieldType) (hty : ∀ k, k < N → parseFieldDescriptor (T k).2.2.1 = some (ty k)) (hown : s.vm.findClass own = some m.cls) (hcl : (Cond.classLink own index C).before args s = true) (hinst : (Cond.instantiable C N).before args s = true) (hini : (Cond.initialized C).before args s = true)
    (hK : va_K D cl tys s) (hP : wd_P D cl w H) (hS : va_S (fun q => s0 ≤ q) H0 H locs) (hc : cl[ci]? = some (C, T, N)) {fs : List Value} (hfs : ∀ j, j < N → defaultValue (ty j) = vp_V fs j) (hcells : cells + 1 ≤ R.cells) (hslots : slots + N ≤ R.slots) (hdg : decode cc pc = .ok (.new index, 3))
    (kk : ∀ (q : Nat) (H1 : Heap), q = H.size → H1.size = q + 1 → w q = none → wd_P D cl (wd_up w q (.inr (ci, fs))) H1 → va_S (fun q => s0 ≤ q) H0 H1 locs →
      W p l e R s m args below meth c0 H1 locs (cells + 1) (slots + N) Q (F0 m (pc + 3) ls (.ref q :: rest))) : W p l e R s m args below meth c0 H locs cells slots Q (F0 m pc ls rest) := by
  have hKn := hK.1 ci _ hc
  refine W.newcK hexec hb hown hcl hinst hini rfl hdg hcells hslots hKn.2.1 rfl fun H1 kC hkC e1 z1 o1 => ?_
  refine kk H.size H1 rfl z1 (hP.fresh (Nat.le_refl _)) (hP.push ⟨_, hc, (u_born ty hts hin hKn hkC e1 hty).to hfs⟩ o1) ⟨Nat.le_trans hS.1 (by omega), fun x h1 h2 => (o1 x (Nat.lt_of_lt_of_le h1 hS.1)).trans (hS.2.1 x h1 h2), hS.2.2⟩
theorem wd_newi (hexec : p.tables.exec = Jvm.exec) (hb : c.code = cc) {atype : ArrayType} (harr : (Cond.arrayClass (newarray.typeOf atype)).before args s = true) {ty : FieldType} (hty : newarray.typeOf atype = ty) (hK : va_K D cl tys s) (hP : wd_P D cl w H) (hS : va_S (fun q => s0 ≤ q) H0 H locs) (t0 : Nat) {cA : ClassId} (ht : tys[t0]? = some (cA, ty))
    {n : Int32} {N' : Nat} {a0 : vp_A} (ha : ∀ cA : ClassId, vp_cell cA a0 = arrV cA N' (fun _ => defaultValue ty)) (hn : ¬ n < 0) (hN : n.toNatClampNeg = N') (hbytes : N' * componentBytes ty ≤ 536870912) (hcells : cells + 1 ≤ R.cells) (hslots : slots + N' ≤ R.slots) (hdg : decode cc pc = .ok (.newarray atype, 2))
    (kk : ∀ (q : Nat) (H1 : Heap), q = H.size → H1.size = q + 1 → w q = none → wd_P D cl (wd_up w q (.inl (cA, a0))) H1 → va_S (fun q => s0 ≤ q) H0 H1 locs →
      W p l e R s m args below meth c H1 locs (cells + 1) (slots + N') Q (F0 m (pc + 2) ls (.ref q :: rest))) : W p l e R s m args below meth c H locs cells slots Q (F0 m pc ls (.int n :: rest)) := by
  subst hty
  refine va_newaK hexec hb harr rfl hdg rfl hn hN hbytes hcells hslots rfl fun H1 cA' e1 z1 o1 hAr hNm => ?_
  have h2 := (hK.2 t0 _ ht).2
  have hc : cA' = cA := by
    have h3 : s.vm.findClass ("[" ++ (newarray.typeOf atype).toString) = some cA := by
      cases atype <;> exact h2
    exact Option.some.inj (hNm.symm.trans h3)
  subst hc
  refine kk H.size H1 rfl z1 (hP.fresh (Nat.le_refl _)) (hP.push ?_ o1) ⟨Nat.le_trans hS.1 (by omega), fun x h1 h2 => (o1 x (Nat.lt_of_lt_of_le h1 hS.1)).trans (hS.2.1 x h1 h2), hS.2.2⟩
  show H1[H.size]? = some (vp_cell _ _)
  rw [ha]
  exact e1
theorem wd_newq (hexec : p.tables.exec = Jvm.exec) (hb : c.code = cc) {own C : String} {index : Nat} (hown : s.vm.findClass own = some m.cls) (hclink : (Cond.classLink own index C).before args s = true) (hover : va_AO C s) (hK : va_K D cl tys s) (hP : wd_P D cl w H) (hS : va_S (fun q => s0 ≤ q) H0 H locs) (t0 : Nat) {cA : ClassId} (ht : tys[t0]? = some (cA, .object C))
    {n : Int32} {N' : Nat} (hn : ¬ n < 0) (hN : n.toNatClampNeg = N') (hbytes : N' * 4 ≤ 536870912) (hcells : cells + 1 ≤ R.cells) (hslots : slots + N' ≤ R.slots) (hdg : decode cc pc = .ok (.anewarray index, 3))
    (kk : ∀ (q : Nat) (H1 : Heap), q = H.size → H1.size = q + 1 → w q = none → wd_P D cl (wd_up w q (.inl (cA, N', .inr (.inr (.inr (.inr (fun _ => none))))))) H1 → va_S (fun q => s0 ≤ q) H0 H1 locs →
      W p l e R s m args below meth c H1 locs (cells + 1) (slots + N') Q (F0 m (pc + 3) ls (.ref q :: rest))) : W p l e R s m args below meth c H locs cells slots Q (F0 m pc ls (.int n :: rest)) := by
  subst hN
  refine W.anew hexec hb hown hclink (va_AO.use hover) rfl hdg rfl hn hbytes hcells hslots fun cA' kA comp f1 f2 f3 f4 => ?_
  obtain ⟨kA', comp', -, -, -, h3⟩ := (hK.2 t0 _ ht).2
  have hc : cA' = cA := Option.some.inj (f1.symm.trans h3)
  subst hc
  generalize hH1 : H.push ({ cls := cA', slots := Array.replicate n.toNatClampNeg .null, vm := .none } : Cell) = H1
  have z1 : H1.size = H.size + 1 := by rw [← hH1, Array.size_push]
  have e1 : H1[H.size]? = some (arrV cA' n.toNatClampNeg (fun _ => .null)) := by rw [← hH1, Array.getElem?_push_size, ← arrV_new]
  have o1 : ∀ q : Nat, q < H.size → H1[q]? = H[q]? := fun q hq => by rw [← hH1, Array.getElem?_push, if_neg (Nat.ne_of_lt hq)]
  refine kk H.size H1 rfl z1 (hP.fresh (Nat.le_refl _)) (hP.push ?_ o1) ⟨Nat.le_trans hS.1 (by omega), fun x h1 h2 => (o1 x (Nat.lt_of_lt_of_le h1 hS.1)).trans (hS.2.1 x h1 h2), hS.2.2⟩
  show H1[H.size]? = some (vp_cell _ _)
  rw [vp_cell_q]
  exact e1
end WDL
end
section
/-! THE CONTRACTS' FORM and the rows of calls over my own world -/
theorem wd_ne {w : wd_M} {a b : Nat} {e f : va_E} (h1 : w a = some e) (h2 : w b = some f) (h : e ≠ f) : a ≠ b := fun q => h (Option.some.inj (h1.symm.trans ((congrArg w q).trans h2)))
theorem wd_nf {w : wd_M} {a b : Nat} {f : va_E} (h1 : w a = none) (h2 : w b = some f) : a ≠ b := fun q => by rw [q, h2] at h1; cases h1
theorem wd_c1 {w : wd_M} {a b : Nat} {e1 e2 e3 : va_E} (h : a ≠ b) : wd_up (wd_up (wd_up w a e1) b e2) a e3 = wd_up (wd_up w a e3) b e2 := by
  funext q
  unfold wd_up
  by_cases h1 : q = a
  · subst h1; simp [h]
  · simp [h1]
theorem wd_c2 {w : wd_M} {a b c : Nat} {e1 e2 e3 e4 : va_E} (h : a ≠ b) (h2 : a ≠ c) : wd_up (wd_up (wd_up (wd_up w a e1) b e2) c e3) a e4 = wd_up (wd_up (wd_up w a e4) b e2) c e3 := by
  funext q
  unfold wd_up
  by_cases h1 : q = a
  · subst h1; simp [h, h2]
  · simp [h1]
theorem wd_c3 {w : wd_M} {a b c d : Nat} {e1 e2 e3 e4 e5 : va_E} (h : a ≠ b) (h2 : a ≠ c) (h3 : a ≠ d) : wd_up (wd_up (wd_up (wd_up (wd_up w a e1) b e2) c e3) d e4) a e5 = wd_up (wd_up (wd_up (wd_up w a e5) b e2) c e3) d e4 := by
  funext q
  unfold wd_up
  by_cases h1 : q = a
  · subst h1; simp [h, h2, h3]
  · simp [h1]
abbrev gX : Type := va_G × (Nat → ClassId)
abbrev gT (g : gX) : List (ClassId × FieldType) := [(g.2 0, .int), (g.2 1, .boolean), (g.2 2, .object RX0), (g.2 3, .long)]
def gN : List Cond := [.methodLinkNest RX2 22 yX3_holds RX3, .methodLinkNest RX0 126 yX3_holds RX3, .methodLinkNest RX0 51 yX3_lowest RX3, .methodLinkNest RX0 54 yX3_highest RX3]
/-- what every method knows of the tables beyond tg: the classes' numbers, the array classes, the nest's links -/
def gK (g : gX) (U : State) : Prop := va_K g.1 vwCl (gT g) U ∧ va_AO RX0 U ∧ va_Nw (.methodLinkNest RX2 22 yX3_holds RX3) U ∧ va_Nw (.methodLinkNest RX0 126 yX3_holds RX3) U ∧ va_Nw (.methodLinkNest RX0 51 yX3_lowest RX3) U ∧ va_Nw (.methodLinkNest RX0 54 yX3_highest RX3) U
theorem gK.warm {g : gX} {s U : State} (hW : s.WarmedH U.vm) (h : gK g s) : gK g U := ⟨va_K.moved hW.alike h.1, h.2.1.moved hW.alike, h.2.2.1.warmM hW, h.2.2.2.1.warmM hW, h.2.2.2.2.1.warmM hW, h.2.2.2.2.2.warmM hW⟩
theorem gK.same {g : gX} {u U : State} (e : u.vm = U.vm) (h : gK g u) : gK g U := ⟨va_K.moved (by rw [e]; exact Vm.Alike.refl _) h.1, h.2.1.moved (by rw [e]; exact Vm.Alike.refl _), h.2.2.1.same rfl e, h.2.2.2.1.same rfl e, h.2.2.2.2.1.same rfl e, h.2.2.2.2.2.same rfl e⟩
abbrev gP (g : gX) (w : wd_M) (H : Heap) : Prop := wd_P g.1 vwCl w H
abbrev gS (s0 : Nat) (H0 H : Heap) (locs : List Loc) : Prop := va_S (fun q => s0 ≤ q) H0 H locs
def cP (g : gX) (s0 : Nat) (w : wd_M) (av : List Value) : Array Value → State → Prop := va_Pc av (fun U => s0 ≤ U.heap.size ∧ gP g w U.heap ∧ gK g U)
abbrev cB (g : gX) : wd_M → State → Prop := fun w' t => gP g w' t.heap
abbrev cA (s0 : Nat) : Nat → Prop := fun q => s0 ≤ q
abbrev cI (g : gX) (s0 : Nat) (post : Int32 → wd_M → Prop) := va_Qi post (cB g) (cA s0)
abbrev cL (g : gX) (s0 : Nat) (post : Int64 → wd_M → Prop) := va_Ql post (cB g) (cA s0)
abbrev cV (g : gX) (s0 : Nat) (post : wd_M → Prop) := va_Qv post (cB g) (cA s0)
abbrev cO (g : gX) (s0 : Nat) (post : Option Nat → wd_M → Prop) := va_Qq post (cB g) (cA s0)
theorem cP_blind {g : gX} {s0 : Nat} {w : wd_M} {av : List Value} : FrameBlind (cP g s0 w av) := fun a U f mk h => ⟨h.1, h.2.1, h.2.2.1, gK.same rfl h.2.2.2⟩
theorem cP_pre {g : gX} {s0 : Nat} {w : wd_M} {av : List Value} {s : State} {H H0 : Heap} {locs : List Loc} (hK : gK g s) (hP : gP g w H) (h0 : s0 ≤ H0.size) (hS : gS s0 H0 H locs) : ∀ U : State, U.heap = H → s.WarmedH U.vm → cP g s0 w av av.toArray U := fun U hU hW => ⟨rfl, by rw [hU]; exact Nat.le_trans h0 hS.1, by rw [hU]; exact hP, gK.warm hW hK⟩
theorem gP_recv {g : gX} {w : wd_M} {H : Heap} {s : State} {b ci : Nat} {fs : List Value} {q : vw_C} (hK : gK g s) (hP : gP g w H) (hr : w b = some (.inr (ci, fs))) (hc : vwCl[ci]? = some q) : ∃ cell : Cell, H[b]? = some cell ∧ cell.vm.isStatics = false ∧ s.vm.findClass q.1 = some cell.cls := va_recv hK.1 (hP.one hr) hc (rfl : ([(b, Sum.inr (ci, fs))] : va_W)[0]? = some (b, .inr (ci, fs)))
theorem gi_of {Ts ws : List Cond} (hT : ∀ w ∈ tg, w ∈ Ts) (h : ∀ w ∈ ws, w ∈ tg) : GoodIn Ts ws := fun w hw => ⟨hT w (h w hw), good_of_word (List.mem_filter.mp (h w hw)).2⟩
theorem tg_tail {x : Cond} : ∀ w ∈ tg, w ∈ x :: tg := fun w h => List.mem_cons_of_mem _ h
section CW
variable {R : Room} {s : State} {args : Array Value} {own C : String} {index maxL mc ms : Nat} {y : MethodName} {bytes : ByteArray} {ret : Option FieldType} {Ts : List Cond} {rm : Room}
theorem cw_V (n : Nat) (ht : ∀ w ∈ Ts, w.before args s = true) (hT : ∀ w ∈ tg, w ∈ Ts) (h1 : Cond.methodLink own index y ∈ tg) (h2 : Cond.instanceMethod y ∈ tg) (h3 : Cond.selects C y y ∈ tg) (h4 : Cond.initialized C ∈ tg) (h5 : Cond.code y bytes maxL ret ∈ tg) (hrc : rm.cells = mc) (hrs : rm.slots = ms)
    (hd : y.cls = C ∧ y.cls ≠ "java/lang/invoke/MethodHandle" ∧ y.cls ≠ "java/lang/invoke/VarHandle" ∧ (parseMethodDescriptor y.desc).map (fun d => d.parameters.length) = some n) (hR : rm.frames + 1 ≤ R.frames ∧ 8 + (maxL + 11) + rm.locals ≤ R.locals) :
    CallW R s args own C index y bytes maxL ret (Cond.code y bytes maxL ret :: tg) rm mc ms n := by
  refine cwV n ht (gi_of hT ?_) rfl hrc hrs hd hR
  intro w hw
  unfold wsV at hw
  rcases List.mem_append.mp hw with h | h
  · simp only [List.mem_cons, List.not_mem_nil, or_false] at h
    rcases h with rfl | rfl | rfl | rfl <;> assumption
  · rcases List.mem_cons.mp h with rfl | h
    · exact h5
    · exact h
theorem cw_S (n : Nat) (ht : ∀ w ∈ Ts, w.before args s = true) (hT : ∀ w ∈ tg, w ∈ Ts) (h1 : Cond.methodLink own index y ∈ tg) (h2 : Cond.static y ∈ tg) (h4 : Cond.initialized y.cls ∈ tg) (h5 : Cond.code y bytes maxL ret ∈ tg) (hrc : rm.cells = mc) (hrs : rm.slots = ms)
    (hd : y.cls ≠ "java/lang/invoke/MethodHandle" ∧ y.cls ≠ "java/lang/invoke/VarHandle" ∧ (parseMethodDescriptor y.desc).map (fun d => d.parameters.length) = some n) (hR : rm.frames + 1 ≤ R.frames ∧ 8 + (maxL + 11) + rm.locals ≤ R.locals) :
    CallB R s args own index y bytes maxL ret (Cond.code y bytes maxL ret :: tg) rm mc ms n ∧ (Cond.static y).before args s = true := by
  refine va_cwS n ht (gi_of hT ?_) rfl hrc hrs hd hR
  intro w hw
  unfold va_wsS at hw
  rcases List.mem_append.mp hw with h | h
  · simp only [List.mem_cons, List.not_mem_nil, or_false] at h
    rcases h with rfl | rfl | rfl <;> assumption
  · rcases List.mem_cons.mp h with rfl | h
    · exact h5
    · exact h
theorem cw_I (n : Nat) (ht : ∀ w ∈ Ts, w.before args s = true) (hT : ∀ w ∈ tg, w ∈ Ts) (h1 : Cond.methodLink own index y ∈ tg) (h2 : Cond.instanceMethod y ∈ tg) (h4 : Cond.initialized y.cls ∈ tg) (h5 : Cond.code y bytes maxL none ∈ tg) (hrc : rm.cells = mc) (hrs : rm.slots = ms) (hy1 : y.name = "<init>")
    (hd : y.cls ≠ "java/lang/invoke/MethodHandle" ∧ y.cls ≠ "java/lang/invoke/VarHandle" ∧ (parseMethodDescriptor y.desc).map (fun d => d.parameters.length) = some n) (hR : rm.frames + 1 ≤ R.frames ∧ 8 + (maxL + 11) + rm.locals ≤ R.locals) :
    CallB R s args own index y bytes maxL none (Cond.code y bytes maxL none :: tg) rm mc ms n ∧ y.name = "<init>" ∧ (Cond.instanceMethod y).before args s = true :=
  cwI n ht (gi_of hT (fun w hw => (List.mem_cons.mp hw).elim (fun e => e ▸ h5) id)) rfl hrc hrs (ht _ (hT _ h4)) (ht _ (hT _ h1)) (ht _ (hT _ h2)) hy1 hd hR
theorem cw_N {host : String} (n : Nat) (ht : ∀ w ∈ Ts, w.before args s = true) (hT : ∀ w ∈ tg, w ∈ Ts) (hl : va_Nw (.methodLinkNest own index y host) s) (h2 : Cond.static y ∈ tg) (h4 : Cond.initialized y.cls ∈ tg) (h5 : Cond.code y bytes maxL ret ∈ tg) (hrc : rm.cells = mc) (hrs : rm.slots = ms)
    (hd : y.cls ≠ "java/lang/invoke/MethodHandle" ∧ y.cls ≠ "java/lang/invoke/VarHandle" ∧ (parseMethodDescriptor y.desc).map (fun d => d.parameters.length) = some n) (hR : rm.frames + 1 ≤ R.frames ∧ 8 + (maxL + 11) + rm.locals ≤ R.locals) :
    va_CN R s args own index y host bytes maxL ret (Cond.code y bytes maxL ret :: tg) rm mc ms n ∧ (Cond.static y).before args s = true ∧ True :=
  ⟨va_cnB n ht (gi_of hT (fun w hw => (List.mem_cons.mp hw).elim (fun e => e ▸ h5) id)) rfl hrc hrs hl (ht _ (hT _ h4)) hd hR, ht _ (hT _ h2), trivial⟩
end CW
section CR
variable {p : Program} {l : Launch} {e : Env} {R : Room} {s : State} {m : MethodId} {args : Array Value} {below : List Frame} {meth : Method} {c : Code} {H : Heap} {locs : List Loc} {cells slots : Nat} {Q : State → Prop}
variable {y : MethodName} {bytes cc : ByteArray} {maxL nL mc ms n index pc : Nat} {ret : Option FieldType} {ws : List Cond} {rm : Room} {Ts : List Cond} {own C host : String} {b : Addr} {As rest st : List Value} {ls : Array Slot} {g : gX} {s0 : Nat} {w : wd_M} {H0 : Heap}
theorem cr_Vi {post : Int32 → wd_M → Prop} (S : CallFix p m c cc nL s args Ts own) (hM : Met l y ws rm (cP g s0 w (.ref b :: As)) (cI g s0 post) mc ms (cA s0)) (cw : CallW R s args own C index y bytes maxL ret ws rm mc ms n) (hK : gK g s) (hP : gP g w H) (h0 : s0 ≤ H0.size) (hS : gS s0 H0 H locs) {ci : Nat} {fs : List Value} {q : vw_C} (hr : w b = some (.inr (ci, fs))) (hc : vwCl[ci]? = some q) (hC : q.1 = C) (hn : As.length = n) (hsize : ls.size = nL) (hst : st = As.reverse ++ .ref b :: rest) (hW : (rest.map fun v => v.category).sum ≤ 8) (hdg : decode cc pc = .ok (.invokevirtual index, 3)) (hf : cells + mc ≤ R.cells ∧ slots + ms ≤ R.slots)
    (kk : ∀ (r : Int32) (w' : wd_M) (H1 : Heap) (locs1 : List Loc), post r w' → gP g w' H1 → gS s0 H0 H1 locs1 → W p l e R s m args below meth c H1 locs1 (cells + mc) (slots + ms) Q (F0 m (pc + 3) ls (.int r :: rest))) : W p l e R s m args below meth c H locs cells slots Q (F0 m pc ls st) := by
  subst hC
  refine va_calli (va_runV (As := As) (rest := rest) S hM cw ⟨cP_blind, gP_recv hK hP hr hc, cP_pre hK hP h0 hS⟩ rfl hn hsize hst (lv_room hW) hdg hf) hS (fun _ _ h => h) (fun _ h => h) ?_
  intro r w' t H1 locs1 ht hvm hp hB hz hk hS1
  exact kk r w' H1 locs1 hp (by rw [← ht]; exact hB) hS1
theorem cr_Vl {post : Int64 → wd_M → Prop} (S : CallFix p m c cc nL s args Ts own) (hM : Met l y ws rm (cP g s0 w (.ref b :: As)) (cL g s0 post) mc ms (cA s0)) (cw : CallW R s args own C index y bytes maxL ret ws rm mc ms n) (hK : gK g s) (hP : gP g w H) (h0 : s0 ≤ H0.size) (hS : gS s0 H0 H locs) {ci : Nat} {fs : List Value} {q : vw_C} (hr : w b = some (.inr (ci, fs))) (hc : vwCl[ci]? = some q) (hC : q.1 = C) (hn : As.length = n) (hsize : ls.size = nL) (hst : st = As.reverse ++ .ref b :: rest) (hW : (rest.map fun v => v.category).sum ≤ 8) (hdg : decode cc pc = .ok (.invokevirtual index, 3)) (hf : cells + mc ≤ R.cells ∧ slots + ms ≤ R.slots)
    (kk : ∀ (r : Int64) (w' : wd_M) (H1 : Heap) (locs1 : List Loc), post r w' → gP g w' H1 → gS s0 H0 H1 locs1 → W p l e R s m args below meth c H1 locs1 (cells + mc) (slots + ms) Q (F0 m (pc + 3) ls (.long r :: rest))) : W p l e R s m args below meth c H locs cells slots Q (F0 m pc ls st) := by
  subst hC
  refine va_calll (va_runV (As := As) (rest := rest) S hM cw ⟨cP_blind, gP_recv hK hP hr hc, cP_pre hK hP h0 hS⟩ rfl hn hsize hst (lv_room hW) hdg hf) hS (fun _ _ h => h) (fun _ h => h) ?_
  intro r w' t H1 locs1 ht hvm hp hB hz hk hS1
  exact kk r w' H1 locs1 hp (by rw [← ht]; exact hB) hS1
theorem cr_Vo {post : Option Nat → wd_M → Prop} (S : CallFix p m c cc nL s args Ts own) (hM : Met l y ws rm (cP g s0 w (.ref b :: As)) (cO g s0 post) mc ms (cA s0)) (cw : CallW R s args own C index y bytes maxL ret ws rm mc ms n) (hK : gK g s) (hP : gP g w H) (h0 : s0 ≤ H0.size) (hS : gS s0 H0 H locs) {ci : Nat} {fs : List Value} {q : vw_C} (hr : w b = some (.inr (ci, fs))) (hc : vwCl[ci]? = some q) (hC : q.1 = C) (hn : As.length = n) (hsize : ls.size = nL) (hst : st = As.reverse ++ .ref b :: rest) (hW : (rest.map fun v => v.category).sum ≤ 8) (hdg : decode cc pc = .ok (.invokevirtual index, 3)) (hf : cells + mc ≤ R.cells ∧ slots + ms ≤ R.slots)
    (kk : ∀ (r : Option Nat) (w' : wd_M) (H1 : Heap) (locs1 : List Loc), post r w' → gP g w' H1 → gS s0 H0 H1 locs1 → W p l e R s m args below meth c H1 locs1 (cells + mc) (slots + ms) Q (F0 m (pc + 3) ls (va_rf r :: rest))) : W p l e R s m args below meth c H locs cells slots Q (F0 m pc ls st) := by
  subst hC
  refine va_callq (va_runV (As := As) (rest := rest) S hM cw ⟨cP_blind, gP_recv hK hP hr hc, cP_pre hK hP h0 hS⟩ rfl hn hsize hst (lv_room hW) hdg hf) hS (fun _ _ h => h) (fun _ h => h) ?_
  intro r w' t H1 locs1 ht hvm hp hB hz hk hS1
  exact kk r w' H1 locs1 hp (by rw [← ht]; exact hB) hS1
theorem cr_Vv {post : wd_M → Prop} (S : CallFix p m c cc nL s args Ts own) (hM : Met l y ws rm (cP g s0 w (.ref b :: As)) (cV g s0 post) mc ms (cA s0)) (cw : CallW R s args own C index y bytes maxL ret ws rm mc ms n) (hK : gK g s) (hP : gP g w H) (h0 : s0 ≤ H0.size) (hS : gS s0 H0 H locs) {ci : Nat} {fs : List Value} {q : vw_C} (hr : w b = some (.inr (ci, fs))) (hc : vwCl[ci]? = some q) (hC : q.1 = C) (hn : As.length = n) (hsize : ls.size = nL) (hst : st = As.reverse ++ .ref b :: rest) (hW : (rest.map fun v => v.category).sum ≤ 8) (hdg : decode cc pc = .ok (.invokevirtual index, 3)) (hf : cells + mc ≤ R.cells ∧ slots + ms ≤ R.slots)
    (kk : ∀ (w' : wd_M) (H1 : Heap) (locs1 : List Loc), post w' → gP g w' H1 → gS s0 H0 H1 locs1 → W p l e R s m args below meth c H1 locs1 (cells + mc) (slots + ms) Q (F0 m (pc + 3) ls rest)) : W p l e R s m args below meth c H locs cells slots Q (F0 m pc ls st) := by
  subst hC
  refine va_callv (va_runV (As := As) (rest := rest) S hM cw ⟨cP_blind, gP_recv hK hP hr hc, cP_pre hK hP h0 hS⟩ rfl hn hsize hst (lv_room hW) hdg hf) hS (fun _ _ h => h) (fun _ h => h) ?_
  intro w' t H1 locs1 ht hvm hp hB hz hk hS1
  exact kk w' H1 locs1 hp (by rw [← ht]; exact hB) hS1
theorem cr_Si {post : Int32 → wd_M → Prop} (S : CallFix p m c cc nL s args Ts own) (hM : Met l y ws rm (cP g s0 w As) (cI g s0 post) mc ms (cA s0)) (cw : CallB R s args own index y bytes maxL ret ws rm mc ms n ∧ (Cond.static y).before args s = true) (hK : gK g s) (hP : gP g w H) (h0 : s0 ≤ H0.size) (hS : gS s0 H0 H locs) (hn : As.length = n) (hsize : ls.size = nL) (hst : st = As.reverse ++ rest) (hW : (rest.map fun v => v.category).sum ≤ 8) (hdg : decode cc pc = .ok (.invokestatic index, 3)) (hf : cells + mc ≤ R.cells ∧ slots + ms ≤ R.slots)
    (kk : ∀ (r : Int32) (w' : wd_M) (H1 : Heap) (locs1 : List Loc), post r w' → gP g w' H1 → gS s0 H0 H1 locs1 → W p l e R s m args below meth c H1 locs1 (cells + mc) (slots + ms) Q (F0 m (pc + 3) ls (.int r :: rest))) : W p l e R s m args below meth c H locs cells slots Q (F0 m pc ls st) := by
  refine va_calli (va_runS (As := As) (rest := rest) S hM cw ⟨cP_blind, cP_pre hK hP h0 hS⟩ rfl hn hsize hst (lv_room hW) hdg hf) hS (fun _ _ h => h) (fun _ h => h) ?_
  intro r w' t H1 locs1 ht hvm hp hB hz hk hS1
  exact kk r w' H1 locs1 hp (by rw [← ht]; exact hB) hS1
theorem cr_Sv {post : wd_M → Prop} (S : CallFix p m c cc nL s args Ts own) (hM : Met l y ws rm (cP g s0 w As) (cV g s0 post) mc ms (cA s0)) (cw : CallB R s args own index y bytes maxL ret ws rm mc ms n ∧ (Cond.static y).before args s = true) (hK : gK g s) (hP : gP g w H) (h0 : s0 ≤ H0.size) (hS : gS s0 H0 H locs) (hn : As.length = n) (hsize : ls.size = nL) (hst : st = As.reverse ++ rest) (hW : (rest.map fun v => v.category).sum ≤ 8) (hdg : decode cc pc = .ok (.invokestatic index, 3)) (hf : cells + mc ≤ R.cells ∧ slots + ms ≤ R.slots)
    (kk : ∀ (w' : wd_M) (H1 : Heap) (locs1 : List Loc), post w' → gP g w' H1 → gS s0 H0 H1 locs1 → W p l e R s m args below meth c H1 locs1 (cells + mc) (slots + ms) Q (F0 m (pc + 3) ls rest)) : W p l e R s m args below meth c H locs cells slots Q (F0 m pc ls st) := by
  refine va_callv (va_runS (As := As) (rest := rest) S hM cw ⟨cP_blind, cP_pre hK hP h0 hS⟩ rfl hn hsize hst (lv_room hW) hdg hf) hS (fun _ _ h => h) (fun _ h => h) ?_
  intro w' t H1 locs1 ht hvm hp hB hz hk hS1
  exact kk w' H1 locs1 hp (by rw [← ht]; exact hB) hS1
theorem cr_Ni {post : Int32 → wd_M → Prop} (S : CallFix p m c cc nL s args Ts own) (hM : Met l y ws rm (cP g s0 w As) (cI g s0 post) mc ms (cA s0)) (cw : va_CN R s args own index y host bytes maxL ret ws rm mc ms n ∧ (Cond.static y).before args s = true ∧ True) (hK : gK g s) (hP : gP g w H) (h0 : s0 ≤ H0.size) (hS : gS s0 H0 H locs) (hn : As.length = n) (hsize : ls.size = nL) (hst : st = As.reverse ++ rest) (hW : (rest.map fun v => v.category).sum ≤ 8) (hdg : decode cc pc = .ok (.invokestatic index, 3)) (hf : cells + mc ≤ R.cells ∧ slots + ms ≤ R.slots)
    (kk : ∀ (r : Int32) (w' : wd_M) (H1 : Heap) (locs1 : List Loc), post r w' → gP g w' H1 → gS s0 H0 H1 locs1 → W p l e R s m args below meth c H1 locs1 (cells + mc) (slots + ms) Q (F0 m (pc + 3) ls (.int r :: rest))) : W p l e R s m args below meth c H locs cells slots Q (F0 m pc ls st) := by
  refine va_calli (va_runSN (As := As) (rest := rest) S hM cw ⟨cP_blind, cP_pre hK hP h0 hS⟩ rfl hn hsize hst (lv_room hW) hdg hf) hS (fun _ _ h => h) (fun _ h => h) ?_
  intro r w' t H1 locs1 ht hvm hp hB hz hk hS1
  exact kk r w' H1 locs1 hp (by rw [← ht]; exact hB) hS1
theorem cr_Iv {post : wd_M → Prop} (S : CallFix p m c cc nL s args Ts own) (hM : Met l y ws rm (cP g s0 w (.ref b :: As)) (cV g s0 post) mc ms (cA s0)) (cw : CallB R s args own index y bytes maxL none ws rm mc ms n ∧ y.name = "<init>" ∧ (Cond.instanceMethod y).before args s = true) (hK : gK g s) (hP : gP g w H) (h0 : s0 ≤ H0.size) (hS : gS s0 H0 H locs) (hn : As.length = n) (hsize : ls.size = nL) (hst : st = As.reverse ++ .ref b :: rest) (hW : (rest.map fun v => v.category).sum ≤ 8) (hdg : decode cc pc = .ok (.invokespecial index, 3)) (hf : cells + mc ≤ R.cells ∧ slots + ms ≤ R.slots)
    (kk : ∀ (w' : wd_M) (H1 : Heap) (locs1 : List Loc), post w' → gP g w' H1 → gS s0 H0 H1 locs1 → W p l e R s m args below meth c H1 locs1 (cells + mc) (slots + ms) Q (F0 m (pc + 3) ls rest)) : W p l e R s m args below meth c H locs cells slots Q (F0 m pc ls st) := by
  refine va_callv (va_runI (As := As) (rest := rest) S hM cw ⟨cP_blind, cP_pre hK hP h0 hS⟩ rfl hn hsize hst (lv_room hW) hdg hf) hS (fun _ _ h => h) (fun _ h => h) ?_
  intro w' t H1 locs1 ht hvm hp hB hz hk hS1
  exact kk w' H1 locs1 hp (by rw [← ht]; exact hB) hS1
end CR
section WR
variable {p : Program} {l : Launch} {e : Env} {R : Room} {s : State} {m : MethodId} {args : Array Value} {below : List Frame} {meth : Method} {c : Code} {H : Heap} {locs : List Loc} {cells slots : Nat} {Q : State → Prop}
variable {cc : ByteArray} {pc : Nat} {ls : Array Slot} {rest : List Value} {D : va_G} {cl : List vw_C} {a s0 : Nat} {tys : List (ClassId × FieldType)} {w : wd_M} {H0 : Heap}
/-- the top of the stack by another name -/
theorem wd_ti {x x' : Int32} (h : x = x') (kk : W p l e R s m args below meth c H locs cells slots Q (F0 m pc ls (.int x' :: rest))) : W p l e R s m args below meth c H locs cells slots Q (F0 m pc ls (.int x :: rest)) := h ▸ kk
theorem wd_tl {x x' : Int64} (h : x = x') (kk : W p l e R s m args below meth c H locs cells slots Q (F0 m pc ls (.long x' :: rest))) : W p l e R s m args below meth c H locs cells slots Q (F0 m pc ls (.long x :: rest)) := h ▸ kk
theorem wd_tq {x x' : Option Nat} (h : x = x') (kk : W p l e R s m args below meth c H locs cells slots Q (F0 m pc ls (va_rf x' :: rest))) : W p l e R s m args below meth c H locs cells slots Q (F0 m pc ls (va_rf x :: rest)) := h ▸ kk
theorem wd_ildN (hexec : p.tables.exec = Jvm.exec) (hb : c.code = cc) (hK : va_K D cl tys s) (hP : wd_P D cl w H) (t0 : Nat) {cA : ClassId} {n k : Nat} {f : Nat → Int32} (ha : w a = some (.inl (cA, n, .inl f))) (ht : tys[t0]? = some (cA, .int)) (hk : k < n) (hn : n < 2 ^ 31) (hdg : decode cc pc = .ok (.iaload, 1))
    (kk : W p l e R s m args below meth c H locs cells slots Q (F0 m (pc + 1) ls (.int (f k) :: rest))) : W p l e R s m args below meth c H locs cells slots Q (F0 m pc ls (.int (nI k) :: .ref a :: rest)) :=
  wd_iald hexec hb hK hP t0 ha ht (vp_in_nI hk hn) hdg (by rw [nI_clamp (Nat.lt_trans hk hn)]; exact kk)
theorem wd_istN (hexec : p.tables.exec = Jvm.exec) (hb : c.code = cc) (hK : va_K D cl tys s) (hP : wd_P D cl w H) (hS : va_S (fun q => s0 ≤ q) H0 H locs) (ha0 : s0 ≤ a) (t0 : Nat) {cA : ClassId} {n k : Nat} {f : Nat → Int32} (ha : w a = some (.inl (cA, n, .inl f))) (ht : tys[t0]? = some (cA, .int)) {x : Int32} (hk : k < n) (hn : n < 2 ^ 31) (hdg : decode cc pc = .ok (.iastore, 1))
    (kk : ∀ (H1 : Heap) (locs1 : List Loc), wd_P D cl (wd_up w a (.inl (cA, n, .inl (upd f k x)))) H1 → va_S (fun q => s0 ≤ q) H0 H1 locs1 → H1.size = H.size → W p l e R s m args below meth c H1 locs1 cells slots Q (F0 m (pc + 1) ls rest)) : W p l e R s m args below meth c H locs cells slots Q (F0 m pc ls (.int x :: .int (nI k) :: .ref a :: rest)) :=
  wd_iast hexec hb hK hP hS ha0 t0 ha ht (vp_in_nI hk hn) hdg (by rw [nI_clamp (Nat.lt_trans hk hn)]; exact kk)
theorem wd_zldN (hexec : p.tables.exec = Jvm.exec) (hb : c.code = cc) (hK : va_K D cl tys s) (hP : wd_P D cl w H) (t0 : Nat) {cA : ClassId} {n k : Nat} {f : Nat → Int32} (ha : w a = some (.inl (cA, n, .inl f))) (ht : tys[t0]? = some (cA, .boolean)) (hk : k < n) (hn : n < 2 ^ 31) (hdg : decode cc pc = .ok (.baload, 1))
    (kk : W p l e R s m args below meth c H locs cells slots Q (F0 m (pc + 1) ls (.int (f k) :: rest))) : W p l e R s m args below meth c H locs cells slots Q (F0 m pc ls (.int (nI k) :: .ref a :: rest)) :=
  va_zald hexec hb hK (hP.one ha) 0 t0 rfl ht (vp_in_nI hk hn) hdg (by rw [nI_clamp (Nat.lt_trans hk hn)]; exact kk)
theorem wd_zstN (hexec : p.tables.exec = Jvm.exec) (hb : c.code = cc) (hK : va_K D cl tys s) (hP : wd_P D cl w H) (hS : va_S (fun q => s0 ≤ q) H0 H locs) (ha0 : s0 ≤ a) (t0 : Nat) {cA : ClassId} {n k : Nat} {f : Nat → Int32} (ha : w a = some (.inl (cA, n, .inl f))) (ht : tys[t0]? = some (cA, .boolean)) {x : Int32} (hx1 : x = 0 ∨ x = 1) (hk : k < n) (hn : n < 2 ^ 31) (hdg : decode cc pc = .ok (.bastore, 1))
    (kk : ∀ (H1 : Heap) (locs1 : List Loc), wd_P D cl (wd_up w a (.inl (cA, n, .inl (upd f k x)))) H1 → va_S (fun q => s0 ≤ q) H0 H1 locs1 → H1.size = H.size → W p l e R s m args below meth c H1 locs1 cells slots Q (F0 m (pc + 1) ls rest)) : W p l e R s m args below meth c H locs cells slots Q (F0 m pc ls (.int x :: .int (nI k) :: .ref a :: rest)) := by
  have hcl := nI_clamp (n := k) (Nat.lt_trans hk hn)
  have hnar : vp_nar .boolean x = x := by rcases hx1 with h | h <;> subst h <;> rfl
  refine W.zast hexec hb (hP a _ ha) ((hK.2 t0 _ ht).1 n (fun j => .int (f j))) (fun q => by cases q) (by show ¬ (nI k < 0 ∨ (arrV _ _ _).slots.size ≤ _); rw [arrV_size]; exact vp_in_nI hk hn) rfl rfl hdg fun H1 e z oq => ?_
  refine kk H1 _ (hP.set ?_ oq) (hS.put z oq ha0) z
  show H1[a]? = some (vp_cell _ _)
  rw [e]
  rw [vp_cell_i, vp_cell_i, arrV_store, hcl]
  congr 2
  funext q
  by_cases hq : q = k
  · subst hq
    simp only [updV, upd, if_pos]
    rcases hx1 with h | h <;> subst h <;> rfl
  · simp [updV, upd, hq]
theorem wd_qldN (hexec : p.tables.exec = Jvm.exec) (hb : c.code = cc) (hK : va_K D cl tys s) (hP : wd_P D cl w H) (t0 : Nat) {cA : ClassId} {C : String} {n k : Nat} {f : Nat → Option Nat} (ha : w a = some (.inl (cA, n, .inr (.inr (.inr (.inr f)))))) (ht : tys[t0]? = some (cA, .object C)) (hk : k < n) (hn : n < 2 ^ 31) (hdg : decode cc pc = .ok (.aaload, 1))
    (kk : W p l e R s m args below meth c H locs cells slots Q (F0 m (pc + 1) ls (va_rf (f k) :: rest))) : W p l e R s m args below meth c H locs cells slots Q (F0 m pc ls (.int (nI k) :: .ref a :: rest)) :=
  wd_aldq hexec hb hK hP t0 ha ht (vp_in_nI hk hn) hdg (by rw [nI_clamp (Nat.lt_trans hk hn)]; exact kk)
end WR
end
section
/-! LEAVES: the fields' words, then methods that write nothing -/
def zB (P : Prop) [Decidable P] : Int32 := if P then 1 else 0
theorem cB_of {g : gX} {w : wd_M} {t : State} {H : Heap} (ht : t.heap = H) (hP : gP g w H) : cB g w t := by
  show gP g w t.heap
  rw [ht]
  exact hP
theorem ti_32 : (nI 32).toInt = 32 := by decide
theorem ti_16 : (nI 16).toInt = 16 := by decide
theorem ivX0 : ∀ w ∈ u_ws RX0 TX0 10, w ∈ tg := by
  show ∀ w ∈ [u_lay RX0 TX0 0, u_lay RX0 TX0 1, u_lay RX0 TX0 2, u_lay RX0 TX0 3, u_lay RX0 TX0 4, u_lay RX0 TX0 5, u_lay RX0 TX0 6, u_lay RX0 TX0 7, u_lay RX0 TX0 8, u_lay RX0 TX0 9], w ∈ tg
  exact List.forall_mem_cons.mpr ⟨tw_135, List.forall_mem_cons.mpr ⟨tw_137, List.forall_mem_cons.mpr ⟨tw_139, List.forall_mem_cons.mpr ⟨tw_141, List.forall_mem_cons.mpr ⟨tw_143, List.forall_mem_cons.mpr ⟨tw_145, List.forall_mem_cons.mpr ⟨tw_147, List.forall_mem_cons.mpr ⟨tw_149, List.forall_mem_cons.mpr ⟨tw_151, List.forall_mem_cons.mpr ⟨tw_153, fun _ h => absurd h List.not_mem_nil⟩⟩⟩⟩⟩⟩⟩⟩⟩⟩
theorem iwX0 {x : Cond} : ∀ w ∈ u_ws RX0 TX0 10, w ∈ x :: tg := fun w h => List.mem_cons_of_mem _ (ivX0 w h)
theorem ivX1 : ∀ w ∈ u_ws RX1 TX1 5, w ∈ tg := by
  show ∀ w ∈ [u_lay RX1 TX1 0, u_lay RX1 TX1 1, u_lay RX1 TX1 2, u_lay RX1 TX1 3, u_lay RX1 TX1 4], w ∈ tg
  exact List.forall_mem_cons.mpr ⟨tw_59, List.forall_mem_cons.mpr ⟨tw_61, List.forall_mem_cons.mpr ⟨tw_63, List.forall_mem_cons.mpr ⟨tw_65, List.forall_mem_cons.mpr ⟨tw_67, fun _ h => absurd h List.not_mem_nil⟩⟩⟩⟩⟩
theorem iwX1 {x : Cond} : ∀ w ∈ u_ws RX1 TX1 5, w ∈ x :: tg := fun w h => List.mem_cons_of_mem _ (ivX1 w h)
theorem ivX2 : ∀ w ∈ u_ws RX2 TX2 3, w ∈ tg := by
  show ∀ w ∈ [u_lay RX2 TX2 0, u_lay RX2 TX2 1, u_lay RX2 TX2 2], w ∈ tg
  exact List.forall_mem_cons.mpr ⟨tw_34, List.forall_mem_cons.mpr ⟨tw_36, List.forall_mem_cons.mpr ⟨tw_38, fun _ h => absurd h List.not_mem_nil⟩⟩⟩
theorem iwX2 {x : Cond} : ∀ w ∈ u_ws RX2 TX2 3, w ∈ x :: tg := fun w h => List.mem_cons_of_mem _ (ivX2 w h)
theorem ivX3 : ∀ w ∈ u_ws RX3 TX3 6, w ∈ tg := by
  show ∀ w ∈ [u_lay RX3 TX3 0, u_lay RX3 TX3 1, u_lay RX3 TX3 2, u_lay RX3 TX3 3, u_lay RX3 TX3 4, u_lay RX3 TX3 5], w ∈ tg
  exact List.forall_mem_cons.mpr ⟨tw_76, List.forall_mem_cons.mpr ⟨tw_78, List.forall_mem_cons.mpr ⟨tw_80, List.forall_mem_cons.mpr ⟨tw_82, List.forall_mem_cons.mpr ⟨tw_84, List.forall_mem_cons.mpr ⟨tw_86, fun _ h => absurd h List.not_mem_nil⟩⟩⟩⟩⟩⟩
theorem iwX3 {x : Cond} : ∀ w ∈ u_ws RX3 TX3 6, w ∈ x :: tg := fun w h => List.mem_cons_of_mem _ (ivX3 w h)
theorem ivX4 : ∀ w ∈ u_ws RX4 TX4 21, w ∈ tg := by
  show ∀ w ∈ [u_lay RX4 TX4 0, u_lay RX4 TX4 1, u_lay RX4 TX4 2, u_lay RX4 TX4 3, u_lay RX4 TX4 4, u_lay RX4 TX4 5, u_lay RX4 TX4 6, u_lay RX4 TX4 7, u_lay RX4 TX4 8, u_lay RX4 TX4 9, u_lay RX4 TX4 10, u_lay RX4 TX4 11, u_lay RX4 TX4 12, u_lay RX4 TX4 13, u_lay RX4 TX4 14, u_lay RX4 TX4 15, u_lay RX4 TX4 16, u_lay RX4 TX4 17, u_lay RX4 TX4 18, u_lay RX4 TX4 19, u_lay RX4 TX4 20], w ∈ tg
  exact List.forall_mem_cons.mpr ⟨tw_447, List.forall_mem_cons.mpr ⟨tw_449, List.forall_mem_cons.mpr ⟨tw_451, List.forall_mem_cons.mpr ⟨tw_453, List.forall_mem_cons.mpr ⟨tw_455, List.forall_mem_cons.mpr ⟨tw_457, List.forall_mem_cons.mpr ⟨tw_459, List.forall_mem_cons.mpr ⟨tw_461, List.forall_mem_cons.mpr ⟨tw_463, List.forall_mem_cons.mpr ⟨tw_465, List.forall_mem_cons.mpr ⟨tw_467, List.forall_mem_cons.mpr ⟨tw_469, List.forall_mem_cons.mpr ⟨tw_471, List.forall_mem_cons.mpr ⟨tw_473, List.forall_mem_cons.mpr ⟨tw_475, List.forall_mem_cons.mpr ⟨tw_477, List.forall_mem_cons.mpr ⟨tw_479, List.forall_mem_cons.mpr ⟨tw_481, List.forall_mem_cons.mpr ⟨tw_483, List.forall_mem_cons.mpr ⟨tw_485, List.forall_mem_cons.mpr ⟨tw_487, fun _ h => absurd h List.not_mem_nil⟩⟩⟩⟩⟩⟩⟩⟩⟩⟩⟩⟩⟩⟩⟩⟩⟩⟩⟩⟩⟩
theorem iwX4 {x : Cond} : ∀ w ∈ u_ws RX4 TX4 21, w ∈ x :: tg := fun w h => List.mem_cons_of_mem _ (ivX4 w h)
abbrev pO (k kd li : Int32) (inn oth : Option Nat) (pa : Int64) (t j : Nat) (cs cg : Int32) : va_E := .inr (1, [.int k, .int kd, .int li, va_rf inn, va_rf oth, .long pa, .ref t, .ref j, .int cs, .int cg])
set_option maxHeartbeats 4000000 in
set_option maxRecDepth 100000 in
theorem c_X3_isNode (l : Launch) (g : gX) (s0 : Nat) (w : wd_M) (n : Int32) : Met l yX3_isNode (Cond.code yX3_isNode cX3_isNode 1 (some .boolean) :: tg) ({ frames := 0, cells := 0, slots := 0, locals := 0 }) (cP g s0 w [.int (n)]) (cI g s0 (fun r w' => r = zB (0 ≤ n ∧ n < nI 32) ∧ w' = w)) 0 0 (cA s0) := by
  refine Met.ofW (cc := cX3_isNode) (maxL := 1) (ret := some .boolean) (by decide) rfl ?_
  intro p e s m args below meth c s₁ B9 hml hv
  obtain ⟨rfl, h0s, hP, hK⟩ := hv
  have hx := B9.exec
  have hb := B9.bytes
  have hr := B9.returns
  have hts := atoms_spec (ws := Cond.code yX3_isNode cX3_isNode 1 (some .boolean) :: tg) B9.pre
  have hown : s.vm.findClass RX3 = some m.cls := findClass_of_methodNamed B9.named
  have hlocks := B9.notSynchronized
  have hS : gS s0 s.heap s.heap [] := va_S.rf
  have hRm : 0 ≤ (headSpec (Cond.code yX3_isNode cX3_isNode 1 (some .boolean) :: tg) ({ frames := 0, cells := 0, slots := 0, locals := 0 })).room.frames ∧ 0 ≤ (headSpec (Cond.code yX3_isNode cX3_isNode 1 (some .boolean) :: tg) ({ frames := 0, cells := 0, slots := 0, locals := 0 })).room.locals := ⟨Nat.le_refl _, Nat.le_refl _⟩
  have hcs : 0 + 0 ≤ (headSpec (Cond.code yX3_isNode cX3_isNode 1 (some .boolean) :: tg) ({ frames := 0, cells := 0, slots := 0, locals := 0 })).room.cells ∧ 0 + 0 ≤ (headSpec (Cond.code yX3_isNode cX3_isNode 1 (some .boolean) :: tg) ({ frames := 0, cells := 0, slots := 0, locals := 0 })).room.slots := ⟨Nat.zero_le _, Nat.zero_le _⟩
  have hl := lv_entry ([.int (n)]) (n := 1) (Nat.le_of_ble_eq_true rfl)
  rw [lg_entry_eq]
  generalize (lg_sl ([.int (n)]) ++ List.replicate (1 - (lg_sl ([.int (n)])).length) Slot.unset).toArray = ls at hl ⊢
  have hl : lv_has ls 1 [(0, .int (n))] := hl
  refine lv_iload_n hx hb dX3_isNode_0 rfl (lv_at hl 0 rfl) ?_
  refine lv_if_lt (tgt := 14) hx hb dX3_isNode_1 (by decide) (fun c_1 => ?_) (fun c_1 => ?_)
  · refine lv_iconst (v := nI 0) hx hb dX3_isNode_14 (by decide) ?_
    exact W.zret (ty := .boolean) (v := nI 0) hx hb hr (by rfl) (fun t ht hW => ⟨⟨_, w, rfl, ⟨by unfold zB; simp only [Int32.lt_iff_toInt_lt, Int32.le_iff_toInt_le, ti_32, ti_16, Int32.toInt_zero] at c_1 ⊢; split <;> first | rfl | (exfalso; omega), rfl⟩, cB_of ht hP⟩, hS.F ht⟩) hS.2.2 dX3_isNode_15
  · refine lv_iload_n hx hb dX3_isNode_4 rfl (lv_at hl 0 rfl) ?_
    refine lv_bipush (v := nI 32) hx hb dX3_isNode_5 (by decide) ?_
    refine lv_icmp_ge (tgt := 14) hx hb dX3_isNode_7 (by decide) (fun c_7 => ?_) (fun c_7 => ?_)
    · refine lv_iconst (v := nI 0) hx hb dX3_isNode_14 (by decide) ?_
      exact W.zret (ty := .boolean) (v := nI 0) hx hb hr (by rfl) (fun t ht hW => ⟨⟨_, w, rfl, ⟨by unfold zB; simp only [Int32.lt_iff_toInt_lt, Int32.le_iff_toInt_le, ti_32, ti_16, Int32.toInt_zero] at c_1 c_7 ⊢; split <;> first | rfl | (exfalso; omega), rfl⟩, cB_of ht hP⟩, hS.F ht⟩) hS.2.2 dX3_isNode_15
    · refine lv_iconst (v := nI 1) hx hb dX3_isNode_10 (by decide) ?_
      refine lv_goto (tgt := 15) hx hb dX3_isNode_11 (by decide) ?_
      exact W.zret (ty := .boolean) (v := nI 1) hx hb hr (by rfl) (fun t ht hW => ⟨⟨_, w, rfl, ⟨by unfold zB; simp only [Int32.lt_iff_toInt_lt, Int32.le_iff_toInt_le, ti_32, ti_16, Int32.toInt_zero] at c_1 c_7 ⊢; split <;> first | rfl | (exfalso; omega), rfl⟩, cB_of ht hP⟩, hS.F ht⟩) hS.2.2 dX3_isNode_15

set_option maxHeartbeats 4000000 in
set_option maxRecDepth 100000 in
theorem c_X3_isPredicate (l : Launch) (g : gX) (s0 : Nat) (w : wd_M) (n : Int32) : Met l yX3_isPredicate (Cond.code yX3_isPredicate cX3_isPredicate 1 (some .boolean) :: tg) ({ frames := 0, cells := 0, slots := 0, locals := 0 }) (cP g s0 w [.int (n)]) (cI g s0 (fun r w' => r = zB (0 ≤ n ∧ n < nI 16) ∧ w' = w)) 0 0 (cA s0) := by
  refine Met.ofW (cc := cX3_isPredicate) (maxL := 1) (ret := some .boolean) (by decide) rfl ?_
  intro p e s m args below meth c s₁ B9 hml hv
  obtain ⟨rfl, h0s, hP, hK⟩ := hv
  have hx := B9.exec
  have hb := B9.bytes
  have hr := B9.returns
  have hts := atoms_spec (ws := Cond.code yX3_isPredicate cX3_isPredicate 1 (some .boolean) :: tg) B9.pre
  have hown : s.vm.findClass RX3 = some m.cls := findClass_of_methodNamed B9.named
  have hlocks := B9.notSynchronized
  have hS : gS s0 s.heap s.heap [] := va_S.rf
  have hRm : 0 ≤ (headSpec (Cond.code yX3_isPredicate cX3_isPredicate 1 (some .boolean) :: tg) ({ frames := 0, cells := 0, slots := 0, locals := 0 })).room.frames ∧ 0 ≤ (headSpec (Cond.code yX3_isPredicate cX3_isPredicate 1 (some .boolean) :: tg) ({ frames := 0, cells := 0, slots := 0, locals := 0 })).room.locals := ⟨Nat.le_refl _, Nat.le_refl _⟩
  have hcs : 0 + 0 ≤ (headSpec (Cond.code yX3_isPredicate cX3_isPredicate 1 (some .boolean) :: tg) ({ frames := 0, cells := 0, slots := 0, locals := 0 })).room.cells ∧ 0 + 0 ≤ (headSpec (Cond.code yX3_isPredicate cX3_isPredicate 1 (some .boolean) :: tg) ({ frames := 0, cells := 0, slots := 0, locals := 0 })).room.slots := ⟨Nat.zero_le _, Nat.zero_le _⟩
  have hl := lv_entry ([.int (n)]) (n := 1) (Nat.le_of_ble_eq_true rfl)
  rw [lg_entry_eq]
  generalize (lg_sl ([.int (n)]) ++ List.replicate (1 - (lg_sl ([.int (n)])).length) Slot.unset).toArray = ls at hl ⊢
  have hl : lv_has ls 1 [(0, .int (n))] := hl
  refine lv_iload_n hx hb dX3_isPredicate_0 rfl (lv_at hl 0 rfl) ?_
  refine lv_if_lt (tgt := 14) hx hb dX3_isPredicate_1 (by decide) (fun c_1 => ?_) (fun c_1 => ?_)
  · refine lv_iconst (v := nI 0) hx hb dX3_isPredicate_14 (by decide) ?_
    exact W.zret (ty := .boolean) (v := nI 0) hx hb hr (by rfl) (fun t ht hW => ⟨⟨_, w, rfl, ⟨by unfold zB; simp only [Int32.lt_iff_toInt_lt, Int32.le_iff_toInt_le, ti_32, ti_16, Int32.toInt_zero] at c_1 ⊢; split <;> first | rfl | (exfalso; omega), rfl⟩, cB_of ht hP⟩, hS.F ht⟩) hS.2.2 dX3_isPredicate_15
  · refine lv_iload_n hx hb dX3_isPredicate_4 rfl (lv_at hl 0 rfl) ?_
    refine lv_bipush (v := nI 16) hx hb dX3_isPredicate_5 (by decide) ?_
    refine lv_icmp_ge (tgt := 14) hx hb dX3_isPredicate_7 (by decide) (fun c_7 => ?_) (fun c_7 => ?_)
    · refine lv_iconst (v := nI 0) hx hb dX3_isPredicate_14 (by decide) ?_
      exact W.zret (ty := .boolean) (v := nI 0) hx hb hr (by rfl) (fun t ht hW => ⟨⟨_, w, rfl, ⟨by unfold zB; simp only [Int32.lt_iff_toInt_lt, Int32.le_iff_toInt_le, ti_32, ti_16, Int32.toInt_zero] at c_1 c_7 ⊢; split <;> first | rfl | (exfalso; omega), rfl⟩, cB_of ht hP⟩, hS.F ht⟩) hS.2.2 dX3_isPredicate_15
    · refine lv_iconst (v := nI 1) hx hb dX3_isPredicate_10 (by decide) ?_
      refine lv_goto (tgt := 15) hx hb dX3_isPredicate_11 (by decide) ?_
      exact W.zret (ty := .boolean) (v := nI 1) hx hb hr (by rfl) (fun t ht hW => ⟨⟨_, w, rfl, ⟨by unfold zB; simp only [Int32.lt_iff_toInt_lt, Int32.le_iff_toInt_le, ti_32, ti_16, Int32.toInt_zero] at c_1 c_7 ⊢; split <;> first | rfl | (exfalso; omega), rfl⟩, cB_of ht hP⟩, hS.F ht⟩) hS.2.2 dX3_isPredicate_15

set_option maxHeartbeats 4000000 in
set_option maxRecDepth 100000 in
theorem c_X4_isBetween (l : Launch) (g : gX) (s0 : Nat) (w : wd_M) (v a b : Int32) : Met l yX4_isBetween (Cond.code yX4_isBetween cX4_isBetween 3 (some .boolean) :: tg) ({ frames := 0, cells := 0, slots := 0, locals := 0 }) (cP g s0 w [.int (v), .int (a), .int (b)]) (cI g s0 (fun r w' => r = zB (a ≤ v ∧ v ≤ b) ∧ w' = w)) 0 0 (cA s0) := by
  refine Met.ofW (cc := cX4_isBetween) (maxL := 3) (ret := some .boolean) (by decide) rfl ?_
  intro p e s m args below meth c s₁ B9 hml hv
  obtain ⟨rfl, h0s, hP, hK⟩ := hv
  have hx := B9.exec
  have hb := B9.bytes
  have hr := B9.returns
  have hts := atoms_spec (ws := Cond.code yX4_isBetween cX4_isBetween 3 (some .boolean) :: tg) B9.pre
  have hown : s.vm.findClass RX4 = some m.cls := findClass_of_methodNamed B9.named
  have hlocks := B9.notSynchronized
  have hS : gS s0 s.heap s.heap [] := va_S.rf
  have hRm : 0 ≤ (headSpec (Cond.code yX4_isBetween cX4_isBetween 3 (some .boolean) :: tg) ({ frames := 0, cells := 0, slots := 0, locals := 0 })).room.frames ∧ 0 ≤ (headSpec (Cond.code yX4_isBetween cX4_isBetween 3 (some .boolean) :: tg) ({ frames := 0, cells := 0, slots := 0, locals := 0 })).room.locals := ⟨Nat.le_refl _, Nat.le_refl _⟩
  have hcs : 0 + 0 ≤ (headSpec (Cond.code yX4_isBetween cX4_isBetween 3 (some .boolean) :: tg) ({ frames := 0, cells := 0, slots := 0, locals := 0 })).room.cells ∧ 0 + 0 ≤ (headSpec (Cond.code yX4_isBetween cX4_isBetween 3 (some .boolean) :: tg) ({ frames := 0, cells := 0, slots := 0, locals := 0 })).room.slots := ⟨Nat.zero_le _, Nat.zero_le _⟩
  have hl := lv_entry ([.int (v), .int (a), .int (b)]) (n := 3) (Nat.le_of_ble_eq_true rfl)
  rw [lg_entry_eq]
  generalize (lg_sl ([.int (v), .int (a), .int (b)]) ++ List.replicate (3 - (lg_sl ([.int (v), .int (a), .int (b)])).length) Slot.unset).toArray = ls at hl ⊢
  have hl : lv_has ls 3 [(0, .int (v)), (1, .int (a)), (2, .int (b))] := hl
  refine lv_iload_n hx hb dX4_isBetween_0 rfl (lv_at hl 0 rfl) ?_
  refine lv_iload_n hx hb dX4_isBetween_1 rfl (lv_at hl 1 rfl) ?_
  refine lv_icmp_lt (tgt := 14) hx hb dX4_isBetween_2 (by decide) (fun c_2 => ?_) (fun c_2 => ?_)
  · refine lv_iconst (v := nI 0) hx hb dX4_isBetween_14 (by decide) ?_
    exact W.zret (ty := .boolean) (v := nI 0) hx hb hr (by rfl) (fun t ht hW => ⟨⟨_, w, rfl, ⟨by unfold zB; simp only [Int32.lt_iff_toInt_lt, Int32.le_iff_toInt_le, ti_32, ti_16, Int32.toInt_zero] at c_2 ⊢; split <;> first | rfl | (exfalso; omega), rfl⟩, cB_of ht hP⟩, hS.F ht⟩) hS.2.2 dX4_isBetween_15
  · refine lv_iload_n hx hb dX4_isBetween_5 rfl (lv_at hl 0 rfl) ?_
    refine lv_iload_n hx hb dX4_isBetween_6 rfl (lv_at hl 2 rfl) ?_
    refine lv_icmp_gt (tgt := 14) hx hb dX4_isBetween_7 (by decide) (fun c_7 => ?_) (fun c_7 => ?_)
    · refine lv_iconst (v := nI 0) hx hb dX4_isBetween_14 (by decide) ?_
      exact W.zret (ty := .boolean) (v := nI 0) hx hb hr (by rfl) (fun t ht hW => ⟨⟨_, w, rfl, ⟨by unfold zB; simp only [Int32.lt_iff_toInt_lt, Int32.le_iff_toInt_le, ti_32, ti_16, Int32.toInt_zero] at c_2 c_7 ⊢; split <;> first | rfl | (exfalso; omega), rfl⟩, cB_of ht hP⟩, hS.F ht⟩) hS.2.2 dX4_isBetween_15
    · refine lv_iconst (v := nI 1) hx hb dX4_isBetween_10 (by decide) ?_
      refine lv_goto (tgt := 15) hx hb dX4_isBetween_11 (by decide) ?_
      exact W.zret (ty := .boolean) (v := nI 1) hx hb hr (by rfl) (fun t ht hW => ⟨⟨_, w, rfl, ⟨by unfold zB; simp only [Int32.lt_iff_toInt_lt, Int32.le_iff_toInt_le, ti_32, ti_16, Int32.toInt_zero] at c_2 c_7 ⊢; split <;> first | rfl | (exfalso; omega), rfl⟩, cB_of ht hP⟩, hS.F ht⟩) hS.2.2 dX4_isBetween_15

set_option maxHeartbeats 4000000 in
set_option maxRecDepth 100000 in
theorem c_X0_timesOf (l : Launch) (g : gX) (s0 : Nat) (w : wd_M) (h0 t j : Nat) (k kd li : Int32) (inn oth : Option Nat) (pa : Int64) (cs cg : Int32) (Lh : w h0 = some (pO k kd li inn oth pa t j cs cg)) (f : Nat → Int32) (Lt : w t = some (wd_iA (g.2 0) 1024 f)) (x y : Nat) (hx1 : x < 32) (hy1 : y < 32) : Met l yX0_timesOf (Cond.code yX0_timesOf cX0_timesOf 3 (some .int) :: tg) ({ frames := 0, cells := 0, slots := 0, locals := 0 }) (cP g s0 w [.ref h0, .int (nI x), .int (nI y)]) (cI g s0 (fun r w' => r = f (x * 32 + y) ∧ w' = w)) 0 0 (cA s0) := by
  refine Met.ofW (cc := cX0_timesOf) (maxL := 3) (ret := some .int) (by decide) rfl ?_
  intro p e s m args below meth c s₁ B9 hml hv
  obtain ⟨rfl, h0s, hP, hK⟩ := hv
  have hx := B9.exec
  have hb := B9.bytes
  have hr := B9.returns
  have hts := atoms_spec (ws := Cond.code yX0_timesOf cX0_timesOf 3 (some .int) :: tg) B9.pre
  have hown : s.vm.findClass RX0 = some m.cls := findClass_of_methodNamed B9.named
  have hlocks := B9.notSynchronized
  have hS : gS s0 s.heap s.heap [] := va_S.rf
  have hRm : 0 ≤ (headSpec (Cond.code yX0_timesOf cX0_timesOf 3 (some .int) :: tg) ({ frames := 0, cells := 0, slots := 0, locals := 0 })).room.frames ∧ 0 ≤ (headSpec (Cond.code yX0_timesOf cX0_timesOf 3 (some .int) :: tg) ({ frames := 0, cells := 0, slots := 0, locals := 0 })).room.locals := ⟨Nat.le_refl _, Nat.le_refl _⟩
  have hcs : 0 + 0 ≤ (headSpec (Cond.code yX0_timesOf cX0_timesOf 3 (some .int) :: tg) ({ frames := 0, cells := 0, slots := 0, locals := 0 })).room.cells ∧ 0 + 0 ≤ (headSpec (Cond.code yX0_timesOf cX0_timesOf 3 (some .int) :: tg) ({ frames := 0, cells := 0, slots := 0, locals := 0 })).room.slots := ⟨Nat.zero_le _, Nat.zero_le _⟩
  have hl := lv_entry ([.ref h0, .int (nI x), .int (nI y)]) (n := 3) (Nat.le_of_ble_eq_true rfl)
  rw [lg_entry_eq]
  generalize (lg_sl ([.ref h0, .int (nI x), .int (nI y)]) ++ List.replicate (3 - (lg_sl ([.ref h0, .int (nI x), .int (nI y)])).length) Slot.unset).toArray = ls at hl ⊢
  have hl : lv_has ls 3 [(0, .ref h0), (1, .int (nI x)), (2, .int (nI y))] := hl
  refine lv_aload_n hx hb dX0_timesOf_0 rfl (lv_at hl 0 rfl) ?_
  refine wd_get (ci := 1) (v := .ref t) (C := RX0) (T := TX0) (N := 10) hx hb hts iwX0 hown hK.1 hP (Lh) rfl 6 (by decide) (hts _ (tg_tail _ tw_130)) (fun _ h9 => h9) rfl dX0_timesOf_1 ?_
  refine lv_iload_n hx hb dX0_timesOf_4 rfl (lv_at hl 1 rfl) ?_
  refine lv_bipush (v := nI 32) hx hb dX0_timesOf_5 (by decide) ?_
  refine lv_imul hx hb dX0_timesOf_7 ?_
  refine wd_ti (x' := nI (x * 32)) (pk_mul _ _) ?_
  refine lv_iload_n hx hb dX0_timesOf_8 rfl (lv_at hl 2 rfl) ?_
  refine lv_iadd hx hb dX0_timesOf_9 ?_
  refine wd_ti (x' := nI ((x * 32) + y)) (nI_add _ _) ?_
  refine wd_ildN hx hb hK.1 hP 0 (k := ((x * 32) + y)) (Lt) rfl (by omega) (by decide) dX0_timesOf_10 ?_
  exact W.iret (v := f ((x * 32) + y)) hx hb hr (fun t ht hW => ⟨⟨_, w, rfl, ⟨rfl, rfl⟩, cB_of ht hP⟩, hS.F ht⟩) hS.2.2 dX0_timesOf_11

set_option maxHeartbeats 4000000 in
set_option maxRecDepth 100000 in
theorem c_X0_walks (l : Launch) (g : gX) (s0 : Nat) (w : wd_M) (h0 t j : Nat) (k kd li : Int32) (inn oth : Option Nat) (pa : Int64) (cs cg : Int32) (Lh : w h0 = some (pO k kd li inn oth pa t j cs cg)) : Met l yX0_walks (Cond.code yX0_walks cX0_walks 1 (some .boolean) :: tg) ({ frames := 0, cells := 0, slots := 0, locals := 0 }) (cP g s0 w [.ref h0]) (cI g s0 (fun r w' => r = zB (kd = nI 4 ∨ kd = nI 5) ∧ w' = w)) 0 0 (cA s0) := by
  refine Met.ofW (cc := cX0_walks) (maxL := 1) (ret := some .boolean) (by decide) rfl ?_
  intro p e s m args below meth c s₁ B9 hml hv
  obtain ⟨rfl, h0s, hP, hK⟩ := hv
  have hx := B9.exec
  have hb := B9.bytes
  have hr := B9.returns
  have hts := atoms_spec (ws := Cond.code yX0_walks cX0_walks 1 (some .boolean) :: tg) B9.pre
  have hown : s.vm.findClass RX0 = some m.cls := findClass_of_methodNamed B9.named
  have hlocks := B9.notSynchronized
  have hS : gS s0 s.heap s.heap [] := va_S.rf
  have hRm : 0 ≤ (headSpec (Cond.code yX0_walks cX0_walks 1 (some .boolean) :: tg) ({ frames := 0, cells := 0, slots := 0, locals := 0 })).room.frames ∧ 0 ≤ (headSpec (Cond.code yX0_walks cX0_walks 1 (some .boolean) :: tg) ({ frames := 0, cells := 0, slots := 0, locals := 0 })).room.locals := ⟨Nat.le_refl _, Nat.le_refl _⟩
  have hcs : 0 + 0 ≤ (headSpec (Cond.code yX0_walks cX0_walks 1 (some .boolean) :: tg) ({ frames := 0, cells := 0, slots := 0, locals := 0 })).room.cells ∧ 0 + 0 ≤ (headSpec (Cond.code yX0_walks cX0_walks 1 (some .boolean) :: tg) ({ frames := 0, cells := 0, slots := 0, locals := 0 })).room.slots := ⟨Nat.zero_le _, Nat.zero_le _⟩
  have hl := lv_entry ([.ref h0]) (n := 1) (Nat.le_of_ble_eq_true rfl)
  rw [lg_entry_eq]
  generalize (lg_sl ([.ref h0]) ++ List.replicate (1 - (lg_sl ([.ref h0])).length) Slot.unset).toArray = ls at hl ⊢
  have hl : lv_has ls 1 [(0, .ref h0)] := hl
  refine lv_aload_n hx hb dX0_walks_0 rfl (lv_at hl 0 rfl) ?_
  refine wd_get (ci := 1) (v := .int (kd)) (C := RX0) (T := TX0) (N := 10) hx hb hts iwX0 hown hK.1 hP (Lh) rfl 1 (by decide) (hts _ (tg_tail _ tw_125)) (fun _ h9 => h9) rfl dX0_walks_1 ?_
  refine lv_iconst (v := nI 4) hx hb dX0_walks_4 (by decide) ?_
  refine lv_icmp_eq (tgt := 16) hx hb dX0_walks_5 (by decide) (fun c_5 => ?_) (fun c_5 => ?_)
  · refine lv_iconst (v := nI 1) hx hb dX0_walks_16 (by decide) ?_
    refine lv_goto (tgt := 21) hx hb dX0_walks_17 (by decide) ?_
    exact W.zret (ty := .boolean) (v := nI 1) hx hb hr (by rfl) (fun t ht hW => ⟨⟨_, w, rfl, ⟨by unfold zB; simp only [c_5]; rfl, rfl⟩, cB_of ht hP⟩, hS.F ht⟩) hS.2.2 dX0_walks_21
  · refine lv_aload_n hx hb dX0_walks_8 rfl (lv_at hl 0 rfl) ?_
    refine wd_get (ci := 1) (v := .int (kd)) (C := RX0) (T := TX0) (N := 10) hx hb hts iwX0 hown hK.1 hP (Lh) rfl 1 (by decide) (hts _ (tg_tail _ tw_125)) (fun _ h9 => h9) rfl dX0_walks_9 ?_
    refine lv_iconst (v := nI 5) hx hb dX0_walks_12 (by decide) ?_
    refine lv_icmp_ne (tgt := 20) hx hb dX0_walks_13 (by decide) (fun c_13 => ?_) (fun c_13 => ?_)
    · refine lv_iconst (v := nI 0) hx hb dX0_walks_20 (by decide) ?_
      exact W.zret (ty := .boolean) (v := nI 0) hx hb hr (by rfl) (fun t ht hW => ⟨⟨_, w, rfl, ⟨by unfold zB; simp only [c_5, c_13]; rfl, rfl⟩, cB_of ht hP⟩, hS.F ht⟩) hS.2.2 dX0_walks_21
    · refine lv_iconst (v := nI 1) hx hb dX0_walks_16 (by decide) ?_
      refine lv_goto (tgt := 21) hx hb dX0_walks_17 (by decide) ?_
      exact W.zret (ty := .boolean) (v := nI 1) hx hb hr (by rfl) (fun t ht hW => ⟨⟨_, w, rfl, ⟨by unfold zB; simp only [c_5, c_13]; rfl, rfl⟩, cB_of ht hP⟩, hS.F ht⟩) hS.2.2 dX0_walks_21
end
section
/-! FRAMES: the reference's cells, a PATH's, the fixed cells of the class: each block as one map -/
def mW (g : gX) (w : wd_M) (h : Nat) (rf : Int32) (nt : Int32) (np : Int32) (mo : Int32) (gb : Int32) (wr : Int32) (nr : Int32) (su : Nat → Int32) (pr : Nat → Int32) (ob : Nat → Int32) (ki : Nat → Int32) (fi : Nat → Int32) (se : Nat → Int32) (ta : Nat → Int32) (nd : Nat → Int32) (ii : Nat → Int32) (sp : Nat → Int32) (qu : Nat → Int32) (rF : Nat → Int32) (rT : Nat → Int32) (rD : Nat → Int32) : wd_M := fun a => if a = h then some (.inr (5, [.int (rf), .ref (h + 1), .ref (h + 2), .ref (h + 3), .int (nt), .ref (h + 4), .ref (h + 5), .ref (h + 6), .int (np), .int (mo), .ref (h + 7), .ref (h + 8), .ref (h + 9), .int (gb), .ref (h + 10), .ref (h + 11), .int (wr), .int (nr), .ref (h + 12), .ref (h + 13), .ref (h + 14)])) else if a = (h + 1) then some (wd_iA (g.2 0) 150 (su)) else if a = (h + 2) then some (wd_iA (g.2 0) 150 (pr)) else if a = (h + 3) then some (wd_iA (g.2 0) 150 (ob)) else if a = (h + 4) then some (wd_iA (g.2 0) 41 (ki)) else if a = (h + 5) then some (wd_iA (g.2 0) 41 (fi)) else if a = (h + 6) then some (wd_iA (g.2 0) 41 (se)) else if a = (h + 7) then some (wd_iA (g.2 0) 41984 (ta)) else if a = (h + 8) then some (wd_iA (g.2 1) 41 (nd)) else if a = (h + 9) then some (wd_iA (g.2 1) 32 (ii)) else if a = (h + 10) then some (wd_iA (g.2 0) 32 (sp)) else if a = (h + 11) then some (wd_iA (g.2 0) 32 (qu)) else if a = (h + 12) then some (wd_iA (g.2 0) 2000 (rF)) else if a = (h + 13) then some (wd_iA (g.2 0) 2000 (rT)) else if a = (h + 14) then some (wd_iA (g.2 0) 2000 (rD)) else w a
theorem mW_0 {g : gX} {w : wd_M} {h : Nat} {rf : Int32} {nt : Int32} {np : Int32} {mo : Int32} {gb : Int32} {wr : Int32} {nr : Int32} {su : Nat → Int32} {pr : Nat → Int32} {ob : Nat → Int32} {ki : Nat → Int32} {fi : Nat → Int32} {se : Nat → Int32} {ta : Nat → Int32} {nd : Nat → Int32} {ii : Nat → Int32} {sp : Nat → Int32} {qu : Nat → Int32} {rF : Nat → Int32} {rT : Nat → Int32} {rD : Nat → Int32} : (mW g w h rf nt np mo gb wr nr su pr ob ki fi se ta nd ii sp qu rF rT rD) h = some (.inr (5, [.int (rf), .ref (h + 1), .ref (h + 2), .ref (h + 3), .int (nt), .ref (h + 4), .ref (h + 5), .ref (h + 6), .int (np), .int (mo), .ref (h + 7), .ref (h + 8), .ref (h + 9), .int (gb), .ref (h + 10), .ref (h + 11), .int (wr), .int (nr), .ref (h + 12), .ref (h + 13), .ref (h + 14)])) := by
  unfold mW
  rw [if_pos rfl]
theorem mW_1 {g : gX} {w : wd_M} {h : Nat} {rf : Int32} {nt : Int32} {np : Int32} {mo : Int32} {gb : Int32} {wr : Int32} {nr : Int32} {su : Nat → Int32} {pr : Nat → Int32} {ob : Nat → Int32} {ki : Nat → Int32} {fi : Nat → Int32} {se : Nat → Int32} {ta : Nat → Int32} {nd : Nat → Int32} {ii : Nat → Int32} {sp : Nat → Int32} {qu : Nat → Int32} {rF : Nat → Int32} {rT : Nat → Int32} {rD : Nat → Int32} : (mW g w h rf nt np mo gb wr nr su pr ob ki fi se ta nd ii sp qu rF rT rD) (h + 1) = some (wd_iA (g.2 0) 150 (su)) := by
  unfold mW
  rw [if_neg (by omega)]
  rw [if_pos rfl]
theorem mW_2 {g : gX} {w : wd_M} {h : Nat} {rf : Int32} {nt : Int32} {np : Int32} {mo : Int32} {gb : Int32} {wr : Int32} {nr : Int32} {su : Nat → Int32} {pr : Nat → Int32} {ob : Nat → Int32} {ki : Nat → Int32} {fi : Nat → Int32} {se : Nat → Int32} {ta : Nat → Int32} {nd : Nat → Int32} {ii : Nat → Int32} {sp : Nat → Int32} {qu : Nat → Int32} {rF : Nat → Int32} {rT : Nat → Int32} {rD : Nat → Int32} : (mW g w h rf nt np mo gb wr nr su pr ob ki fi se ta nd ii sp qu rF rT rD) (h + 2) = some (wd_iA (g.2 0) 150 (pr)) := by
  unfold mW
  rw [if_neg (by omega)]
  rw [if_neg (by omega)]
  rw [if_pos rfl]
theorem mW_3 {g : gX} {w : wd_M} {h : Nat} {rf : Int32} {nt : Int32} {np : Int32} {mo : Int32} {gb : Int32} {wr : Int32} {nr : Int32} {su : Nat → Int32} {pr : Nat → Int32} {ob : Nat → Int32} {ki : Nat → Int32} {fi : Nat → Int32} {se : Nat → Int32} {ta : Nat → Int32} {nd : Nat → Int32} {ii : Nat → Int32} {sp : Nat → Int32} {qu : Nat → Int32} {rF : Nat → Int32} {rT : Nat → Int32} {rD : Nat → Int32} : (mW g w h rf nt np mo gb wr nr su pr ob ki fi se ta nd ii sp qu rF rT rD) (h + 3) = some (wd_iA (g.2 0) 150 (ob)) := by
  unfold mW
  rw [if_neg (by omega)]
  rw [if_neg (by omega)]
  rw [if_neg (by omega)]
  rw [if_pos rfl]
theorem mW_4 {g : gX} {w : wd_M} {h : Nat} {rf : Int32} {nt : Int32} {np : Int32} {mo : Int32} {gb : Int32} {wr : Int32} {nr : Int32} {su : Nat → Int32} {pr : Nat → Int32} {ob : Nat → Int32} {ki : Nat → Int32} {fi : Nat → Int32} {se : Nat → Int32} {ta : Nat → Int32} {nd : Nat → Int32} {ii : Nat → Int32} {sp : Nat → Int32} {qu : Nat → Int32} {rF : Nat → Int32} {rT : Nat → Int32} {rD : Nat → Int32} : (mW g w h rf nt np mo gb wr nr su pr ob ki fi se ta nd ii sp qu rF rT rD) (h + 4) = some (wd_iA (g.2 0) 41 (ki)) := by
  unfold mW
  rw [if_neg (by omega)]
  rw [if_neg (by omega)]
  rw [if_neg (by omega)]
  rw [if_neg (by omega)]
  rw [if_pos rfl]
theorem mW_5 {g : gX} {w : wd_M} {h : Nat} {rf : Int32} {nt : Int32} {np : Int32} {mo : Int32} {gb : Int32} {wr : Int32} {nr : Int32} {su : Nat → Int32} {pr : Nat → Int32} {ob : Nat → Int32} {ki : Nat → Int32} {fi : Nat → Int32} {se : Nat → Int32} {ta : Nat → Int32} {nd : Nat → Int32} {ii : Nat → Int32} {sp : Nat → Int32} {qu : Nat → Int32} {rF : Nat → Int32} {rT : Nat → Int32} {rD : Nat → Int32} : (mW g w h rf nt np mo gb wr nr su pr ob ki fi se ta nd ii sp qu rF rT rD) (h + 5) = some (wd_iA (g.2 0) 41 (fi)) := by
  unfold mW
  rw [if_neg (by omega)]
  rw [if_neg (by omega)]
  rw [if_neg (by omega)]
  rw [if_neg (by omega)]
  rw [if_neg (by omega)]
  rw [if_pos rfl]
theorem mW_6 {g : gX} {w : wd_M} {h : Nat} {rf : Int32} {nt : Int32} {np : Int32} {mo : Int32} {gb : Int32} {wr : Int32} {nr : Int32} {su : Nat → Int32} {pr : Nat → Int32} {ob : Nat → Int32} {ki : Nat → Int32} {fi : Nat → Int32} {se : Nat → Int32} {ta : Nat → Int32} {nd : Nat → Int32} {ii : Nat → Int32} {sp : Nat → Int32} {qu : Nat → Int32} {rF : Nat → Int32} {rT : Nat → Int32} {rD : Nat → Int32} : (mW g w h rf nt np mo gb wr nr su pr ob ki fi se ta nd ii sp qu rF rT rD) (h + 6) = some (wd_iA (g.2 0) 41 (se)) := by
  unfold mW
  rw [if_neg (by omega)]
  rw [if_neg (by omega)]
  rw [if_neg (by omega)]
  rw [if_neg (by omega)]
  rw [if_neg (by omega)]
  rw [if_neg (by omega)]
  rw [if_pos rfl]
theorem mW_7 {g : gX} {w : wd_M} {h : Nat} {rf : Int32} {nt : Int32} {np : Int32} {mo : Int32} {gb : Int32} {wr : Int32} {nr : Int32} {su : Nat → Int32} {pr : Nat → Int32} {ob : Nat → Int32} {ki : Nat → Int32} {fi : Nat → Int32} {se : Nat → Int32} {ta : Nat → Int32} {nd : Nat → Int32} {ii : Nat → Int32} {sp : Nat → Int32} {qu : Nat → Int32} {rF : Nat → Int32} {rT : Nat → Int32} {rD : Nat → Int32} : (mW g w h rf nt np mo gb wr nr su pr ob ki fi se ta nd ii sp qu rF rT rD) (h + 7) = some (wd_iA (g.2 0) 41984 (ta)) := by
  unfold mW
  rw [if_neg (by omega)]
  rw [if_neg (by omega)]
  rw [if_neg (by omega)]
  rw [if_neg (by omega)]
  rw [if_neg (by omega)]
  rw [if_neg (by omega)]
  rw [if_neg (by omega)]
  rw [if_pos rfl]
theorem mW_8 {g : gX} {w : wd_M} {h : Nat} {rf : Int32} {nt : Int32} {np : Int32} {mo : Int32} {gb : Int32} {wr : Int32} {nr : Int32} {su : Nat → Int32} {pr : Nat → Int32} {ob : Nat → Int32} {ki : Nat → Int32} {fi : Nat → Int32} {se : Nat → Int32} {ta : Nat → Int32} {nd : Nat → Int32} {ii : Nat → Int32} {sp : Nat → Int32} {qu : Nat → Int32} {rF : Nat → Int32} {rT : Nat → Int32} {rD : Nat → Int32} : (mW g w h rf nt np mo gb wr nr su pr ob ki fi se ta nd ii sp qu rF rT rD) (h + 8) = some (wd_iA (g.2 1) 41 (nd)) := by
  unfold mW
  rw [if_neg (by omega)]
  rw [if_neg (by omega)]
  rw [if_neg (by omega)]
  rw [if_neg (by omega)]
  rw [if_neg (by omega)]
  rw [if_neg (by omega)]
  rw [if_neg (by omega)]
  rw [if_neg (by omega)]
  rw [if_pos rfl]
theorem mW_9 {g : gX} {w : wd_M} {h : Nat} {rf : Int32} {nt : Int32} {np : Int32} {mo : Int32} {gb : Int32} {wr : Int32} {nr : Int32} {su : Nat → Int32} {pr : Nat → Int32} {ob : Nat → Int32} {ki : Nat → Int32} {fi : Nat → Int32} {se : Nat → Int32} {ta : Nat → Int32} {nd : Nat → Int32} {ii : Nat → Int32} {sp : Nat → Int32} {qu : Nat → Int32} {rF : Nat → Int32} {rT : Nat → Int32} {rD : Nat → Int32} : (mW g w h rf nt np mo gb wr nr su pr ob ki fi se ta nd ii sp qu rF rT rD) (h + 9) = some (wd_iA (g.2 1) 32 (ii)) := by
  unfold mW
  rw [if_neg (by omega)]
  rw [if_neg (by omega)]
  rw [if_neg (by omega)]
  rw [if_neg (by omega)]
  rw [if_neg (by omega)]
  rw [if_neg (by omega)]
  rw [if_neg (by omega)]
  rw [if_neg (by omega)]
  rw [if_neg (by omega)]
  rw [if_pos rfl]
theorem mW_10 {g : gX} {w : wd_M} {h : Nat} {rf : Int32} {nt : Int32} {np : Int32} {mo : Int32} {gb : Int32} {wr : Int32} {nr : Int32} {su : Nat → Int32} {pr : Nat → Int32} {ob : Nat → Int32} {ki : Nat → Int32} {fi : Nat → Int32} {se : Nat → Int32} {ta : Nat → Int32} {nd : Nat → Int32} {ii : Nat → Int32} {sp : Nat → Int32} {qu : Nat → Int32} {rF : Nat → Int32} {rT : Nat → Int32} {rD : Nat → Int32} : (mW g w h rf nt np mo gb wr nr su pr ob ki fi se ta nd ii sp qu rF rT rD) (h + 10) = some (wd_iA (g.2 0) 32 (sp)) := by
  unfold mW
  rw [if_neg (by omega)]
  rw [if_neg (by omega)]
  rw [if_neg (by omega)]
  rw [if_neg (by omega)]
  rw [if_neg (by omega)]
  rw [if_neg (by omega)]
  rw [if_neg (by omega)]
  rw [if_neg (by omega)]
  rw [if_neg (by omega)]
  rw [if_neg (by omega)]
  rw [if_pos rfl]
theorem mW_11 {g : gX} {w : wd_M} {h : Nat} {rf : Int32} {nt : Int32} {np : Int32} {mo : Int32} {gb : Int32} {wr : Int32} {nr : Int32} {su : Nat → Int32} {pr : Nat → Int32} {ob : Nat → Int32} {ki : Nat → Int32} {fi : Nat → Int32} {se : Nat → Int32} {ta : Nat → Int32} {nd : Nat → Int32} {ii : Nat → Int32} {sp : Nat → Int32} {qu : Nat → Int32} {rF : Nat → Int32} {rT : Nat → Int32} {rD : Nat → Int32} : (mW g w h rf nt np mo gb wr nr su pr ob ki fi se ta nd ii sp qu rF rT rD) (h + 11) = some (wd_iA (g.2 0) 32 (qu)) := by
  unfold mW
  rw [if_neg (by omega)]
  rw [if_neg (by omega)]
  rw [if_neg (by omega)]
  rw [if_neg (by omega)]
  rw [if_neg (by omega)]
  rw [if_neg (by omega)]
  rw [if_neg (by omega)]
  rw [if_neg (by omega)]
  rw [if_neg (by omega)]
  rw [if_neg (by omega)]
  rw [if_neg (by omega)]
  rw [if_pos rfl]
theorem mW_12 {g : gX} {w : wd_M} {h : Nat} {rf : Int32} {nt : Int32} {np : Int32} {mo : Int32} {gb : Int32} {wr : Int32} {nr : Int32} {su : Nat → Int32} {pr : Nat → Int32} {ob : Nat → Int32} {ki : Nat → Int32} {fi : Nat → Int32} {se : Nat → Int32} {ta : Nat → Int32} {nd : Nat → Int32} {ii : Nat → Int32} {sp : Nat → Int32} {qu : Nat → Int32} {rF : Nat → Int32} {rT : Nat → Int32} {rD : Nat → Int32} : (mW g w h rf nt np mo gb wr nr su pr ob ki fi se ta nd ii sp qu rF rT rD) (h + 12) = some (wd_iA (g.2 0) 2000 (rF)) := by
  unfold mW
  rw [if_neg (by omega)]
  rw [if_neg (by omega)]
  rw [if_neg (by omega)]
  rw [if_neg (by omega)]
  rw [if_neg (by omega)]
  rw [if_neg (by omega)]
  rw [if_neg (by omega)]
  rw [if_neg (by omega)]
  rw [if_neg (by omega)]
  rw [if_neg (by omega)]
  rw [if_neg (by omega)]
  rw [if_neg (by omega)]
  rw [if_pos rfl]
theorem mW_13 {g : gX} {w : wd_M} {h : Nat} {rf : Int32} {nt : Int32} {np : Int32} {mo : Int32} {gb : Int32} {wr : Int32} {nr : Int32} {su : Nat → Int32} {pr : Nat → Int32} {ob : Nat → Int32} {ki : Nat → Int32} {fi : Nat → Int32} {se : Nat → Int32} {ta : Nat → Int32} {nd : Nat → Int32} {ii : Nat → Int32} {sp : Nat → Int32} {qu : Nat → Int32} {rF : Nat → Int32} {rT : Nat → Int32} {rD : Nat → Int32} : (mW g w h rf nt np mo gb wr nr su pr ob ki fi se ta nd ii sp qu rF rT rD) (h + 13) = some (wd_iA (g.2 0) 2000 (rT)) := by
  unfold mW
  rw [if_neg (by omega)]
  rw [if_neg (by omega)]
  rw [if_neg (by omega)]
  rw [if_neg (by omega)]
  rw [if_neg (by omega)]
  rw [if_neg (by omega)]
  rw [if_neg (by omega)]
  rw [if_neg (by omega)]
  rw [if_neg (by omega)]
  rw [if_neg (by omega)]
  rw [if_neg (by omega)]
  rw [if_neg (by omega)]
  rw [if_neg (by omega)]
  rw [if_pos rfl]
theorem mW_14 {g : gX} {w : wd_M} {h : Nat} {rf : Int32} {nt : Int32} {np : Int32} {mo : Int32} {gb : Int32} {wr : Int32} {nr : Int32} {su : Nat → Int32} {pr : Nat → Int32} {ob : Nat → Int32} {ki : Nat → Int32} {fi : Nat → Int32} {se : Nat → Int32} {ta : Nat → Int32} {nd : Nat → Int32} {ii : Nat → Int32} {sp : Nat → Int32} {qu : Nat → Int32} {rF : Nat → Int32} {rT : Nat → Int32} {rD : Nat → Int32} : (mW g w h rf nt np mo gb wr nr su pr ob ki fi se ta nd ii sp qu rF rT rD) (h + 14) = some (wd_iA (g.2 0) 2000 (rD)) := by
  unfold mW
  rw [if_neg (by omega)]
  rw [if_neg (by omega)]
  rw [if_neg (by omega)]
  rw [if_neg (by omega)]
  rw [if_neg (by omega)]
  rw [if_neg (by omega)]
  rw [if_neg (by omega)]
  rw [if_neg (by omega)]
  rw [if_neg (by omega)]
  rw [if_neg (by omega)]
  rw [if_neg (by omega)]
  rw [if_neg (by omega)]
  rw [if_neg (by omega)]
  rw [if_neg (by omega)]
  rw [if_pos rfl]
theorem mW_out {g : gX} {w : wd_M} {h : Nat} {rf : Int32} {nt : Int32} {np : Int32} {mo : Int32} {gb : Int32} {wr : Int32} {nr : Int32} {su : Nat → Int32} {pr : Nat → Int32} {ob : Nat → Int32} {ki : Nat → Int32} {fi : Nat → Int32} {se : Nat → Int32} {ta : Nat → Int32} {nd : Nat → Int32} {ii : Nat → Int32} {sp : Nat → Int32} {qu : Nat → Int32} {rF : Nat → Int32} {rT : Nat → Int32} {rD : Nat → Int32} {a : Nat} (h9 : a < h ∨ h + 15 ≤ a) : (mW g w h rf nt np mo gb wr nr su pr ob ki fi se ta nd ii sp qu rF rT rD) a = w a := by
  unfold mW
  rw [if_neg (by omega)]
  rw [if_neg (by omega)]
  rw [if_neg (by omega)]
  rw [if_neg (by omega)]
  rw [if_neg (by omega)]
  rw [if_neg (by omega)]
  rw [if_neg (by omega)]
  rw [if_neg (by omega)]
  rw [if_neg (by omega)]
  rw [if_neg (by omega)]
  rw [if_neg (by omega)]
  rw [if_neg (by omega)]
  rw [if_neg (by omega)]
  rw [if_neg (by omega)]
  rw [if_neg (by omega)]
theorem mW_s0 {g : gX} {w : wd_M} {h : Nat} {rf : Int32} {nt : Int32} {np : Int32} {mo : Int32} {gb : Int32} {wr : Int32} {nr : Int32} {su : Nat → Int32} {pr : Nat → Int32} {ob : Nat → Int32} {ki : Nat → Int32} {fi : Nat → Int32} {se : Nat → Int32} {ta : Nat → Int32} {nd : Nat → Int32} {ii : Nat → Int32} {sp : Nat → Int32} {qu : Nat → Int32} {rF : Nat → Int32} {rT : Nat → Int32} {rD : Nat → Int32} {rf' : Int32} {nt' : Int32} {np' : Int32} {mo' : Int32} {gb' : Int32} {wr' : Int32} {nr' : Int32} : wd_up (mW g w h rf nt np mo gb wr nr su pr ob ki fi se ta nd ii sp qu rF rT rD) h (.inr (5, [.int (rf'), .ref (h + 1), .ref (h + 2), .ref (h + 3), .int (nt'), .ref (h + 4), .ref (h + 5), .ref (h + 6), .int (np'), .int (mo'), .ref (h + 7), .ref (h + 8), .ref (h + 9), .int (gb'), .ref (h + 10), .ref (h + 11), .int (wr'), .int (nr'), .ref (h + 12), .ref (h + 13), .ref (h + 14)])) = (mW g w h rf' nt' np' mo' gb' wr' nr' su pr ob ki fi se ta nd ii sp qu rF rT rD) := by
  funext b
  unfold wd_up mW
  by_cases h9 : b = h
  · rw [if_pos h9]
    subst h9
    rw [if_pos rfl]
  · rw [if_neg h9]
    simp only [if_neg h9]
theorem mW_s1 {g : gX} {w : wd_M} {h : Nat} {rf : Int32} {nt : Int32} {np : Int32} {mo : Int32} {gb : Int32} {wr : Int32} {nr : Int32} {su : Nat → Int32} {pr : Nat → Int32} {ob : Nat → Int32} {ki : Nat → Int32} {fi : Nat → Int32} {se : Nat → Int32} {ta : Nat → Int32} {nd : Nat → Int32} {ii : Nat → Int32} {sp : Nat → Int32} {qu : Nat → Int32} {rF : Nat → Int32} {rT : Nat → Int32} {rD : Nat → Int32} {su' : Nat → Int32} : wd_up (mW g w h rf nt np mo gb wr nr su pr ob ki fi se ta nd ii sp qu rF rT rD) (h + 1) (wd_iA (g.2 0) 150 (su')) = (mW g w h rf nt np mo gb wr nr su' pr ob ki fi se ta nd ii sp qu rF rT rD) := by
  funext b
  unfold wd_up mW
  by_cases h9 : b = (h + 1)
  · rw [if_pos h9]
    subst h9
    rw [if_neg (by omega)]; rw [if_pos rfl]
  · rw [if_neg h9]
    simp only [if_neg h9]
theorem mW_s2 {g : gX} {w : wd_M} {h : Nat} {rf : Int32} {nt : Int32} {np : Int32} {mo : Int32} {gb : Int32} {wr : Int32} {nr : Int32} {su : Nat → Int32} {pr : Nat → Int32} {ob : Nat → Int32} {ki : Nat → Int32} {fi : Nat → Int32} {se : Nat → Int32} {ta : Nat → Int32} {nd : Nat → Int32} {ii : Nat → Int32} {sp : Nat → Int32} {qu : Nat → Int32} {rF : Nat → Int32} {rT : Nat → Int32} {rD : Nat → Int32} {pr' : Nat → Int32} : wd_up (mW g w h rf nt np mo gb wr nr su pr ob ki fi se ta nd ii sp qu rF rT rD) (h + 2) (wd_iA (g.2 0) 150 (pr')) = (mW g w h rf nt np mo gb wr nr su pr' ob ki fi se ta nd ii sp qu rF rT rD) := by
  funext b
  unfold wd_up mW
  by_cases h9 : b = (h + 2)
  · rw [if_pos h9]
    subst h9
    rw [if_neg (by omega)]; rw [if_neg (by omega)]; rw [if_pos rfl]
  · rw [if_neg h9]
    simp only [if_neg h9]
theorem mW_s3 {g : gX} {w : wd_M} {h : Nat} {rf : Int32} {nt : Int32} {np : Int32} {mo : Int32} {gb : Int32} {wr : Int32} {nr : Int32} {su : Nat → Int32} {pr : Nat → Int32} {ob : Nat → Int32} {ki : Nat → Int32} {fi : Nat → Int32} {se : Nat → Int32} {ta : Nat → Int32} {nd : Nat → Int32} {ii : Nat → Int32} {sp : Nat → Int32} {qu : Nat → Int32} {rF : Nat → Int32} {rT : Nat → Int32} {rD : Nat → Int32} {ob' : Nat → Int32} : wd_up (mW g w h rf nt np mo gb wr nr su pr ob ki fi se ta nd ii sp qu rF rT rD) (h + 3) (wd_iA (g.2 0) 150 (ob')) = (mW g w h rf nt np mo gb wr nr su pr ob' ki fi se ta nd ii sp qu rF rT rD) := by
  funext b
  unfold wd_up mW
  by_cases h9 : b = (h + 3)
  · rw [if_pos h9]
    subst h9
    rw [if_neg (by omega)]; rw [if_neg (by omega)]; rw [if_neg (by omega)]; rw [if_pos rfl]
  · rw [if_neg h9]
    simp only [if_neg h9]
theorem mW_s4 {g : gX} {w : wd_M} {h : Nat} {rf : Int32} {nt : Int32} {np : Int32} {mo : Int32} {gb : Int32} {wr : Int32} {nr : Int32} {su : Nat → Int32} {pr : Nat → Int32} {ob : Nat → Int32} {ki : Nat → Int32} {fi : Nat → Int32} {se : Nat → Int32} {ta : Nat → Int32} {nd : Nat → Int32} {ii : Nat → Int32} {sp : Nat → Int32} {qu : Nat → Int32} {rF : Nat → Int32} {rT : Nat → Int32} {rD : Nat → Int32} {ki' : Nat → Int32} : wd_up (mW g w h rf nt np mo gb wr nr su pr ob ki fi se ta nd ii sp qu rF rT rD) (h + 4) (wd_iA (g.2 0) 41 (ki')) = (mW g w h rf nt np mo gb wr nr su pr ob ki' fi se ta nd ii sp qu rF rT rD) := by
  funext b
  unfold wd_up mW
  by_cases h9 : b = (h + 4)
  · rw [if_pos h9]
    subst h9
    rw [if_neg (by omega)]; rw [if_neg (by omega)]; rw [if_neg (by omega)]; rw [if_neg (by omega)]; rw [if_pos rfl]
  · rw [if_neg h9]
    simp only [if_neg h9]
theorem mW_s5 {g : gX} {w : wd_M} {h : Nat} {rf : Int32} {nt : Int32} {np : Int32} {mo : Int32} {gb : Int32} {wr : Int32} {nr : Int32} {su : Nat → Int32} {pr : Nat → Int32} {ob : Nat → Int32} {ki : Nat → Int32} {fi : Nat → Int32} {se : Nat → Int32} {ta : Nat → Int32} {nd : Nat → Int32} {ii : Nat → Int32} {sp : Nat → Int32} {qu : Nat → Int32} {rF : Nat → Int32} {rT : Nat → Int32} {rD : Nat → Int32} {fi' : Nat → Int32} : wd_up (mW g w h rf nt np mo gb wr nr su pr ob ki fi se ta nd ii sp qu rF rT rD) (h + 5) (wd_iA (g.2 0) 41 (fi')) = (mW g w h rf nt np mo gb wr nr su pr ob ki fi' se ta nd ii sp qu rF rT rD) := by
  funext b
  unfold wd_up mW
  by_cases h9 : b = (h + 5)
  · rw [if_pos h9]
    subst h9
    rw [if_neg (by omega)]; rw [if_neg (by omega)]; rw [if_neg (by omega)]; rw [if_neg (by omega)]; rw [if_neg (by omega)]; rw [if_pos rfl]
  · rw [if_neg h9]
    simp only [if_neg h9]
theorem mW_s6 {g : gX} {w : wd_M} {h : Nat} {rf : Int32} {nt : Int32} {np : Int32} {mo : Int32} {gb : Int32} {wr : Int32} {nr : Int32} {su : Nat → Int32} {pr : Nat → Int32} {ob : Nat → Int32} {ki : Nat → Int32} {fi : Nat → Int32} {se : Nat → Int32} {ta : Nat → Int32} {nd : Nat → Int32} {ii : Nat → Int32} {sp : Nat → Int32} {qu : Nat → Int32} {rF : Nat → Int32} {rT : Nat → Int32} {rD : Nat → Int32} {se' : Nat → Int32} : wd_up (mW g w h rf nt np mo gb wr nr su pr ob ki fi se ta nd ii sp qu rF rT rD) (h + 6) (wd_iA (g.2 0) 41 (se')) = (mW g w h rf nt np mo gb wr nr su pr ob ki fi se' ta nd ii sp qu rF rT rD) := by
  funext b
  unfold wd_up mW
  by_cases h9 : b = (h + 6)
  · rw [if_pos h9]
    subst h9
    rw [if_neg (by omega)]; rw [if_neg (by omega)]; rw [if_neg (by omega)]; rw [if_neg (by omega)]; rw [if_neg (by omega)]; rw [if_neg (by omega)]; rw [if_pos rfl]
  · rw [if_neg h9]
    simp only [if_neg h9]
theorem mW_s7 {g : gX} {w : wd_M} {h : Nat} {rf : Int32} {nt : Int32} {np : Int32} {mo : Int32} {gb : Int32} {wr : Int32} {nr : Int32} {su : Nat → Int32} {pr : Nat → Int32} {ob : Nat → Int32} {ki : Nat → Int32} {fi : Nat → Int32} {se : Nat → Int32} {ta : Nat → Int32} {nd : Nat → Int32} {ii : Nat → Int32} {sp : Nat → Int32} {qu : Nat → Int32} {rF : Nat → Int32} {rT : Nat → Int32} {rD : Nat → Int32} {ta' : Nat → Int32} : wd_up (mW g w h rf nt np mo gb wr nr su pr ob ki fi se ta nd ii sp qu rF rT rD) (h + 7) (wd_iA (g.2 0) 41984 (ta')) = (mW g w h rf nt np mo gb wr nr su pr ob ki fi se ta' nd ii sp qu rF rT rD) := by
  funext b
  unfold wd_up mW
  by_cases h9 : b = (h + 7)
  · rw [if_pos h9]
    subst h9
    rw [if_neg (by omega)]; rw [if_neg (by omega)]; rw [if_neg (by omega)]; rw [if_neg (by omega)]; rw [if_neg (by omega)]; rw [if_neg (by omega)]; rw [if_neg (by omega)]; rw [if_pos rfl]
  · rw [if_neg h9]
    simp only [if_neg h9]
theorem mW_s8 {g : gX} {w : wd_M} {h : Nat} {rf : Int32} {nt : Int32} {np : Int32} {mo : Int32} {gb : Int32} {wr : Int32} {nr : Int32} {su : Nat → Int32} {pr : Nat → Int32} {ob : Nat → Int32} {ki : Nat → Int32} {fi : Nat → Int32} {se : Nat → Int32} {ta : Nat → Int32} {nd : Nat → Int32} {ii : Nat → Int32} {sp : Nat → Int32} {qu : Nat → Int32} {rF : Nat → Int32} {rT : Nat → Int32} {rD : Nat → Int32} {nd' : Nat → Int32} : wd_up (mW g w h rf nt np mo gb wr nr su pr ob ki fi se ta nd ii sp qu rF rT rD) (h + 8) (wd_iA (g.2 1) 41 (nd')) = (mW g w h rf nt np mo gb wr nr su pr ob ki fi se ta nd' ii sp qu rF rT rD) := by
  funext b
  unfold wd_up mW
  by_cases h9 : b = (h + 8)
  · rw [if_pos h9]
    subst h9
    rw [if_neg (by omega)]; rw [if_neg (by omega)]; rw [if_neg (by omega)]; rw [if_neg (by omega)]; rw [if_neg (by omega)]; rw [if_neg (by omega)]; rw [if_neg (by omega)]; rw [if_neg (by omega)]; rw [if_pos rfl]
  · rw [if_neg h9]
    simp only [if_neg h9]
theorem mW_s9 {g : gX} {w : wd_M} {h : Nat} {rf : Int32} {nt : Int32} {np : Int32} {mo : Int32} {gb : Int32} {wr : Int32} {nr : Int32} {su : Nat → Int32} {pr : Nat → Int32} {ob : Nat → Int32} {ki : Nat → Int32} {fi : Nat → Int32} {se : Nat → Int32} {ta : Nat → Int32} {nd : Nat → Int32} {ii : Nat → Int32} {sp : Nat → Int32} {qu : Nat → Int32} {rF : Nat → Int32} {rT : Nat → Int32} {rD : Nat → Int32} {ii' : Nat → Int32} : wd_up (mW g w h rf nt np mo gb wr nr su pr ob ki fi se ta nd ii sp qu rF rT rD) (h + 9) (wd_iA (g.2 1) 32 (ii')) = (mW g w h rf nt np mo gb wr nr su pr ob ki fi se ta nd ii' sp qu rF rT rD) := by
  funext b
  unfold wd_up mW
  by_cases h9 : b = (h + 9)
  · rw [if_pos h9]
    subst h9
    rw [if_neg (by omega)]; rw [if_neg (by omega)]; rw [if_neg (by omega)]; rw [if_neg (by omega)]; rw [if_neg (by omega)]; rw [if_neg (by omega)]; rw [if_neg (by omega)]; rw [if_neg (by omega)]; rw [if_neg (by omega)]; rw [if_pos rfl]
  · rw [if_neg h9]
    simp only [if_neg h9]
theorem mW_s10 {g : gX} {w : wd_M} {h : Nat} {rf : Int32} {nt : Int32} {np : Int32} {mo : Int32} {gb : Int32} {wr : Int32} {nr : Int32} {su : Nat → Int32} {pr : Nat → Int32} {ob : Nat → Int32} {ki : Nat → Int32} {fi : Nat → Int32} {se : Nat → Int32} {ta : Nat → Int32} {nd : Nat → Int32} {ii : Nat → Int32} {sp : Nat → Int32} {qu : Nat → Int32} {rF : Nat → Int32} {rT : Nat → Int32} {rD : Nat → Int32} {sp' : Nat → Int32} : wd_up (mW g w h rf nt np mo gb wr nr su pr ob ki fi se ta nd ii sp qu rF rT rD) (h + 10) (wd_iA (g.2 0) 32 (sp')) = (mW g w h rf nt np mo gb wr nr su pr ob ki fi se ta nd ii sp' qu rF rT rD) := by
  funext b
  unfold wd_up mW
  by_cases h9 : b = (h + 10)
  · rw [if_pos h9]
    subst h9
    rw [if_neg (by omega)]; rw [if_neg (by omega)]; rw [if_neg (by omega)]; rw [if_neg (by omega)]; rw [if_neg (by omega)]; rw [if_neg (by omega)]; rw [if_neg (by omega)]; rw [if_neg (by omega)]; rw [if_neg (by omega)]; rw [if_neg (by omega)]; rw [if_pos rfl]
  · rw [if_neg h9]
    simp only [if_neg h9]
theorem mW_s11 {g : gX} {w : wd_M} {h : Nat} {rf : Int32} {nt : Int32} {np : Int32} {mo : Int32} {gb : Int32} {wr : Int32} {nr : Int32} {su : Nat → Int32} {pr : Nat → Int32} {ob : Nat → Int32} {ki : Nat → Int32} {fi : Nat → Int32} {se : Nat → Int32} {ta : Nat → Int32} {nd : Nat → Int32} {ii : Nat → Int32} {sp : Nat → Int32} {qu : Nat → Int32} {rF : Nat → Int32} {rT : Nat → Int32} {rD : Nat → Int32} {qu' : Nat → Int32} : wd_up (mW g w h rf nt np mo gb wr nr su pr ob ki fi se ta nd ii sp qu rF rT rD) (h + 11) (wd_iA (g.2 0) 32 (qu')) = (mW g w h rf nt np mo gb wr nr su pr ob ki fi se ta nd ii sp qu' rF rT rD) := by
  funext b
  unfold wd_up mW
  by_cases h9 : b = (h + 11)
  · rw [if_pos h9]
    subst h9
    rw [if_neg (by omega)]; rw [if_neg (by omega)]; rw [if_neg (by omega)]; rw [if_neg (by omega)]; rw [if_neg (by omega)]; rw [if_neg (by omega)]; rw [if_neg (by omega)]; rw [if_neg (by omega)]; rw [if_neg (by omega)]; rw [if_neg (by omega)]; rw [if_neg (by omega)]; rw [if_pos rfl]
  · rw [if_neg h9]
    simp only [if_neg h9]
theorem mW_s12 {g : gX} {w : wd_M} {h : Nat} {rf : Int32} {nt : Int32} {np : Int32} {mo : Int32} {gb : Int32} {wr : Int32} {nr : Int32} {su : Nat → Int32} {pr : Nat → Int32} {ob : Nat → Int32} {ki : Nat → Int32} {fi : Nat → Int32} {se : Nat → Int32} {ta : Nat → Int32} {nd : Nat → Int32} {ii : Nat → Int32} {sp : Nat → Int32} {qu : Nat → Int32} {rF : Nat → Int32} {rT : Nat → Int32} {rD : Nat → Int32} {rF' : Nat → Int32} : wd_up (mW g w h rf nt np mo gb wr nr su pr ob ki fi se ta nd ii sp qu rF rT rD) (h + 12) (wd_iA (g.2 0) 2000 (rF')) = (mW g w h rf nt np mo gb wr nr su pr ob ki fi se ta nd ii sp qu rF' rT rD) := by
  funext b
  unfold wd_up mW
  by_cases h9 : b = (h + 12)
  · rw [if_pos h9]
    subst h9
    rw [if_neg (by omega)]; rw [if_neg (by omega)]; rw [if_neg (by omega)]; rw [if_neg (by omega)]; rw [if_neg (by omega)]; rw [if_neg (by omega)]; rw [if_neg (by omega)]; rw [if_neg (by omega)]; rw [if_neg (by omega)]; rw [if_neg (by omega)]; rw [if_neg (by omega)]; rw [if_neg (by omega)]; rw [if_pos rfl]
  · rw [if_neg h9]
    simp only [if_neg h9]
theorem mW_s13 {g : gX} {w : wd_M} {h : Nat} {rf : Int32} {nt : Int32} {np : Int32} {mo : Int32} {gb : Int32} {wr : Int32} {nr : Int32} {su : Nat → Int32} {pr : Nat → Int32} {ob : Nat → Int32} {ki : Nat → Int32} {fi : Nat → Int32} {se : Nat → Int32} {ta : Nat → Int32} {nd : Nat → Int32} {ii : Nat → Int32} {sp : Nat → Int32} {qu : Nat → Int32} {rF : Nat → Int32} {rT : Nat → Int32} {rD : Nat → Int32} {rT' : Nat → Int32} : wd_up (mW g w h rf nt np mo gb wr nr su pr ob ki fi se ta nd ii sp qu rF rT rD) (h + 13) (wd_iA (g.2 0) 2000 (rT')) = (mW g w h rf nt np mo gb wr nr su pr ob ki fi se ta nd ii sp qu rF rT' rD) := by
  funext b
  unfold wd_up mW
  by_cases h9 : b = (h + 13)
  · rw [if_pos h9]
    subst h9
    rw [if_neg (by omega)]; rw [if_neg (by omega)]; rw [if_neg (by omega)]; rw [if_neg (by omega)]; rw [if_neg (by omega)]; rw [if_neg (by omega)]; rw [if_neg (by omega)]; rw [if_neg (by omega)]; rw [if_neg (by omega)]; rw [if_neg (by omega)]; rw [if_neg (by omega)]; rw [if_neg (by omega)]; rw [if_neg (by omega)]; rw [if_pos rfl]
  · rw [if_neg h9]
    simp only [if_neg h9]
theorem mW_s14 {g : gX} {w : wd_M} {h : Nat} {rf : Int32} {nt : Int32} {np : Int32} {mo : Int32} {gb : Int32} {wr : Int32} {nr : Int32} {su : Nat → Int32} {pr : Nat → Int32} {ob : Nat → Int32} {ki : Nat → Int32} {fi : Nat → Int32} {se : Nat → Int32} {ta : Nat → Int32} {nd : Nat → Int32} {ii : Nat → Int32} {sp : Nat → Int32} {qu : Nat → Int32} {rF : Nat → Int32} {rT : Nat → Int32} {rD : Nat → Int32} {rD' : Nat → Int32} : wd_up (mW g w h rf nt np mo gb wr nr su pr ob ki fi se ta nd ii sp qu rF rT rD) (h + 14) (wd_iA (g.2 0) 2000 (rD')) = (mW g w h rf nt np mo gb wr nr su pr ob ki fi se ta nd ii sp qu rF rT rD') := by
  funext b
  unfold wd_up mW
  by_cases h9 : b = (h + 14)
  · rw [if_pos h9]
    subst h9
    rw [if_neg (by omega)]; rw [if_neg (by omega)]; rw [if_neg (by omega)]; rw [if_neg (by omega)]; rw [if_neg (by omega)]; rw [if_neg (by omega)]; rw [if_neg (by omega)]; rw [if_neg (by omega)]; rw [if_neg (by omega)]; rw [if_neg (by omega)]; rw [if_neg (by omega)]; rw [if_neg (by omega)]; rw [if_neg (by omega)]; rw [if_neg (by omega)]; rw [if_pos rfl]
  · rw [if_neg h9]
    simp only [if_neg h9]
theorem mW_self {g : gX} {w : wd_M} {h : Nat} {rf : Int32} {nt : Int32} {np : Int32} {mo : Int32} {gb : Int32} {wr : Int32} {nr : Int32} {su : Nat → Int32} {pr : Nat → Int32} {ob : Nat → Int32} {ki : Nat → Int32} {fi : Nat → Int32} {se : Nat → Int32} {ta : Nat → Int32} {nd : Nat → Int32} {ii : Nat → Int32} {sp : Nat → Int32} {qu : Nat → Int32} {rF : Nat → Int32} {rT : Nat → Int32} {rD : Nat → Int32} (h0 : w h = some (.inr (5, [.int (rf), .ref (h + 1), .ref (h + 2), .ref (h + 3), .int (nt), .ref (h + 4), .ref (h + 5), .ref (h + 6), .int (np), .int (mo), .ref (h + 7), .ref (h + 8), .ref (h + 9), .int (gb), .ref (h + 10), .ref (h + 11), .int (wr), .int (nr), .ref (h + 12), .ref (h + 13), .ref (h + 14)]))) (h1 : w (h + 1) = some (wd_iA (g.2 0) 150 (su))) (h2 : w (h + 2) = some (wd_iA (g.2 0) 150 (pr))) (h3 : w (h + 3) = some (wd_iA (g.2 0) 150 (ob))) (h4 : w (h + 4) = some (wd_iA (g.2 0) 41 (ki))) (h5 : w (h + 5) = some (wd_iA (g.2 0) 41 (fi))) (h6 : w (h + 6) = some (wd_iA (g.2 0) 41 (se))) (h7 : w (h + 7) = some (wd_iA (g.2 0) 41984 (ta))) (h8 : w (h + 8) = some (wd_iA (g.2 1) 41 (nd))) (h9 : w (h + 9) = some (wd_iA (g.2 1) 32 (ii))) (h10 : w (h + 10) = some (wd_iA (g.2 0) 32 (sp))) (h11 : w (h + 11) = some (wd_iA (g.2 0) 32 (qu))) (h12 : w (h + 12) = some (wd_iA (g.2 0) 2000 (rF))) (h13 : w (h + 13) = some (wd_iA (g.2 0) 2000 (rT))) (h14 : w (h + 14) = some (wd_iA (g.2 0) 2000 (rD))) : (mW g w h rf nt np mo gb wr nr su pr ob ki fi se ta nd ii sp qu rF rT rD) = w := by
  funext b
  unfold mW
  by_cases e0 : b = h
  · rw [ if_pos e0, e0]; exact h0.symm
  by_cases e1 : b = (h + 1)
  · rw [if_neg e0, if_pos e1, e1]; exact h1.symm
  by_cases e2 : b = (h + 2)
  · rw [if_neg e0, if_neg e1, if_pos e2, e2]; exact h2.symm
  by_cases e3 : b = (h + 3)
  · rw [if_neg e0, if_neg e1, if_neg e2, if_pos e3, e3]; exact h3.symm
  by_cases e4 : b = (h + 4)
  · rw [if_neg e0, if_neg e1, if_neg e2, if_neg e3, if_pos e4, e4]; exact h4.symm
  by_cases e5 : b = (h + 5)
  · rw [if_neg e0, if_neg e1, if_neg e2, if_neg e3, if_neg e4, if_pos e5, e5]; exact h5.symm
  by_cases e6 : b = (h + 6)
  · rw [if_neg e0, if_neg e1, if_neg e2, if_neg e3, if_neg e4, if_neg e5, if_pos e6, e6]; exact h6.symm
  by_cases e7 : b = (h + 7)
  · rw [if_neg e0, if_neg e1, if_neg e2, if_neg e3, if_neg e4, if_neg e5, if_neg e6, if_pos e7, e7]; exact h7.symm
  by_cases e8 : b = (h + 8)
  · rw [if_neg e0, if_neg e1, if_neg e2, if_neg e3, if_neg e4, if_neg e5, if_neg e6, if_neg e7, if_pos e8, e8]; exact h8.symm
  by_cases e9 : b = (h + 9)
  · rw [if_neg e0, if_neg e1, if_neg e2, if_neg e3, if_neg e4, if_neg e5, if_neg e6, if_neg e7, if_neg e8, if_pos e9, e9]; exact h9.symm
  by_cases e10 : b = (h + 10)
  · rw [if_neg e0, if_neg e1, if_neg e2, if_neg e3, if_neg e4, if_neg e5, if_neg e6, if_neg e7, if_neg e8, if_neg e9, if_pos e10, e10]; exact h10.symm
  by_cases e11 : b = (h + 11)
  · rw [if_neg e0, if_neg e1, if_neg e2, if_neg e3, if_neg e4, if_neg e5, if_neg e6, if_neg e7, if_neg e8, if_neg e9, if_neg e10, if_pos e11, e11]; exact h11.symm
  by_cases e12 : b = (h + 12)
  · rw [if_neg e0, if_neg e1, if_neg e2, if_neg e3, if_neg e4, if_neg e5, if_neg e6, if_neg e7, if_neg e8, if_neg e9, if_neg e10, if_neg e11, if_pos e12, e12]; exact h12.symm
  by_cases e13 : b = (h + 13)
  · rw [if_neg e0, if_neg e1, if_neg e2, if_neg e3, if_neg e4, if_neg e5, if_neg e6, if_neg e7, if_neg e8, if_neg e9, if_neg e10, if_neg e11, if_neg e12, if_pos e13, e13]; exact h13.symm
  by_cases e14 : b = (h + 14)
  · rw [if_neg e0, if_neg e1, if_neg e2, if_neg e3, if_neg e4, if_neg e5, if_neg e6, if_neg e7, if_neg e8, if_neg e9, if_neg e10, if_neg e11, if_neg e12, if_neg e13, if_pos e14, e14]; exact h14.symm
  rw [if_neg e0, if_neg e1, if_neg e2, if_neg e3, if_neg e4, if_neg e5, if_neg e6, if_neg e7, if_neg e8, if_neg e9, if_neg e10, if_neg e11, if_neg e12, if_neg e13, if_neg e14]
def pW (g : gX) (w : wd_M) (q : Nat) (k : Int32) (kd : Int32) (li : Int32) (inn : Option Nat) (oth : Option Nat) (pa : Int64) (cs : Int32) (cg : Int32) (f : Nat → Int32) (j : Nat → Int32) : wd_M := fun a => if a = q then some (.inr (1, [.int (k), .int (kd), .int (li), va_rf (inn), va_rf (oth), .long (pa), .ref (q + 1), .ref (q + 2), .int (cs), .int (cg)])) else if a = (q + 1) then some (wd_iA (g.2 0) 1024 (f)) else if a = (q + 2) then some (wd_iA (g.2 0) 32 (j)) else w a
theorem pW_0 {g : gX} {w : wd_M} {q : Nat} {k : Int32} {kd : Int32} {li : Int32} {inn : Option Nat} {oth : Option Nat} {pa : Int64} {cs : Int32} {cg : Int32} {f : Nat → Int32} {j : Nat → Int32} : (pW g w q k kd li inn oth pa cs cg f j) q = some (.inr (1, [.int (k), .int (kd), .int (li), va_rf (inn), va_rf (oth), .long (pa), .ref (q + 1), .ref (q + 2), .int (cs), .int (cg)])) := by
  unfold pW
  rw [if_pos rfl]
theorem pW_1 {g : gX} {w : wd_M} {q : Nat} {k : Int32} {kd : Int32} {li : Int32} {inn : Option Nat} {oth : Option Nat} {pa : Int64} {cs : Int32} {cg : Int32} {f : Nat → Int32} {j : Nat → Int32} : (pW g w q k kd li inn oth pa cs cg f j) (q + 1) = some (wd_iA (g.2 0) 1024 (f)) := by
  unfold pW
  rw [if_neg (by omega)]
  rw [if_pos rfl]
theorem pW_2 {g : gX} {w : wd_M} {q : Nat} {k : Int32} {kd : Int32} {li : Int32} {inn : Option Nat} {oth : Option Nat} {pa : Int64} {cs : Int32} {cg : Int32} {f : Nat → Int32} {j : Nat → Int32} : (pW g w q k kd li inn oth pa cs cg f j) (q + 2) = some (wd_iA (g.2 0) 32 (j)) := by
  unfold pW
  rw [if_neg (by omega)]
  rw [if_neg (by omega)]
  rw [if_pos rfl]
theorem pW_out {g : gX} {w : wd_M} {q : Nat} {k : Int32} {kd : Int32} {li : Int32} {inn : Option Nat} {oth : Option Nat} {pa : Int64} {cs : Int32} {cg : Int32} {f : Nat → Int32} {j : Nat → Int32} {a : Nat} (h9 : a < q ∨ q + 3 ≤ a) : (pW g w q k kd li inn oth pa cs cg f j) a = w a := by
  unfold pW
  rw [if_neg (by omega)]
  rw [if_neg (by omega)]
  rw [if_neg (by omega)]
theorem pW_s0 {g : gX} {w : wd_M} {q : Nat} {k : Int32} {kd : Int32} {li : Int32} {inn : Option Nat} {oth : Option Nat} {pa : Int64} {cs : Int32} {cg : Int32} {f : Nat → Int32} {j : Nat → Int32} {k' : Int32} {kd' : Int32} {li' : Int32} {inn' : Option Nat} {oth' : Option Nat} {pa' : Int64} {cs' : Int32} {cg' : Int32} : wd_up (pW g w q k kd li inn oth pa cs cg f j) q (.inr (1, [.int (k'), .int (kd'), .int (li'), va_rf (inn'), va_rf (oth'), .long (pa'), .ref (q + 1), .ref (q + 2), .int (cs'), .int (cg')])) = (pW g w q k' kd' li' inn' oth' pa' cs' cg' f j) := by
  funext b
  unfold wd_up pW
  by_cases h9 : b = q
  · rw [if_pos h9]
    subst h9
    rw [if_pos rfl]
  · rw [if_neg h9]
    simp only [if_neg h9]
theorem pW_s1 {g : gX} {w : wd_M} {q : Nat} {k : Int32} {kd : Int32} {li : Int32} {inn : Option Nat} {oth : Option Nat} {pa : Int64} {cs : Int32} {cg : Int32} {f : Nat → Int32} {j : Nat → Int32} {f' : Nat → Int32} : wd_up (pW g w q k kd li inn oth pa cs cg f j) (q + 1) (wd_iA (g.2 0) 1024 (f')) = (pW g w q k kd li inn oth pa cs cg f' j) := by
  funext b
  unfold wd_up pW
  by_cases h9 : b = (q + 1)
  · rw [if_pos h9]
    subst h9
    rw [if_neg (by omega)]; rw [if_pos rfl]
  · rw [if_neg h9]
    simp only [if_neg h9]
theorem pW_s2 {g : gX} {w : wd_M} {q : Nat} {k : Int32} {kd : Int32} {li : Int32} {inn : Option Nat} {oth : Option Nat} {pa : Int64} {cs : Int32} {cg : Int32} {f : Nat → Int32} {j : Nat → Int32} {j' : Nat → Int32} : wd_up (pW g w q k kd li inn oth pa cs cg f j) (q + 2) (wd_iA (g.2 0) 32 (j')) = (pW g w q k kd li inn oth pa cs cg f j') := by
  funext b
  unfold wd_up pW
  by_cases h9 : b = (q + 2)
  · rw [if_pos h9]
    subst h9
    rw [if_neg (by omega)]; rw [if_neg (by omega)]; rw [if_pos rfl]
  · rw [if_neg h9]
    simp only [if_neg h9]
theorem pW_self {g : gX} {w : wd_M} {q : Nat} {k : Int32} {kd : Int32} {li : Int32} {inn : Option Nat} {oth : Option Nat} {pa : Int64} {cs : Int32} {cg : Int32} {f : Nat → Int32} {j : Nat → Int32} (h0 : w q = some (.inr (1, [.int (k), .int (kd), .int (li), va_rf (inn), va_rf (oth), .long (pa), .ref (q + 1), .ref (q + 2), .int (cs), .int (cg)]))) (h1 : w (q + 1) = some (wd_iA (g.2 0) 1024 (f))) (h2 : w (q + 2) = some (wd_iA (g.2 0) 32 (j))) : (pW g w q k kd li inn oth pa cs cg f j) = w := by
  funext b
  unfold pW
  by_cases e0 : b = q
  · rw [ if_pos e0, e0]; exact h0.symm
  by_cases e1 : b = (q + 1)
  · rw [if_neg e0, if_pos e1, e1]; exact h1.symm
  by_cases e2 : b = (q + 2)
  · rw [if_neg e0, if_neg e1, if_pos e2, e2]; exact h2.symm
  rw [if_neg e0, if_neg e1, if_neg e2]
def xW (g : gX) (w : wd_M) (x : Nat) (pc : Int32) (mo : Int32) (no : Int32) (sz : Int32) (rs : Int32) (wr : Int32) (lk : Nat → Int32) (ps : Nat → Option Nat) (fs : Nat → Int32) (ss : Nat → Int32) (ds : Nat → Int32) (lv : Nat → Int32) : wd_M := fun a => if a = x then some (.inr (4, [.ref (x + 1), .ref (x + 3), .ref (x + 4), .ref (x + 8), .int (pc), .int (mo)])) else if a = (x + 1) then some (.inr (3, [.ref (x + 2), .int (no), .int (sz)])) else if a = (x + 2) then some (wd_iA (g.2 0) 1024 (lk)) else if a = (x + 3) then some (wd_qA (g.2 2) 41 (ps)) else if a = (x + 4) then some (.inr (2, [.ref (x + 5), .ref (x + 6), .ref (x + 7), .int (rs), .int (wr)])) else if a = (x + 5) then some (wd_iA (g.2 0) 2000 (fs)) else if a = (x + 6) then some (wd_iA (g.2 0) 2000 (ss)) else if a = (x + 7) then some (wd_iA (g.2 0) 2000 (ds)) else if a = (x + 8) then some (wd_iA (g.2 0) 32 (lv)) else w a
theorem xW_0 {g : gX} {w : wd_M} {x : Nat} {pc : Int32} {mo : Int32} {no : Int32} {sz : Int32} {rs : Int32} {wr : Int32} {lk : Nat → Int32} {ps : Nat → Option Nat} {fs : Nat → Int32} {ss : Nat → Int32} {ds : Nat → Int32} {lv : Nat → Int32} : (xW g w x pc mo no sz rs wr lk ps fs ss ds lv) x = some (.inr (4, [.ref (x + 1), .ref (x + 3), .ref (x + 4), .ref (x + 8), .int (pc), .int (mo)])) := by
  unfold xW
  rw [if_pos rfl]
theorem xW_1 {g : gX} {w : wd_M} {x : Nat} {pc : Int32} {mo : Int32} {no : Int32} {sz : Int32} {rs : Int32} {wr : Int32} {lk : Nat → Int32} {ps : Nat → Option Nat} {fs : Nat → Int32} {ss : Nat → Int32} {ds : Nat → Int32} {lv : Nat → Int32} : (xW g w x pc mo no sz rs wr lk ps fs ss ds lv) (x + 1) = some (.inr (3, [.ref (x + 2), .int (no), .int (sz)])) := by
  unfold xW
  rw [if_neg (by omega)]
  rw [if_pos rfl]
theorem xW_2 {g : gX} {w : wd_M} {x : Nat} {pc : Int32} {mo : Int32} {no : Int32} {sz : Int32} {rs : Int32} {wr : Int32} {lk : Nat → Int32} {ps : Nat → Option Nat} {fs : Nat → Int32} {ss : Nat → Int32} {ds : Nat → Int32} {lv : Nat → Int32} : (xW g w x pc mo no sz rs wr lk ps fs ss ds lv) (x + 2) = some (wd_iA (g.2 0) 1024 (lk)) := by
  unfold xW
  rw [if_neg (by omega)]
  rw [if_neg (by omega)]
  rw [if_pos rfl]
theorem xW_3 {g : gX} {w : wd_M} {x : Nat} {pc : Int32} {mo : Int32} {no : Int32} {sz : Int32} {rs : Int32} {wr : Int32} {lk : Nat → Int32} {ps : Nat → Option Nat} {fs : Nat → Int32} {ss : Nat → Int32} {ds : Nat → Int32} {lv : Nat → Int32} : (xW g w x pc mo no sz rs wr lk ps fs ss ds lv) (x + 3) = some (wd_qA (g.2 2) 41 (ps)) := by
  unfold xW
  rw [if_neg (by omega)]
  rw [if_neg (by omega)]
  rw [if_neg (by omega)]
  rw [if_pos rfl]
theorem xW_4 {g : gX} {w : wd_M} {x : Nat} {pc : Int32} {mo : Int32} {no : Int32} {sz : Int32} {rs : Int32} {wr : Int32} {lk : Nat → Int32} {ps : Nat → Option Nat} {fs : Nat → Int32} {ss : Nat → Int32} {ds : Nat → Int32} {lv : Nat → Int32} : (xW g w x pc mo no sz rs wr lk ps fs ss ds lv) (x + 4) = some (.inr (2, [.ref (x + 5), .ref (x + 6), .ref (x + 7), .int (rs), .int (wr)])) := by
  unfold xW
  rw [if_neg (by omega)]
  rw [if_neg (by omega)]
  rw [if_neg (by omega)]
  rw [if_neg (by omega)]
  rw [if_pos rfl]
theorem xW_5 {g : gX} {w : wd_M} {x : Nat} {pc : Int32} {mo : Int32} {no : Int32} {sz : Int32} {rs : Int32} {wr : Int32} {lk : Nat → Int32} {ps : Nat → Option Nat} {fs : Nat → Int32} {ss : Nat → Int32} {ds : Nat → Int32} {lv : Nat → Int32} : (xW g w x pc mo no sz rs wr lk ps fs ss ds lv) (x + 5) = some (wd_iA (g.2 0) 2000 (fs)) := by
  unfold xW
  rw [if_neg (by omega)]
  rw [if_neg (by omega)]
  rw [if_neg (by omega)]
  rw [if_neg (by omega)]
  rw [if_neg (by omega)]
  rw [if_pos rfl]
theorem xW_6 {g : gX} {w : wd_M} {x : Nat} {pc : Int32} {mo : Int32} {no : Int32} {sz : Int32} {rs : Int32} {wr : Int32} {lk : Nat → Int32} {ps : Nat → Option Nat} {fs : Nat → Int32} {ss : Nat → Int32} {ds : Nat → Int32} {lv : Nat → Int32} : (xW g w x pc mo no sz rs wr lk ps fs ss ds lv) (x + 6) = some (wd_iA (g.2 0) 2000 (ss)) := by
  unfold xW
  rw [if_neg (by omega)]
  rw [if_neg (by omega)]
  rw [if_neg (by omega)]
  rw [if_neg (by omega)]
  rw [if_neg (by omega)]
  rw [if_neg (by omega)]
  rw [if_pos rfl]
theorem xW_7 {g : gX} {w : wd_M} {x : Nat} {pc : Int32} {mo : Int32} {no : Int32} {sz : Int32} {rs : Int32} {wr : Int32} {lk : Nat → Int32} {ps : Nat → Option Nat} {fs : Nat → Int32} {ss : Nat → Int32} {ds : Nat → Int32} {lv : Nat → Int32} : (xW g w x pc mo no sz rs wr lk ps fs ss ds lv) (x + 7) = some (wd_iA (g.2 0) 2000 (ds)) := by
  unfold xW
  rw [if_neg (by omega)]
  rw [if_neg (by omega)]
  rw [if_neg (by omega)]
  rw [if_neg (by omega)]
  rw [if_neg (by omega)]
  rw [if_neg (by omega)]
  rw [if_neg (by omega)]
  rw [if_pos rfl]
theorem xW_8 {g : gX} {w : wd_M} {x : Nat} {pc : Int32} {mo : Int32} {no : Int32} {sz : Int32} {rs : Int32} {wr : Int32} {lk : Nat → Int32} {ps : Nat → Option Nat} {fs : Nat → Int32} {ss : Nat → Int32} {ds : Nat → Int32} {lv : Nat → Int32} : (xW g w x pc mo no sz rs wr lk ps fs ss ds lv) (x + 8) = some (wd_iA (g.2 0) 32 (lv)) := by
  unfold xW
  rw [if_neg (by omega)]
  rw [if_neg (by omega)]
  rw [if_neg (by omega)]
  rw [if_neg (by omega)]
  rw [if_neg (by omega)]
  rw [if_neg (by omega)]
  rw [if_neg (by omega)]
  rw [if_neg (by omega)]
  rw [if_pos rfl]
theorem xW_out {g : gX} {w : wd_M} {x : Nat} {pc : Int32} {mo : Int32} {no : Int32} {sz : Int32} {rs : Int32} {wr : Int32} {lk : Nat → Int32} {ps : Nat → Option Nat} {fs : Nat → Int32} {ss : Nat → Int32} {ds : Nat → Int32} {lv : Nat → Int32} {a : Nat} (h9 : a < x ∨ x + 9 ≤ a) : (xW g w x pc mo no sz rs wr lk ps fs ss ds lv) a = w a := by
  unfold xW
  rw [if_neg (by omega)]
  rw [if_neg (by omega)]
  rw [if_neg (by omega)]
  rw [if_neg (by omega)]
  rw [if_neg (by omega)]
  rw [if_neg (by omega)]
  rw [if_neg (by omega)]
  rw [if_neg (by omega)]
  rw [if_neg (by omega)]
theorem xW_s0 {g : gX} {w : wd_M} {x : Nat} {pc : Int32} {mo : Int32} {no : Int32} {sz : Int32} {rs : Int32} {wr : Int32} {lk : Nat → Int32} {ps : Nat → Option Nat} {fs : Nat → Int32} {ss : Nat → Int32} {ds : Nat → Int32} {lv : Nat → Int32} {pc' : Int32} {mo' : Int32} : wd_up (xW g w x pc mo no sz rs wr lk ps fs ss ds lv) x (.inr (4, [.ref (x + 1), .ref (x + 3), .ref (x + 4), .ref (x + 8), .int (pc'), .int (mo')])) = (xW g w x pc' mo' no sz rs wr lk ps fs ss ds lv) := by
  funext b
  unfold wd_up xW
  by_cases h9 : b = x
  · rw [if_pos h9]
    subst h9
    rw [if_pos rfl]
  · rw [if_neg h9]
    simp only [if_neg h9]
theorem xW_s1 {g : gX} {w : wd_M} {x : Nat} {pc : Int32} {mo : Int32} {no : Int32} {sz : Int32} {rs : Int32} {wr : Int32} {lk : Nat → Int32} {ps : Nat → Option Nat} {fs : Nat → Int32} {ss : Nat → Int32} {ds : Nat → Int32} {lv : Nat → Int32} {no' : Int32} {sz' : Int32} : wd_up (xW g w x pc mo no sz rs wr lk ps fs ss ds lv) (x + 1) (.inr (3, [.ref (x + 2), .int (no'), .int (sz')])) = (xW g w x pc mo no' sz' rs wr lk ps fs ss ds lv) := by
  funext b
  unfold wd_up xW
  by_cases h9 : b = (x + 1)
  · rw [if_pos h9]
    subst h9
    rw [if_neg (by omega)]; rw [if_pos rfl]
  · rw [if_neg h9]
    simp only [if_neg h9]
theorem xW_s2 {g : gX} {w : wd_M} {x : Nat} {pc : Int32} {mo : Int32} {no : Int32} {sz : Int32} {rs : Int32} {wr : Int32} {lk : Nat → Int32} {ps : Nat → Option Nat} {fs : Nat → Int32} {ss : Nat → Int32} {ds : Nat → Int32} {lv : Nat → Int32} {lk' : Nat → Int32} : wd_up (xW g w x pc mo no sz rs wr lk ps fs ss ds lv) (x + 2) (wd_iA (g.2 0) 1024 (lk')) = (xW g w x pc mo no sz rs wr lk' ps fs ss ds lv) := by
  funext b
  unfold wd_up xW
  by_cases h9 : b = (x + 2)
  · rw [if_pos h9]
    subst h9
    rw [if_neg (by omega)]; rw [if_neg (by omega)]; rw [if_pos rfl]
  · rw [if_neg h9]
    simp only [if_neg h9]
theorem xW_s3 {g : gX} {w : wd_M} {x : Nat} {pc : Int32} {mo : Int32} {no : Int32} {sz : Int32} {rs : Int32} {wr : Int32} {lk : Nat → Int32} {ps : Nat → Option Nat} {fs : Nat → Int32} {ss : Nat → Int32} {ds : Nat → Int32} {lv : Nat → Int32} {ps' : Nat → Option Nat} : wd_up (xW g w x pc mo no sz rs wr lk ps fs ss ds lv) (x + 3) (wd_qA (g.2 2) 41 (ps')) = (xW g w x pc mo no sz rs wr lk ps' fs ss ds lv) := by
  funext b
  unfold wd_up xW
  by_cases h9 : b = (x + 3)
  · rw [if_pos h9]
    subst h9
    rw [if_neg (by omega)]; rw [if_neg (by omega)]; rw [if_neg (by omega)]; rw [if_pos rfl]
  · rw [if_neg h9]
    simp only [if_neg h9]
theorem xW_s4 {g : gX} {w : wd_M} {x : Nat} {pc : Int32} {mo : Int32} {no : Int32} {sz : Int32} {rs : Int32} {wr : Int32} {lk : Nat → Int32} {ps : Nat → Option Nat} {fs : Nat → Int32} {ss : Nat → Int32} {ds : Nat → Int32} {lv : Nat → Int32} {rs' : Int32} {wr' : Int32} : wd_up (xW g w x pc mo no sz rs wr lk ps fs ss ds lv) (x + 4) (.inr (2, [.ref (x + 5), .ref (x + 6), .ref (x + 7), .int (rs'), .int (wr')])) = (xW g w x pc mo no sz rs' wr' lk ps fs ss ds lv) := by
  funext b
  unfold wd_up xW
  by_cases h9 : b = (x + 4)
  · rw [if_pos h9]
    subst h9
    rw [if_neg (by omega)]; rw [if_neg (by omega)]; rw [if_neg (by omega)]; rw [if_neg (by omega)]; rw [if_pos rfl]
  · rw [if_neg h9]
    simp only [if_neg h9]
theorem xW_s5 {g : gX} {w : wd_M} {x : Nat} {pc : Int32} {mo : Int32} {no : Int32} {sz : Int32} {rs : Int32} {wr : Int32} {lk : Nat → Int32} {ps : Nat → Option Nat} {fs : Nat → Int32} {ss : Nat → Int32} {ds : Nat → Int32} {lv : Nat → Int32} {fs' : Nat → Int32} : wd_up (xW g w x pc mo no sz rs wr lk ps fs ss ds lv) (x + 5) (wd_iA (g.2 0) 2000 (fs')) = (xW g w x pc mo no sz rs wr lk ps fs' ss ds lv) := by
  funext b
  unfold wd_up xW
  by_cases h9 : b = (x + 5)
  · rw [if_pos h9]
    subst h9
    rw [if_neg (by omega)]; rw [if_neg (by omega)]; rw [if_neg (by omega)]; rw [if_neg (by omega)]; rw [if_neg (by omega)]; rw [if_pos rfl]
  · rw [if_neg h9]
    simp only [if_neg h9]
theorem xW_s6 {g : gX} {w : wd_M} {x : Nat} {pc : Int32} {mo : Int32} {no : Int32} {sz : Int32} {rs : Int32} {wr : Int32} {lk : Nat → Int32} {ps : Nat → Option Nat} {fs : Nat → Int32} {ss : Nat → Int32} {ds : Nat → Int32} {lv : Nat → Int32} {ss' : Nat → Int32} : wd_up (xW g w x pc mo no sz rs wr lk ps fs ss ds lv) (x + 6) (wd_iA (g.2 0) 2000 (ss')) = (xW g w x pc mo no sz rs wr lk ps fs ss' ds lv) := by
  funext b
  unfold wd_up xW
  by_cases h9 : b = (x + 6)
  · rw [if_pos h9]
    subst h9
    rw [if_neg (by omega)]; rw [if_neg (by omega)]; rw [if_neg (by omega)]; rw [if_neg (by omega)]; rw [if_neg (by omega)]; rw [if_neg (by omega)]; rw [if_pos rfl]
  · rw [if_neg h9]
    simp only [if_neg h9]
theorem xW_s7 {g : gX} {w : wd_M} {x : Nat} {pc : Int32} {mo : Int32} {no : Int32} {sz : Int32} {rs : Int32} {wr : Int32} {lk : Nat → Int32} {ps : Nat → Option Nat} {fs : Nat → Int32} {ss : Nat → Int32} {ds : Nat → Int32} {lv : Nat → Int32} {ds' : Nat → Int32} : wd_up (xW g w x pc mo no sz rs wr lk ps fs ss ds lv) (x + 7) (wd_iA (g.2 0) 2000 (ds')) = (xW g w x pc mo no sz rs wr lk ps fs ss ds' lv) := by
  funext b
  unfold wd_up xW
  by_cases h9 : b = (x + 7)
  · rw [if_pos h9]
    subst h9
    rw [if_neg (by omega)]; rw [if_neg (by omega)]; rw [if_neg (by omega)]; rw [if_neg (by omega)]; rw [if_neg (by omega)]; rw [if_neg (by omega)]; rw [if_neg (by omega)]; rw [if_pos rfl]
  · rw [if_neg h9]
    simp only [if_neg h9]
theorem xW_s8 {g : gX} {w : wd_M} {x : Nat} {pc : Int32} {mo : Int32} {no : Int32} {sz : Int32} {rs : Int32} {wr : Int32} {lk : Nat → Int32} {ps : Nat → Option Nat} {fs : Nat → Int32} {ss : Nat → Int32} {ds : Nat → Int32} {lv : Nat → Int32} {lv' : Nat → Int32} : wd_up (xW g w x pc mo no sz rs wr lk ps fs ss ds lv) (x + 8) (wd_iA (g.2 0) 32 (lv')) = (xW g w x pc mo no sz rs wr lk ps fs ss ds lv') := by
  funext b
  unfold wd_up xW
  by_cases h9 : b = (x + 8)
  · rw [if_pos h9]
    subst h9
    rw [if_neg (by omega)]; rw [if_neg (by omega)]; rw [if_neg (by omega)]; rw [if_neg (by omega)]; rw [if_neg (by omega)]; rw [if_neg (by omega)]; rw [if_neg (by omega)]; rw [if_neg (by omega)]; rw [if_pos rfl]
  · rw [if_neg h9]
    simp only [if_neg h9]
theorem xW_self {g : gX} {w : wd_M} {x : Nat} {pc : Int32} {mo : Int32} {no : Int32} {sz : Int32} {rs : Int32} {wr : Int32} {lk : Nat → Int32} {ps : Nat → Option Nat} {fs : Nat → Int32} {ss : Nat → Int32} {ds : Nat → Int32} {lv : Nat → Int32} (h0 : w x = some (.inr (4, [.ref (x + 1), .ref (x + 3), .ref (x + 4), .ref (x + 8), .int (pc), .int (mo)]))) (h1 : w (x + 1) = some (.inr (3, [.ref (x + 2), .int (no), .int (sz)]))) (h2 : w (x + 2) = some (wd_iA (g.2 0) 1024 (lk))) (h3 : w (x + 3) = some (wd_qA (g.2 2) 41 (ps))) (h4 : w (x + 4) = some (.inr (2, [.ref (x + 5), .ref (x + 6), .ref (x + 7), .int (rs), .int (wr)]))) (h5 : w (x + 5) = some (wd_iA (g.2 0) 2000 (fs))) (h6 : w (x + 6) = some (wd_iA (g.2 0) 2000 (ss))) (h7 : w (x + 7) = some (wd_iA (g.2 0) 2000 (ds))) (h8 : w (x + 8) = some (wd_iA (g.2 0) 32 (lv))) : (xW g w x pc mo no sz rs wr lk ps fs ss ds lv) = w := by
  funext b
  unfold xW
  by_cases e0 : b = x
  · rw [ if_pos e0, e0]; exact h0.symm
  by_cases e1 : b = (x + 1)
  · rw [if_neg e0, if_pos e1, e1]; exact h1.symm
  by_cases e2 : b = (x + 2)
  · rw [if_neg e0, if_neg e1, if_pos e2, e2]; exact h2.symm
  by_cases e3 : b = (x + 3)
  · rw [if_neg e0, if_neg e1, if_neg e2, if_pos e3, e3]; exact h3.symm
  by_cases e4 : b = (x + 4)
  · rw [if_neg e0, if_neg e1, if_neg e2, if_neg e3, if_pos e4, e4]; exact h4.symm
  by_cases e5 : b = (x + 5)
  · rw [if_neg e0, if_neg e1, if_neg e2, if_neg e3, if_neg e4, if_pos e5, e5]; exact h5.symm
  by_cases e6 : b = (x + 6)
  · rw [if_neg e0, if_neg e1, if_neg e2, if_neg e3, if_neg e4, if_neg e5, if_pos e6, e6]; exact h6.symm
  by_cases e7 : b = (x + 7)
  · rw [if_neg e0, if_neg e1, if_neg e2, if_neg e3, if_neg e4, if_neg e5, if_neg e6, if_pos e7, e7]; exact h7.symm
  by_cases e8 : b = (x + 8)
  · rw [if_neg e0, if_neg e1, if_neg e2, if_neg e3, if_neg e4, if_neg e5, if_neg e6, if_neg e7, if_pos e8, e8]; exact h8.symm
  rw [if_neg e0, if_neg e1, if_neg e2, if_neg e3, if_neg e4, if_neg e5, if_neg e6, if_neg e7, if_neg e8]
end
section
/-! THE REFERENCE: methods without a loop -/
theorem nI_o : nI 1 = 1 := by decide
theorem lc_le {x y : Int64} : lg_cmp x y ≤ 0 ↔ x ≤ y := by
  unfold lg_cmp
  rw [← Int64.not_lt]
  by_cases h : y < x
  · simp [h]
  · simp [h]
    by_cases h2 : x = y <;> simp_all
theorem lc_eq {x y : Int64} : lg_cmp x y = 0 ↔ x = y := by
  unfold lg_cmp
  by_cases h : y < x
  · simp [h]
    intro e
    subst e
    exact absurd h (fun q => by rw [Int64.lt_iff_toInt_lt] at q; omega)
  · simp [h]
theorem lc_ne {x y : Int64} : ¬ lg_cmp x y = 0 ↔ ¬ x = y := not_congr lc_eq
theorem zB_n {P : Prop} [Decidable P] : narrow .boolean (.int (zB P)) = .int (zB P) := by
  unfold zB
  split <;> rfl
theorem zB_1 {P : Prop} [Decidable P] : ¬ zB P = 0 ↔ P := by
  unfold zB
  by_cases h : P <;> simp [h]
theorem zB_0 {P : Prop} [Decidable P] : zB P = 0 ↔ ¬ P := by
  unfold zB
  by_cases h : P <;> simp [h]
theorem zB_c {P Q : Prop} [Decidable P] [Decidable Q] (h : P ↔ Q) : zB P = zB Q := by
  unfold zB
  by_cases hq : Q
  · rw [if_pos hq, if_pos (h.mpr hq)]
  · rw [if_neg hq, if_neg (fun q => hq (h.mp q))]
theorem mn_cap {V : Nat} (h : V < 2 ^ 63) (c : ¬ lN V ≤ lN 1000000) : min V 1000000 = 1000000 := by
  have := mt (pk_lLE h (by decide)).mpr c
  omega
theorem mn_low {V : Nat} (h : V < 2 ^ 63) (c : lN V ≤ lN 1000000) : min V 1000000 = V := by
  have := (pk_lLE h (by decide)).mp c
  omega
set_option maxHeartbeats 4000000 in
set_option maxRecDepth 100000 in
theorem c_X4_thrown (l : Launch) (g : gX) (s0 : Nat) (w : wd_M) (h : Nat) (hs0 : s0 ≤ h) (rf nt np mo gb wr nr : Int32) (su pr ob ki fi se ta nd ii sp qu rF rT rD : Nat → Int32)  : Met l yX4_thrown (Cond.code yX4_thrown cX4_thrown 1 (some .int) :: tg) ({ frames := 0, cells := 0, slots := 0, locals := 0 }) (cP g s0 (mW g w h rf nt np mo gb wr nr su pr ob ki fi se ta nd ii sp qu rF rT rD) [.ref h]) (cI g s0 (fun r w' => r = rf ∧ w' = (mW g w h rf nt np mo gb wr nr su pr ob ki fi se ta nd ii sp qu rF rT rD))) 0 0 (cA s0) := by
  refine Met.ofW (cc := cX4_thrown) (maxL := 1) (ret := some .int) (by decide) rfl ?_
  intro p e s m args below meth c s₁ B hml hv
  obtain ⟨rfl, h0s, hP, hK⟩ := hv
  have hx := B.exec
  have hb := B.bytes
  have hr := B.returns
  have hts := atoms_spec (ws := Cond.code yX4_thrown cX4_thrown 1 (some .int) :: tg) B.pre
  have hown : s.vm.findClass RX4 = some m.cls := findClass_of_methodNamed B.named
  have hlocks := B.notSynchronized
  have hS : gS s0 s.heap s.heap [] := va_S.rf
  have hRm : 0 ≤ (headSpec (Cond.code yX4_thrown cX4_thrown 1 (some .int) :: tg) ({ frames := 0, cells := 0, slots := 0, locals := 0 })).room.frames ∧ 0 ≤ (headSpec (Cond.code yX4_thrown cX4_thrown 1 (some .int) :: tg) ({ frames := 0, cells := 0, slots := 0, locals := 0 })).room.locals := ⟨Nat.le_refl _, Nat.le_refl _⟩
  have hcs : 0 + 0 ≤ (headSpec (Cond.code yX4_thrown cX4_thrown 1 (some .int) :: tg) ({ frames := 0, cells := 0, slots := 0, locals := 0 })).room.cells ∧ 0 + 0 ≤ (headSpec (Cond.code yX4_thrown cX4_thrown 1 (some .int) :: tg) ({ frames := 0, cells := 0, slots := 0, locals := 0 })).room.slots := ⟨Nat.zero_le _, Nat.zero_le _⟩
  have hl := lv_entry ([.ref h]) (n := 1) (Nat.le_of_ble_eq_true rfl)
  rw [lg_entry_eq]
  generalize (lg_sl ([.ref h]) ++ List.replicate (1 - (lg_sl ([.ref h])).length) Slot.unset).toArray = ls at hl ⊢
  have hl : lv_has ls 1 [(0, .ref h)] := hl
  refine lv_aload_n hx hb dX4_thrown_0 rfl (lv_at hl 0 rfl) ?_
  refine wd_get (ci := 5) (v := .int (rf)) (C := RX4) (T := TX4) (N := 21) hx hb hts iwX4 hown hK.1 hP (mW_0) rfl 0 (by decide) (hts _ (tg_tail _ tw_426)) (fun _ h9 => h9) rfl dX4_thrown_1 ?_
  exact W.iret (v := rf) hx hb hr (fun t ht hW => ⟨⟨_, (mW g w h rf nt np mo gb wr nr su pr ob ki fi se ta nd ii sp qu rF rT rD), rfl, ⟨rfl, rfl⟩, cB_of ht hP⟩, hS.F ht⟩) hS.2.2 dX4_thrown_4

theorem ti_m1 : (-1 : Int32).toInt = -1 := by decide
set_option maxHeartbeats 4000000 in
set_option maxRecDepth 100000 in
theorem c_X4_isEnd (l : Launch) (g : gX) (s0 : Nat) (w : wd_M) (v : Int32) : Met l yX4_isEnd (Cond.code yX4_isEnd cX4_isEnd 1 (some .boolean) :: tg) ({ frames := 0, cells := 0, slots := 0, locals := 0 }) (cP g s0 w [.int (v)]) (cI g s0 (fun r w' => r = zB (-1 ≤ v ∧ v < nI 32) ∧ w' = w)) 0 0 (cA s0) := by
  refine Met.ofW (cc := cX4_isEnd) (maxL := 1) (ret := some .boolean) (by decide) rfl ?_
  intro p e s m args below meth c s₁ B hml hv
  obtain ⟨rfl, h0s, hP, hK⟩ := hv
  have hx := B.exec
  have hb := B.bytes
  have hr := B.returns
  have hts := atoms_spec (ws := Cond.code yX4_isEnd cX4_isEnd 1 (some .boolean) :: tg) B.pre
  have hown : s.vm.findClass RX4 = some m.cls := findClass_of_methodNamed B.named
  have hlocks := B.notSynchronized
  have hS : gS s0 s.heap s.heap [] := va_S.rf
  have hRm : 0 ≤ (headSpec (Cond.code yX4_isEnd cX4_isEnd 1 (some .boolean) :: tg) ({ frames := 0, cells := 0, slots := 0, locals := 0 })).room.frames ∧ 0 ≤ (headSpec (Cond.code yX4_isEnd cX4_isEnd 1 (some .boolean) :: tg) ({ frames := 0, cells := 0, slots := 0, locals := 0 })).room.locals := ⟨Nat.le_refl _, Nat.le_refl _⟩
  have hcs : 0 + 0 ≤ (headSpec (Cond.code yX4_isEnd cX4_isEnd 1 (some .boolean) :: tg) ({ frames := 0, cells := 0, slots := 0, locals := 0 })).room.cells ∧ 0 + 0 ≤ (headSpec (Cond.code yX4_isEnd cX4_isEnd 1 (some .boolean) :: tg) ({ frames := 0, cells := 0, slots := 0, locals := 0 })).room.slots := ⟨Nat.zero_le _, Nat.zero_le _⟩
  have hl := lv_entry ([.int (v)]) (n := 1) (Nat.le_of_ble_eq_true rfl)
  rw [lg_entry_eq]
  generalize (lg_sl ([.int (v)]) ++ List.replicate (1 - (lg_sl ([.int (v)])).length) Slot.unset).toArray = ls at hl ⊢
  have hl : lv_has ls 1 [(0, .int (v))] := hl
  refine lv_iload_n hx hb dX4_isEnd_0 rfl (lv_at hl 0 rfl) ?_
  refine lv_iconst (v := (-1)) hx hb dX4_isEnd_1 (by decide) ?_
  refine lv_icmp_lt (tgt := 15) hx hb dX4_isEnd_2 (by decide) (fun c_2 => ?_) (fun c_2 => ?_)
  · refine lv_iconst (v := nI 0) hx hb dX4_isEnd_15 (by decide) ?_
    exact W.zret (ty := .boolean) (v := nI 0) hx hb hr (by rfl) (fun t ht hW => ⟨⟨_, w, rfl, ⟨by unfold zB; simp only [Int32.lt_iff_toInt_lt, Int32.le_iff_toInt_le, ti_32, ti_16, Int32.toInt_zero, ti_m1] at c_2 ⊢; split <;> first | rfl | (exfalso; omega), rfl⟩, cB_of ht hP⟩, hS.F ht⟩) hS.2.2 dX4_isEnd_16
  · refine lv_iload_n hx hb dX4_isEnd_5 rfl (lv_at hl 0 rfl) ?_
    refine lv_bipush (v := nI 32) hx hb dX4_isEnd_6 (by decide) ?_
    refine lv_icmp_ge (tgt := 15) hx hb dX4_isEnd_8 (by decide) (fun c_8 => ?_) (fun c_8 => ?_)
    · refine lv_iconst (v := nI 0) hx hb dX4_isEnd_15 (by decide) ?_
      exact W.zret (ty := .boolean) (v := nI 0) hx hb hr (by rfl) (fun t ht hW => ⟨⟨_, w, rfl, ⟨by unfold zB; simp only [Int32.lt_iff_toInt_lt, Int32.le_iff_toInt_le, ti_32, ti_16, Int32.toInt_zero, ti_m1] at c_2 c_8 ⊢; split <;> first | rfl | (exfalso; omega), rfl⟩, cB_of ht hP⟩, hS.F ht⟩) hS.2.2 dX4_isEnd_16
    · refine lv_iconst (v := nI 1) hx hb dX4_isEnd_11 (by decide) ?_
      refine lv_goto (tgt := 16) hx hb dX4_isEnd_12 (by decide) ?_
      exact W.zret (ty := .boolean) (v := nI 1) hx hb hr (by rfl) (fun t ht hW => ⟨⟨_, w, rfl, ⟨by unfold zB; simp only [Int32.lt_iff_toInt_lt, Int32.le_iff_toInt_le, ti_32, ti_16, Int32.toInt_zero, ti_m1] at c_2 c_8 ⊢; split <;> first | rfl | (exfalso; omega), rfl⟩, cB_of ht hP⟩, hS.F ht⟩) hS.2.2 dX4_isEnd_16

set_option maxHeartbeats 4000000 in
set_option maxRecDepth 100000 in
theorem c_X4_fits (l : Launch) (g : gX) (s0 : Nat) (w : wd_M) (x y a b : Int32) : Met l yX4_fits (Cond.code yX4_fits cX4_fits 4 (some .boolean) :: tg) ({ frames := 0, cells := 0, slots := 0, locals := 0 }) (cP g s0 w [.int (x), .int (y), .int (a), .int (b)]) (cI g s0 (fun r w' => r = zB ((a < 0 ∨ a = x) ∧ (b < 0 ∨ b = y)) ∧ w' = w)) 0 0 (cA s0) := by
  refine Met.ofW (cc := cX4_fits) (maxL := 4) (ret := some .boolean) (by decide) rfl ?_
  intro p e s m args below meth c s₁ B hml hv
  obtain ⟨rfl, h0s, hP, hK⟩ := hv
  have hx := B.exec
  have hb := B.bytes
  have hr := B.returns
  have hts := atoms_spec (ws := Cond.code yX4_fits cX4_fits 4 (some .boolean) :: tg) B.pre
  have hown : s.vm.findClass RX4 = some m.cls := findClass_of_methodNamed B.named
  have hlocks := B.notSynchronized
  have hS : gS s0 s.heap s.heap [] := va_S.rf
  have hRm : 0 ≤ (headSpec (Cond.code yX4_fits cX4_fits 4 (some .boolean) :: tg) ({ frames := 0, cells := 0, slots := 0, locals := 0 })).room.frames ∧ 0 ≤ (headSpec (Cond.code yX4_fits cX4_fits 4 (some .boolean) :: tg) ({ frames := 0, cells := 0, slots := 0, locals := 0 })).room.locals := ⟨Nat.le_refl _, Nat.le_refl _⟩
  have hcs : 0 + 0 ≤ (headSpec (Cond.code yX4_fits cX4_fits 4 (some .boolean) :: tg) ({ frames := 0, cells := 0, slots := 0, locals := 0 })).room.cells ∧ 0 + 0 ≤ (headSpec (Cond.code yX4_fits cX4_fits 4 (some .boolean) :: tg) ({ frames := 0, cells := 0, slots := 0, locals := 0 })).room.slots := ⟨Nat.zero_le _, Nat.zero_le _⟩
  have hl := lv_entry ([.int (x), .int (y), .int (a), .int (b)]) (n := 4) (Nat.le_of_ble_eq_true rfl)
  rw [lg_entry_eq]
  generalize (lg_sl ([.int (x), .int (y), .int (a), .int (b)]) ++ List.replicate (4 - (lg_sl ([.int (x), .int (y), .int (a), .int (b)])).length) Slot.unset).toArray = ls at hl ⊢
  have hl : lv_has ls 4 [(0, .int (x)), (1, .int (y)), (2, .int (a)), (3, .int (b))] := hl
  refine lv_iload_n hx hb dX4_fits_0 rfl (lv_at hl 2 rfl) ?_
  refine lv_if_lt (tgt := 9) hx hb dX4_fits_1 (by decide) (fun c_1 => ?_) (fun c_1 => ?_)
  · refine lv_iload_n hx hb dX4_fits_9 rfl (lv_at hl 3 rfl) ?_
    refine lv_if_lt (tgt := 18) hx hb dX4_fits_10 (by decide) (fun c_10 => ?_) (fun c_10 => ?_)
    · refine lv_iconst (v := nI 1) hx hb dX4_fits_18 (by decide) ?_
      refine lv_goto (tgt := 23) hx hb dX4_fits_19 (by decide) ?_
      exact W.zret (ty := .boolean) (v := nI 1) hx hb hr (by rfl) (fun t ht hW => ⟨⟨_, w, rfl, ⟨by unfold zB; simp [nI_0, nI_o, c_1, c_10], rfl⟩, cB_of ht hP⟩, hS.F ht⟩) hS.2.2 dX4_fits_23
    · refine lv_iload_n hx hb dX4_fits_13 rfl (lv_at hl 3 rfl) ?_
      refine lv_iload_n hx hb dX4_fits_14 rfl (lv_at hl 1 rfl) ?_
      refine lv_icmp_ne (tgt := 22) hx hb dX4_fits_15 (by decide) (fun c_15 => ?_) (fun c_15 => ?_)
      · refine lv_iconst (v := nI 0) hx hb dX4_fits_22 (by decide) ?_
        exact W.zret (ty := .boolean) (v := nI 0) hx hb hr (by rfl) (fun t ht hW => ⟨⟨_, w, rfl, ⟨by unfold zB; simp [nI_0, nI_o, c_1, c_10, c_15], rfl⟩, cB_of ht hP⟩, hS.F ht⟩) hS.2.2 dX4_fits_23
      · refine lv_iconst (v := nI 1) hx hb dX4_fits_18 (by decide) ?_
        refine lv_goto (tgt := 23) hx hb dX4_fits_19 (by decide) ?_
        exact W.zret (ty := .boolean) (v := nI 1) hx hb hr (by rfl) (fun t ht hW => ⟨⟨_, w, rfl, ⟨by unfold zB; simp [nI_0, nI_o, c_1, c_10, c_15], rfl⟩, cB_of ht hP⟩, hS.F ht⟩) hS.2.2 dX4_fits_23
  · refine lv_iload_n hx hb dX4_fits_4 rfl (lv_at hl 2 rfl) ?_
    refine lv_iload_n hx hb dX4_fits_5 rfl (lv_at hl 0 rfl) ?_
    refine lv_icmp_ne (tgt := 22) hx hb dX4_fits_6 (by decide) (fun c_6 => ?_) (fun c_6 => ?_)
    · refine lv_iconst (v := nI 0) hx hb dX4_fits_22 (by decide) ?_
      exact W.zret (ty := .boolean) (v := nI 0) hx hb hr (by rfl) (fun t ht hW => ⟨⟨_, w, rfl, ⟨by unfold zB; simp [nI_0, nI_o, c_1, c_6], rfl⟩, cB_of ht hP⟩, hS.F ht⟩) hS.2.2 dX4_fits_23
    · refine lv_iload_n hx hb dX4_fits_9 rfl (lv_at hl 3 rfl) ?_
      refine lv_if_lt (tgt := 18) hx hb dX4_fits_10 (by decide) (fun c_10 => ?_) (fun c_10 => ?_)
      · refine lv_iconst (v := nI 1) hx hb dX4_fits_18 (by decide) ?_
        refine lv_goto (tgt := 23) hx hb dX4_fits_19 (by decide) ?_
        exact W.zret (ty := .boolean) (v := nI 1) hx hb hr (by rfl) (fun t ht hW => ⟨⟨_, w, rfl, ⟨by unfold zB; simp [nI_0, nI_o, c_1, c_6, c_10], rfl⟩, cB_of ht hP⟩, hS.F ht⟩) hS.2.2 dX4_fits_23
      · refine lv_iload_n hx hb dX4_fits_13 rfl (lv_at hl 3 rfl) ?_
        refine lv_iload_n hx hb dX4_fits_14 rfl (lv_at hl 1 rfl) ?_
        refine lv_icmp_ne (tgt := 22) hx hb dX4_fits_15 (by decide) (fun c_15 => ?_) (fun c_15 => ?_)
        · refine lv_iconst (v := nI 0) hx hb dX4_fits_22 (by decide) ?_
          exact W.zret (ty := .boolean) (v := nI 0) hx hb hr (by rfl) (fun t ht hW => ⟨⟨_, w, rfl, ⟨by unfold zB; simp [nI_0, nI_o, c_1, c_6, c_10, c_15], rfl⟩, cB_of ht hP⟩, hS.F ht⟩) hS.2.2 dX4_fits_23
        · refine lv_iconst (v := nI 1) hx hb dX4_fits_18 (by decide) ?_
          refine lv_goto (tgt := 23) hx hb dX4_fits_19 (by decide) ?_
          exact W.zret (ty := .boolean) (v := nI 1) hx hb hr (by rfl) (fun t ht hW => ⟨⟨_, w, rfl, ⟨by unfold zB; simp [nI_0, nI_o, c_1, c_6, c_10, c_15], rfl⟩, cB_of ht hP⟩, hS.F ht⟩) hS.2.2 dX4_fits_23

set_option maxHeartbeats 4000000 in
set_option maxRecDepth 100000 in
theorem c_X4_isRow (l : Launch) (g : gX) (s0 : Nat) (w : wd_M) (h : Nat) (hs0 : s0 ≤ h) (rf nt np mo gb wr : Int32) (su pr ob ki fi se ta nd ii sp qu rF rT rD : Nat → Int32) (N : Nat) (hN : N ≤ 2000) (i : Int32) : Met l yX4_isRow (Cond.code yX4_isRow cX4_isRow 2 (some .boolean) :: tg) ({ frames := 0, cells := 0, slots := 0, locals := 0 }) (cP g s0 (mW g w h rf nt np mo gb wr (nI N) su pr ob ki fi se ta nd ii sp qu rF rT rD) [.ref h, .int (i)]) (cI g s0 (fun r w' => r = zB (¬ wr = 0 ∧ ¬ i < 0 ∧ ¬ nI N ≤ i) ∧ w' = (mW g w h rf nt np mo gb wr (nI N) su pr ob ki fi se ta nd ii sp qu rF rT rD))) 0 0 (cA s0) := by
  refine Met.ofW (cc := cX4_isRow) (maxL := 2) (ret := some .boolean) (by decide) rfl ?_
  intro p e s m args below meth c s₁ B hml hv
  obtain ⟨rfl, h0s, hP, hK⟩ := hv
  have hx := B.exec
  have hb := B.bytes
  have hr := B.returns
  have hts := atoms_spec (ws := Cond.code yX4_isRow cX4_isRow 2 (some .boolean) :: tg) B.pre
  have hown : s.vm.findClass RX4 = some m.cls := findClass_of_methodNamed B.named
  have hlocks := B.notSynchronized
  have hS : gS s0 s.heap s.heap [] := va_S.rf
  have hRm : 0 ≤ (headSpec (Cond.code yX4_isRow cX4_isRow 2 (some .boolean) :: tg) ({ frames := 0, cells := 0, slots := 0, locals := 0 })).room.frames ∧ 0 ≤ (headSpec (Cond.code yX4_isRow cX4_isRow 2 (some .boolean) :: tg) ({ frames := 0, cells := 0, slots := 0, locals := 0 })).room.locals := ⟨Nat.le_refl _, Nat.le_refl _⟩
  have hcs : 0 + 0 ≤ (headSpec (Cond.code yX4_isRow cX4_isRow 2 (some .boolean) :: tg) ({ frames := 0, cells := 0, slots := 0, locals := 0 })).room.cells ∧ 0 + 0 ≤ (headSpec (Cond.code yX4_isRow cX4_isRow 2 (some .boolean) :: tg) ({ frames := 0, cells := 0, slots := 0, locals := 0 })).room.slots := ⟨Nat.zero_le _, Nat.zero_le _⟩
  have hl := lv_entry ([.ref h, .int (i)]) (n := 2) (Nat.le_of_ble_eq_true rfl)
  rw [lg_entry_eq]
  generalize (lg_sl ([.ref h, .int (i)]) ++ List.replicate (2 - (lg_sl ([.ref h, .int (i)])).length) Slot.unset).toArray = ls at hl ⊢
  have hl : lv_has ls 2 [(0, .ref h), (1, .int (i))] := hl
  refine lv_aload_n hx hb dX4_isRow_0 rfl (lv_at hl 0 rfl) ?_
  refine wd_get (ci := 5) (v := .int (wr)) (C := RX4) (T := TX4) (N := 21) hx hb hts iwX4 hown hK.1 hP (mW_0) rfl 16 (by decide) (hts _ (tg_tail _ tw_442)) (fun _ h9 => h9) rfl dX4_isRow_1 ?_
  refine lv_if_eq (tgt := 23) hx hb dX4_isRow_4 (by decide) (fun c_4 => ?_) (fun c_4 => ?_)
  · refine lv_iconst (v := nI 0) hx hb dX4_isRow_23 (by decide) ?_
    exact W.zret (ty := .boolean) (v := nI 0) hx hb hr (by rfl) (fun t ht hW => ⟨⟨_, (mW g w h rf nt np mo gb wr (nI N) su pr ob ki fi se ta nd ii sp qu rF rT rD), rfl, ⟨by unfold zB; simp [nI_0, nI_o, c_4], rfl⟩, cB_of ht hP⟩, hS.F ht⟩) hS.2.2 dX4_isRow_24
  · refine lv_iload_n hx hb dX4_isRow_7 rfl (lv_at hl 1 rfl) ?_
    refine lv_if_lt (tgt := 23) hx hb dX4_isRow_8 (by decide) (fun c_8 => ?_) (fun c_8 => ?_)
    · refine lv_iconst (v := nI 0) hx hb dX4_isRow_23 (by decide) ?_
      exact W.zret (ty := .boolean) (v := nI 0) hx hb hr (by rfl) (fun t ht hW => ⟨⟨_, (mW g w h rf nt np mo gb wr (nI N) su pr ob ki fi se ta nd ii sp qu rF rT rD), rfl, ⟨by unfold zB; simp [nI_0, nI_o, c_4, c_8], rfl⟩, cB_of ht hP⟩, hS.F ht⟩) hS.2.2 dX4_isRow_24
    · refine lv_iload_n hx hb dX4_isRow_11 rfl (lv_at hl 1 rfl) ?_
      refine lv_aload_n hx hb dX4_isRow_12 rfl (lv_at hl 0 rfl) ?_
      refine wd_get (ci := 5) (v := .int (nI N)) (C := RX4) (T := TX4) (N := 21) hx hb hts iwX4 hown hK.1 hP (mW_0) rfl 17 (by decide) (hts _ (tg_tail _ tw_443)) (fun _ h9 => h9) rfl dX4_isRow_13 ?_
      refine lv_icmp_ge (tgt := 23) hx hb dX4_isRow_16 (by decide) (fun c_16 => ?_) (fun c_16 => ?_)
      · refine lv_iconst (v := nI 0) hx hb dX4_isRow_23 (by decide) ?_
        exact W.zret (ty := .boolean) (v := nI 0) hx hb hr (by rfl) (fun t ht hW => ⟨⟨_, (mW g w h rf nt np mo gb wr (nI N) su pr ob ki fi se ta nd ii sp qu rF rT rD), rfl, ⟨by unfold zB; simp [nI_0, nI_o, c_4, c_8, c_16], rfl⟩, cB_of ht hP⟩, hS.F ht⟩) hS.2.2 dX4_isRow_24
      · refine lv_iconst (v := nI 1) hx hb dX4_isRow_19 (by decide) ?_
        refine lv_goto (tgt := 24) hx hb dX4_isRow_20 (by decide) ?_
        exact W.zret (ty := .boolean) (v := nI 1) hx hb hr (by rfl) (fun t ht hW => ⟨⟨_, (mW g w h rf nt np mo gb wr (nI N) su pr ob ki fi se ta nd ii sp qu rF rT rD), rfl, ⟨by unfold zB; simp [nI_0, nI_o, c_4, c_8, c_16], rfl⟩, cB_of ht hP⟩, hS.F ht⟩) hS.2.2 dX4_isRow_24

set_option maxHeartbeats 4000000 in
set_option maxRecDepth 100000 in
theorem c_X4_cell (l : Launch) (g : gX) (s0 : Nat) (w : wd_M) (h : Nat) (hs0 : s0 ≤ h) (rf nt np mo gb wr nr : Int32) (su pr ob ki fi se ta nd ii sp qu rF rT rD : Nat → Int32) (u x y : Nat) (hp : u ≤ 40) (hx1 : x < 32) (hy1 : y < 32) : Met l yX4_cell (Cond.code yX4_cell cX4_cell 4 (some .int) :: tg) ({ frames := 0, cells := 0, slots := 0, locals := 0 }) (cP g s0 (mW g w h rf nt np mo gb wr nr su pr ob ki fi se ta nd ii sp qu rF rT rD) [.ref h, .int (nI u), .int (nI x), .int (nI y)]) (cI g s0 (fun r w' => r = ta (1024 * u + 32 * x + y) ∧ w' = (mW g w h rf nt np mo gb wr nr su pr ob ki fi se ta nd ii sp qu rF rT rD))) 0 0 (cA s0) := by
  refine Met.ofW (cc := cX4_cell) (maxL := 4) (ret := some .int) (by decide) rfl ?_
  intro p e s m args below meth c s₁ B hml hv
  obtain ⟨rfl, h0s, hP, hK⟩ := hv
  have hx := B.exec
  have hb := B.bytes
  have hr := B.returns
  have hts := atoms_spec (ws := Cond.code yX4_cell cX4_cell 4 (some .int) :: tg) B.pre
  have hown : s.vm.findClass RX4 = some m.cls := findClass_of_methodNamed B.named
  have hlocks := B.notSynchronized
  have hS : gS s0 s.heap s.heap [] := va_S.rf
  have hRm : 0 ≤ (headSpec (Cond.code yX4_cell cX4_cell 4 (some .int) :: tg) ({ frames := 0, cells := 0, slots := 0, locals := 0 })).room.frames ∧ 0 ≤ (headSpec (Cond.code yX4_cell cX4_cell 4 (some .int) :: tg) ({ frames := 0, cells := 0, slots := 0, locals := 0 })).room.locals := ⟨Nat.le_refl _, Nat.le_refl _⟩
  have hcs : 0 + 0 ≤ (headSpec (Cond.code yX4_cell cX4_cell 4 (some .int) :: tg) ({ frames := 0, cells := 0, slots := 0, locals := 0 })).room.cells ∧ 0 + 0 ≤ (headSpec (Cond.code yX4_cell cX4_cell 4 (some .int) :: tg) ({ frames := 0, cells := 0, slots := 0, locals := 0 })).room.slots := ⟨Nat.zero_le _, Nat.zero_le _⟩
  have hl := lv_entry ([.ref h, .int (nI u), .int (nI x), .int (nI y)]) (n := 4) (Nat.le_of_ble_eq_true rfl)
  rw [lg_entry_eq]
  generalize (lg_sl ([.ref h, .int (nI u), .int (nI x), .int (nI y)]) ++ List.replicate (4 - (lg_sl ([.ref h, .int (nI u), .int (nI x), .int (nI y)])).length) Slot.unset).toArray = ls at hl ⊢
  have hl : lv_has ls 4 [(0, .ref h), (1, .int (nI u)), (2, .int (nI x)), (3, .int (nI y))] := hl
  refine lv_aload_n hx hb dX4_cell_0 rfl (lv_at hl 0 rfl) ?_
  refine wd_get (ci := 5) (v := .ref (h + 7)) (C := RX4) (T := TX4) (N := 21) hx hb hts iwX4 hown hK.1 hP (mW_0) rfl 10 (by decide) (hts _ (tg_tail _ tw_436)) (fun _ h9 => h9) rfl dX4_cell_1 ?_
  refine lv_sipush (v := nI 1024) hx hb dX4_cell_4 (by decide +kernel) ?_
  refine lv_iload_n hx hb dX4_cell_7 rfl (lv_at hl 1 rfl) ?_
  refine lv_imul hx hb dX4_cell_8 ?_
  refine wd_ti (x' := nI (1024 * u)) (pk_mul _ _) ?_
  refine lv_bipush (v := nI 32) hx hb dX4_cell_9 (by decide) ?_
  refine lv_iload_n hx hb dX4_cell_11 rfl (lv_at hl 2 rfl) ?_
  refine lv_imul hx hb dX4_cell_12 ?_
  refine wd_ti (x' := nI (32 * x)) (pk_mul _ _) ?_
  refine lv_iadd hx hb dX4_cell_13 ?_
  refine wd_ti (x' := nI ((1024 * u) + (32 * x))) (nI_add _ _) ?_
  refine lv_iload_n hx hb dX4_cell_14 rfl (lv_at hl 3 rfl) ?_
  refine lv_iadd hx hb dX4_cell_15 ?_
  refine wd_ti (x' := nI (((1024 * u) + (32 * x)) + y)) (nI_add _ _) ?_
  refine wd_ildN hx hb hK.1 hP 0 (k := (((1024 * u) + (32 * x)) + y)) (mW_7) rfl (by omega) (by decide) dX4_cell_16 ?_
  exact W.iret (v := ta (((1024 * u) + (32 * x)) + y)) hx hb hr (fun t ht hW => ⟨⟨_, (mW g w h rf nt np mo gb wr nr su pr ob ki fi se ta nd ii sp qu rF rT rD), rfl, ⟨rfl, rfl⟩, cB_of ht hP⟩, hS.F ht⟩) hS.2.2 dX4_cell_17

set_option maxHeartbeats 4000000 in
set_option maxRecDepth 100000 in
theorem c_X4_put (l : Launch) (g : gX) (s0 : Nat) (w : wd_M) (h : Nat) (hs0 : s0 ≤ h) (rf nt np mo gb wr nr : Int32) (su pr ob ki fi se ta nd ii sp qu rF rT rD : Nat → Int32) (u x y V : Nat) (hp : u ≤ 40) (hx1 : x < 32) (hy1 : y < 32) (hV : V < 2 ^ 63) : Met l yX4_put (Cond.code yX4_put cX4_put 6 (none) :: tg) ({ frames := 0, cells := 0, slots := 0, locals := 0 }) (cP g s0 (mW g w h rf nt np mo gb wr nr su pr ob ki fi se ta nd ii sp qu rF rT rD) [.ref h, .int (nI u), .int (nI x), .int (nI y), .long (lN V)]) (cV g s0 (fun w' => w' = (mW g w h rf nt np mo gb wr nr su pr ob ki fi se (upd ta (1024 * u + 32 * x + y) (nI (min V 1000000))) nd ii sp qu rF rT rD))) 0 0 (cA s0) := by
  refine Met.ofW (cc := cX4_put) (maxL := 6) (ret := none) (by decide) rfl ?_
  intro p e s m args below meth c s₁ B hml hv
  obtain ⟨rfl, h0s, hP, hK⟩ := hv
  have hx := B.exec
  have hb := B.bytes
  have hr := B.returns
  have hts := atoms_spec (ws := Cond.code yX4_put cX4_put 6 (none) :: tg) B.pre
  have hown : s.vm.findClass RX4 = some m.cls := findClass_of_methodNamed B.named
  have hlocks := B.notSynchronized
  have hS : gS s0 s.heap s.heap [] := va_S.rf
  have hRm : 0 ≤ (headSpec (Cond.code yX4_put cX4_put 6 (none) :: tg) ({ frames := 0, cells := 0, slots := 0, locals := 0 })).room.frames ∧ 0 ≤ (headSpec (Cond.code yX4_put cX4_put 6 (none) :: tg) ({ frames := 0, cells := 0, slots := 0, locals := 0 })).room.locals := ⟨Nat.le_refl _, Nat.le_refl _⟩
  have hcs : 0 + 0 ≤ (headSpec (Cond.code yX4_put cX4_put 6 (none) :: tg) ({ frames := 0, cells := 0, slots := 0, locals := 0 })).room.cells ∧ 0 + 0 ≤ (headSpec (Cond.code yX4_put cX4_put 6 (none) :: tg) ({ frames := 0, cells := 0, slots := 0, locals := 0 })).room.slots := ⟨Nat.zero_le _, Nat.zero_le _⟩
  have hl := lv_entry ([.ref h, .int (nI u), .int (nI x), .int (nI y), .long (lN V)]) (n := 6) (Nat.le_of_ble_eq_true rfl)
  rw [lg_entry_eq]
  generalize (lg_sl ([.ref h, .int (nI u), .int (nI x), .int (nI y), .long (lN V)]) ++ List.replicate (6 - (lg_sl ([.ref h, .int (nI u), .int (nI x), .int (nI y), .long (lN V)])).length) Slot.unset).toArray = ls at hl ⊢
  have hl : lv_has ls 6 [(0, .ref h), (1, .int (nI u)), (2, .int (nI x)), (3, .int (nI y)), (4, .long (lN V))] := hl
  refine lv_aload_n hx hb dX4_put_0 rfl (lv_at hl 0 rfl) ?_
  refine wd_get (ci := 5) (v := .ref (h + 7)) (C := RX4) (T := TX4) (N := 21) hx hb hts iwX4 hown hK.1 hP (mW_0) rfl 10 (by decide) (hts _ (tg_tail _ tw_436)) (fun _ h9 => h9) rfl dX4_put_1 ?_
  refine lv_sipush (v := nI 1024) hx hb dX4_put_4 (by decide +kernel) ?_
  refine lv_iload_n hx hb dX4_put_7 rfl (lv_at hl 1 rfl) ?_
  refine lv_imul hx hb dX4_put_8 ?_
  refine wd_ti (x' := nI (1024 * u)) (pk_mul _ _) ?_
  refine lv_bipush (v := nI 32) hx hb dX4_put_9 (by decide) ?_
  refine lv_iload_n hx hb dX4_put_11 rfl (lv_at hl 2 rfl) ?_
  refine lv_imul hx hb dX4_put_12 ?_
  refine wd_ti (x' := nI (32 * x)) (pk_mul _ _) ?_
  refine lv_iadd hx hb dX4_put_13 ?_
  refine wd_ti (x' := nI ((1024 * u) + (32 * x))) (nI_add _ _) ?_
  refine lv_iload_n hx hb dX4_put_14 rfl (lv_at hl 3 rfl) ?_
  refine lv_iadd hx hb dX4_put_15 ?_
  refine wd_ti (x' := nI (((1024 * u) + (32 * x)) + y)) (nI_add _ _) ?_
  refine lv_lload hx hb dX4_put_16 (lv_at hl 4 rfl) ?_
  refine lv_ldc2 hx hb hown (hts _ (tg_tail _ tw_568)) dX4_put_18 ?_
  refine wd_tl (x' := lN 1000000) (by decide +kernel) ?_
  refine W.lcmp hx hb dX4_put_21 ?_
  refine lv_if_le (tgt := 31) hx hb dX4_put_22 (by decide) (fun c_22 => ?_) (fun c_22 => ?_)
  · have c_22 := lc_le.mp c_22
    refine lv_lload hx hb dX4_put_31 (lv_at hl 4 rfl) ?_
    refine lv_l2i (v := (lN V).toInt32) hx hb dX4_put_33 (rfl) ?_
    refine wd_istN hx hb hK.1 hP hS (by omega) 0 (k := (((1024 * u) + (32 * x)) + y)) (mW_7) rfl (by omega) (by decide) dX4_put_34 (fun H locs hP hS hz => ?_)
    have hP : gP g (mW g w h rf nt np mo gb wr nr su pr ob ki fi se (upd (ta) (((1024 * u) + (32 * x)) + y) ((lN V).toInt32)) nd ii sp qu rF rT rD) H := by have h9 : gP g (wd_up (mW g w h rf nt np mo gb wr nr su pr ob ki fi se ta nd ii sp qu rF rT rD) (h + 7) (wd_iA (g.2 0) 41984 (upd (ta) (((1024 * u) + (32 * x)) + y) ((lN V).toInt32)))) H := hP; rw [mW_s7] at h9; exact h9
    exact W.vret hx hb hr (fun t ht hW => ⟨⟨(mW g w h rf nt np mo gb wr nr su pr ob ki fi se (upd (ta) (((1024 * u) + (32 * x)) + y) ((lN V).toInt32)) nd ii sp qu rF rT rD), rfl, by rw [mn_low hV c_22, lN_i], cB_of ht hP⟩, hS.F ht⟩) hS.2.2 dX4_put_35
  · have c_22 := mt lc_le.mpr c_22
    refine lv_ldc2 hx hb hown (hts _ (tg_tail _ tw_568)) dX4_put_25 ?_
    refine wd_tl (x' := lN 1000000) (by decide +kernel) ?_
    refine lv_goto (tgt := 33) hx hb dX4_put_28 (by decide) ?_
    refine lv_l2i (v := (lN 1000000).toInt32) hx hb dX4_put_33 (rfl) ?_
    refine wd_istN hx hb hK.1 hP hS (by omega) 0 (k := (((1024 * u) + (32 * x)) + y)) (mW_7) rfl (by omega) (by decide) dX4_put_34 (fun H locs hP hS hz => ?_)
    have hP : gP g (mW g w h rf nt np mo gb wr nr su pr ob ki fi se (upd (ta) (((1024 * u) + (32 * x)) + y) ((lN 1000000).toInt32)) nd ii sp qu rF rT rD) H := by have h9 : gP g (wd_up (mW g w h rf nt np mo gb wr nr su pr ob ki fi se ta nd ii sp qu rF rT rD) (h + 7) (wd_iA (g.2 0) 41984 (upd (ta) (((1024 * u) + (32 * x)) + y) ((lN 1000000).toInt32)))) H := hP; rw [mW_s7] at h9; exact h9
    exact W.vret hx hb hr (fun t ht hW => ⟨⟨(mW g w h rf nt np mo gb wr nr su pr ob ki fi se (upd (ta) (((1024 * u) + (32 * x)) + y) ((lN 1000000).toInt32)) nd ii sp qu rF rT rD), rfl, by rw [mn_cap hV c_22, lN_i], cB_of ht hP⟩, hS.F ht⟩) hS.2.2 dX4_put_35

set_option maxHeartbeats 4000000 in
set_option maxRecDepth 100000 in
theorem c_X4_isNode (l : Launch) (g : gX) (s0 : Nat) (w : wd_M) (n : Int32) : Met l yX4_isNode (Cond.code yX4_isNode cX4_isNode 1 (some .boolean) :: tg) ({ frames := 1, cells := 0, slots := 0, locals := 22 }) (cP g s0 w [.int (n)]) (cI g s0 (fun r w' => r = zB (nI 0 ≤ n ∧ n ≤ nI 31) ∧ w' = w)) 0 0 (cA s0) := by
  refine Met.ofW (cc := cX4_isNode) (maxL := 1) (ret := some .boolean) (by decide) rfl ?_
  intro p e s m args below meth c s₁ B hml hv
  obtain ⟨rfl, h0s, hP, hK⟩ := hv
  have hx := B.exec
  have hb := B.bytes
  have hr := B.returns
  have hts := atoms_spec (ws := Cond.code yX4_isNode cX4_isNode 1 (some .boolean) :: tg) B.pre
  have hown : s.vm.findClass RX4 = some m.cls := findClass_of_methodNamed B.named
  have hlocks := B.notSynchronized
  have hS : gS s0 s.heap s.heap [] := va_S.rf
  have hRm : 1 ≤ (headSpec (Cond.code yX4_isNode cX4_isNode 1 (some .boolean) :: tg) ({ frames := 1, cells := 0, slots := 0, locals := 22 })).room.frames ∧ 22 ≤ (headSpec (Cond.code yX4_isNode cX4_isNode 1 (some .boolean) :: tg) ({ frames := 1, cells := 0, slots := 0, locals := 22 })).room.locals := ⟨Nat.le_refl _, Nat.le_refl _⟩
  have hcs : 0 + 0 ≤ (headSpec (Cond.code yX4_isNode cX4_isNode 1 (some .boolean) :: tg) ({ frames := 1, cells := 0, slots := 0, locals := 22 })).room.cells ∧ 0 + 0 ≤ (headSpec (Cond.code yX4_isNode cX4_isNode 1 (some .boolean) :: tg) ({ frames := 1, cells := 0, slots := 0, locals := 22 })).room.slots := ⟨Nat.zero_le _, Nat.zero_le _⟩
  have hl := lv_entry ([.int (n)]) (n := 1) (Nat.le_of_ble_eq_true rfl)
  rw [lg_entry_eq]
  generalize (lg_sl ([.int (n)]) ++ List.replicate (1 - (lg_sl ([.int (n)])).length) Slot.unset).toArray = ls at hl ⊢
  have hl : lv_has ls 1 [(0, .int (n))] := hl
  refine lv_iload_n hx hb dX4_isNode_0 rfl (lv_at hl 0 rfl) ?_
  refine lv_iconst (v := nI 0) hx hb dX4_isNode_1 (by decide) ?_
  refine lv_bipush (v := nI 31) hx hb dX4_isNode_2 (by decide) ?_
  refine cr_Si (As := [.int (n), .int (nI 0), .int (nI 31)]) (rest := []) ⟨hx, hb, hml, hown, hts⟩ (c_X4_isBetween l g s0 w n (nI 0) (nI 31)) (cw_S 3 hts tg_tail tw_502 tw_503 tw_4 tw_504 rfl rfl (by decide +kernel) ⟨Nat.le_trans (by decide) hRm.1, Nat.le_trans (by decide) hRm.2⟩) hK hP h0s hS rfl hl.1 rfl (Nat.le_of_ble_eq_true rfl) dX4_isNode_4 hcs (fun r1 w9 H locs hw hP hS => ?_)
  obtain ⟨e_r1, hw9⟩ := hw
  rw [hw9] at hP
  exact W.zret (ty := .boolean) (v := r1) hx hb hr (by rw [e_r1]; exact zB_n) (fun t ht hW => ⟨⟨_, w, rfl, ⟨e_r1, rfl⟩, cB_of ht hP⟩, hS.F ht⟩) hS.2.2 dX4_isNode_7

set_option maxHeartbeats 4000000 in
set_option maxRecDepth 100000 in
theorem c_X4_isPath (l : Launch) (g : gX) (s0 : Nat) (w : wd_M) (h : Nat) (hs0 : s0 ≤ h) (rf nt np mo gb wr nr : Int32) (su pr ob ki fi se ta nd ii sp qu rF rT rD : Nat → Int32) (n : Int32) : Met l yX4_isPath (Cond.code yX4_isPath cX4_isPath 2 (some .boolean) :: tg) ({ frames := 1, cells := 0, slots := 0, locals := 22 }) (cP g s0 (mW g w h rf nt np mo gb wr nr su pr ob ki fi se ta nd ii sp qu rF rT rD) [.ref h, .int (n)]) (cI g s0 (fun r w' => r = zB (nI 1 ≤ n ∧ n ≤ np) ∧ w' = (mW g w h rf nt np mo gb wr nr su pr ob ki fi se ta nd ii sp qu rF rT rD))) 0 0 (cA s0) := by
  refine Met.ofW (cc := cX4_isPath) (maxL := 2) (ret := some .boolean) (by decide) rfl ?_
  intro p e s m args below meth c s₁ B hml hv
  obtain ⟨rfl, h0s, hP, hK⟩ := hv
  have hx := B.exec
  have hb := B.bytes
  have hr := B.returns
  have hts := atoms_spec (ws := Cond.code yX4_isPath cX4_isPath 2 (some .boolean) :: tg) B.pre
  have hown : s.vm.findClass RX4 = some m.cls := findClass_of_methodNamed B.named
  have hlocks := B.notSynchronized
  have hS : gS s0 s.heap s.heap [] := va_S.rf
  have hRm : 1 ≤ (headSpec (Cond.code yX4_isPath cX4_isPath 2 (some .boolean) :: tg) ({ frames := 1, cells := 0, slots := 0, locals := 22 })).room.frames ∧ 22 ≤ (headSpec (Cond.code yX4_isPath cX4_isPath 2 (some .boolean) :: tg) ({ frames := 1, cells := 0, slots := 0, locals := 22 })).room.locals := ⟨Nat.le_refl _, Nat.le_refl _⟩
  have hcs : 0 + 0 ≤ (headSpec (Cond.code yX4_isPath cX4_isPath 2 (some .boolean) :: tg) ({ frames := 1, cells := 0, slots := 0, locals := 22 })).room.cells ∧ 0 + 0 ≤ (headSpec (Cond.code yX4_isPath cX4_isPath 2 (some .boolean) :: tg) ({ frames := 1, cells := 0, slots := 0, locals := 22 })).room.slots := ⟨Nat.zero_le _, Nat.zero_le _⟩
  have hl := lv_entry ([.ref h, .int (n)]) (n := 2) (Nat.le_of_ble_eq_true rfl)
  rw [lg_entry_eq]
  generalize (lg_sl ([.ref h, .int (n)]) ++ List.replicate (2 - (lg_sl ([.ref h, .int (n)])).length) Slot.unset).toArray = ls at hl ⊢
  have hl : lv_has ls 2 [(0, .ref h), (1, .int (n))] := hl
  refine lv_iload_n hx hb dX4_isPath_0 rfl (lv_at hl 1 rfl) ?_
  refine lv_iconst (v := nI 1) hx hb dX4_isPath_1 (by decide) ?_
  refine lv_aload_n hx hb dX4_isPath_2 rfl (lv_at hl 0 rfl) ?_
  refine wd_get (ci := 5) (v := .int (np)) (C := RX4) (T := TX4) (N := 21) hx hb hts iwX4 hown hK.1 hP (mW_0) rfl 8 (by decide) (hts _ (tg_tail _ tw_434)) (fun _ h9 => h9) rfl dX4_isPath_3 ?_
  refine cr_Si (As := [.int (n), .int (nI 1), .int (np)]) (rest := []) ⟨hx, hb, hml, hown, hts⟩ (c_X4_isBetween l g s0 (mW g w h rf nt np mo gb wr nr su pr ob ki fi se ta nd ii sp qu rF rT rD) n (nI 1) np) (cw_S 3 hts tg_tail tw_502 tw_503 tw_4 tw_504 rfl rfl (by decide +kernel) ⟨Nat.le_trans (by decide) hRm.1, Nat.le_trans (by decide) hRm.2⟩) hK hP h0s hS rfl hl.1 rfl (Nat.le_of_ble_eq_true rfl) dX4_isPath_6 hcs (fun r1 w9 H locs hw hP hS => ?_)
  obtain ⟨e_r1, hw9⟩ := hw
  rw [hw9] at hP
  exact W.zret (ty := .boolean) (v := r1) hx hb hr (by rw [e_r1]; exact zB_n) (fun t ht hW => ⟨⟨_, (mW g w h rf nt np mo gb wr nr su pr ob ki fi se ta nd ii sp qu rF rT rD), rfl, ⟨e_r1, rfl⟩, cB_of ht hP⟩, hS.F ht⟩) hS.2.2 dX4_isPath_9
end
section
/-! THE REFERENCE: its public methods without a loop -/
theorem ti_0 : (nI 0).toInt = 0 := by decide
set_option maxHeartbeats 4000000 in
set_option maxRecDepth 100000 in
theorem c_X4_made (l : Launch) (g : gX) (s0 : Nat) (w : wd_M) (h : Nat) (hs0 : s0 ≤ h) (rf nt mo gb wr nr : Int32) (su pr ob ki fi se ta nd ii sp qu rF rT rD : Nat → Int32) (P : Nat) (hP4 : P ≤ 40) (kind a b : Int32) : Met l yX4_made (Cond.code yX4_made cX4_made 4 (some .int) :: tg) ({ frames := 0, cells := 0, slots := 0, locals := 0 }) (cP g s0 (mW g w h rf nt (nI P) mo gb wr nr su pr ob ki fi se ta nd ii sp qu rF rT rD) [.ref h, .int (kind), .int (a), .int (b)]) (cI g s0 (fun r w' => ((P = 40 ∧ r = -4 ∧ w' = (mW g w h rf nt (nI P) mo gb wr nr su pr ob ki fi se ta nd ii sp qu rF rT rD)) ∨ (P < 40 ∧ r = nI (P + 1) ∧ w' = (mW g w h rf nt (nI (P + 1)) mo gb wr nr su pr ob (upd ki (P + 1) kind) (upd fi (P + 1) a) (upd se (P + 1) b) ta nd ii sp qu rF rT rD))))) 0 0 (cA s0) := by
  refine Met.ofW (cc := cX4_made) (maxL := 4) (ret := some .int) (by decide) rfl ?_
  intro p e s m args below meth c s₁ B9 hml hv
  obtain ⟨rfl, h0s, hP, hK⟩ := hv
  have hx := B9.exec
  have hb := B9.bytes
  have hr := B9.returns
  have hts := atoms_spec (ws := Cond.code yX4_made cX4_made 4 (some .int) :: tg) B9.pre
  have hown : s.vm.findClass RX4 = some m.cls := findClass_of_methodNamed B9.named
  have hlocks := B9.notSynchronized
  have hS : gS s0 s.heap s.heap [] := va_S.rf
  have hRm : 0 ≤ (headSpec (Cond.code yX4_made cX4_made 4 (some .int) :: tg) ({ frames := 0, cells := 0, slots := 0, locals := 0 })).room.frames ∧ 0 ≤ (headSpec (Cond.code yX4_made cX4_made 4 (some .int) :: tg) ({ frames := 0, cells := 0, slots := 0, locals := 0 })).room.locals := ⟨Nat.le_refl _, Nat.le_refl _⟩
  have hcs : 0 + 0 ≤ (headSpec (Cond.code yX4_made cX4_made 4 (some .int) :: tg) ({ frames := 0, cells := 0, slots := 0, locals := 0 })).room.cells ∧ 0 + 0 ≤ (headSpec (Cond.code yX4_made cX4_made 4 (some .int) :: tg) ({ frames := 0, cells := 0, slots := 0, locals := 0 })).room.slots := ⟨Nat.zero_le _, Nat.zero_le _⟩
  have hl := lv_entry ([.ref h, .int (kind), .int (a), .int (b)]) (n := 4) (Nat.le_of_ble_eq_true rfl)
  rw [lg_entry_eq]
  generalize (lg_sl ([.ref h, .int (kind), .int (a), .int (b)]) ++ List.replicate (4 - (lg_sl ([.ref h, .int (kind), .int (a), .int (b)])).length) Slot.unset).toArray = ls at hl ⊢
  have hl : lv_has ls 4 [(0, .ref h), (1, .int (kind)), (2, .int (a)), (3, .int (b))] := hl
  refine lv_aload_n hx hb dX4_made_0 rfl (lv_at hl 0 rfl) ?_
  refine wd_get (ci := 5) (v := .int (nI P)) (C := RX4) (T := TX4) (N := 21) hx hb hts iwX4 hown hK.1 hP (mW_0) rfl 8 (by decide) (hts _ (tg_tail _ tw_434)) (fun _ h9 => h9) rfl dX4_made_1 ?_
  refine lv_bipush (v := nI 40) hx hb dX4_made_4 (by decide) ?_
  refine lv_icmp_ne (tgt := 12) hx hb dX4_made_6 (by decide) (fun c_6 => ?_) (fun c_6 => ?_)
  · have c_6 := mt (nI_eq (a := P) (b := 40) (by omega) (by omega)).mpr c_6
    refine lv_aload_n hx hb dX4_made_12 rfl (lv_at hl 0 rfl) ?_
    refine lv_dup hx hb dX4_made_13 rfl ?_
    refine wd_get (ci := 5) (v := .int (nI P)) (C := RX4) (T := TX4) (N := 21) hx hb hts iwX4 hown hK.1 hP (mW_0) rfl 8 (by decide) (hts _ (tg_tail _ tw_434)) (fun _ h9 => h9) rfl dX4_made_14 ?_
    refine lv_iconst (v := nI 1) hx hb dX4_made_17 (by decide) ?_
    refine lv_iadd hx hb dX4_made_18 ?_
    refine wd_ti (x' := nI (P + 1)) (nI_add _ _) ?_
    refine wd_put (ci := 5) (v := .int (nI (P + 1))) (ty := .int) (C := RX4) (T := TX4) (N := 21) hx hb hts iwX4 tyX4 tyX4_ok nmX4 hown hK.1 hP hS (by omega) (mW_0) rfl 8 (by decide) (hts _ (tg_tail _ tw_434)) (fun _ h9 => h9) rfl (by decide +kernel) (rfl) (rfl) (Nat.le_of_ble_eq_true rfl) dX4_made_19 (fun H locs hP hS hz => ?_)
    have hP : gP g (mW g w h rf nt (nI (P + 1)) mo gb wr nr su pr ob ki fi se ta nd ii sp qu rF rT rD) H := by have h9 : gP g (wd_up (mW g w h rf nt (nI P) mo gb wr nr su pr ob ki fi se ta nd ii sp qu rF rT rD) h (.inr (5, [.int (rf), .ref (h + 1), .ref (h + 2), .ref (h + 3), .int (nt), .ref (h + 4), .ref (h + 5), .ref (h + 6), .int (nI (P + 1)), .int (mo), .ref (h + 7), .ref (h + 8), .ref (h + 9), .int (gb), .ref (h + 10), .ref (h + 11), .int (wr), .int (nr), .ref (h + 12), .ref (h + 13), .ref (h + 14)]))) H := hP; rw [mW_s0] at h9; exact h9
    refine lv_aload_n hx hb dX4_made_22 rfl (lv_at hl 0 rfl) ?_
    refine wd_get (ci := 5) (v := .ref (h + 4)) (C := RX4) (T := TX4) (N := 21) hx hb hts iwX4 hown hK.1 hP (mW_0) rfl 5 (by decide) (hts _ (tg_tail _ tw_431)) (fun _ h9 => h9) rfl dX4_made_23 ?_
    refine lv_aload_n hx hb dX4_made_26 rfl (lv_at hl 0 rfl) ?_
    refine wd_get (ci := 5) (v := .int (nI (P + 1))) (C := RX4) (T := TX4) (N := 21) hx hb hts iwX4 hown hK.1 hP (mW_0) rfl 8 (by decide) (hts _ (tg_tail _ tw_434)) (fun _ h9 => h9) rfl dX4_made_27 ?_
    refine lv_iload_n hx hb dX4_made_30 rfl (lv_at hl 1 rfl) ?_
    refine wd_istN hx hb hK.1 hP hS (by omega) 0 (k := (P + 1)) (mW_4) rfl (by omega) (by decide) dX4_made_31 (fun H locs hP hS hz => ?_)
    have hP : gP g (mW g w h rf nt (nI (P + 1)) mo gb wr nr su pr ob (upd (ki) (P + 1) (kind)) fi se ta nd ii sp qu rF rT rD) H := by have h9 : gP g (wd_up (mW g w h rf nt (nI (P + 1)) mo gb wr nr su pr ob ki fi se ta nd ii sp qu rF rT rD) (h + 4) (wd_iA (g.2 0) 41 (upd (ki) (P + 1) (kind)))) H := hP; rw [mW_s4] at h9; exact h9
    refine lv_aload_n hx hb dX4_made_32 rfl (lv_at hl 0 rfl) ?_
    refine wd_get (ci := 5) (v := .ref (h + 5)) (C := RX4) (T := TX4) (N := 21) hx hb hts iwX4 hown hK.1 hP (mW_0) rfl 6 (by decide) (hts _ (tg_tail _ tw_432)) (fun _ h9 => h9) rfl dX4_made_33 ?_
    refine lv_aload_n hx hb dX4_made_36 rfl (lv_at hl 0 rfl) ?_
    refine wd_get (ci := 5) (v := .int (nI (P + 1))) (C := RX4) (T := TX4) (N := 21) hx hb hts iwX4 hown hK.1 hP (mW_0) rfl 8 (by decide) (hts _ (tg_tail _ tw_434)) (fun _ h9 => h9) rfl dX4_made_37 ?_
    refine lv_iload_n hx hb dX4_made_40 rfl (lv_at hl 2 rfl) ?_
    refine wd_istN hx hb hK.1 hP hS (by omega) 0 (k := (P + 1)) (mW_5) rfl (by omega) (by decide) dX4_made_41 (fun H locs hP hS hz => ?_)
    have hP : gP g (mW g w h rf nt (nI (P + 1)) mo gb wr nr su pr ob (upd (ki) (P + 1) (kind)) (upd (fi) (P + 1) (a)) se ta nd ii sp qu rF rT rD) H := by have h9 : gP g (wd_up (mW g w h rf nt (nI (P + 1)) mo gb wr nr su pr ob (upd (ki) (P + 1) (kind)) fi se ta nd ii sp qu rF rT rD) (h + 5) (wd_iA (g.2 0) 41 (upd (fi) (P + 1) (a)))) H := hP; rw [mW_s5] at h9; exact h9
    refine lv_aload_n hx hb dX4_made_42 rfl (lv_at hl 0 rfl) ?_
    refine wd_get (ci := 5) (v := .ref (h + 6)) (C := RX4) (T := TX4) (N := 21) hx hb hts iwX4 hown hK.1 hP (mW_0) rfl 7 (by decide) (hts _ (tg_tail _ tw_433)) (fun _ h9 => h9) rfl dX4_made_43 ?_
    refine lv_aload_n hx hb dX4_made_46 rfl (lv_at hl 0 rfl) ?_
    refine wd_get (ci := 5) (v := .int (nI (P + 1))) (C := RX4) (T := TX4) (N := 21) hx hb hts iwX4 hown hK.1 hP (mW_0) rfl 8 (by decide) (hts _ (tg_tail _ tw_434)) (fun _ h9 => h9) rfl dX4_made_47 ?_
    refine lv_iload_n hx hb dX4_made_50 rfl (lv_at hl 3 rfl) ?_
    refine wd_istN hx hb hK.1 hP hS (by omega) 0 (k := (P + 1)) (mW_6) rfl (by omega) (by decide) dX4_made_51 (fun H locs hP hS hz => ?_)
    have hP : gP g (mW g w h rf nt (nI (P + 1)) mo gb wr nr su pr ob (upd (ki) (P + 1) (kind)) (upd (fi) (P + 1) (a)) (upd (se) (P + 1) (b)) ta nd ii sp qu rF rT rD) H := by have h9 : gP g (wd_up (mW g w h rf nt (nI (P + 1)) mo gb wr nr su pr ob (upd (ki) (P + 1) (kind)) (upd (fi) (P + 1) (a)) se ta nd ii sp qu rF rT rD) (h + 6) (wd_iA (g.2 0) 41 (upd (se) (P + 1) (b)))) H := hP; rw [mW_s6] at h9; exact h9
    refine lv_aload_n hx hb dX4_made_52 rfl (lv_at hl 0 rfl) ?_
    refine wd_get (ci := 5) (v := .int (nI (P + 1))) (C := RX4) (T := TX4) (N := 21) hx hb hts iwX4 hown hK.1 hP (mW_0) rfl 8 (by decide) (hts _ (tg_tail _ tw_434)) (fun _ h9 => h9) rfl dX4_made_53 ?_
    exact W.iret (v := nI (P + 1)) hx hb hr (fun t ht hW => ⟨⟨_, (mW g w h rf nt (nI (P + 1)) mo gb wr nr su pr ob (upd (ki) (P + 1) (kind)) (upd (fi) (P + 1) (a)) (upd (se) (P + 1) (b)) ta nd ii sp qu rF rT rD), rfl, Or.inr ⟨by omega, rfl, rfl⟩, cB_of ht hP⟩, hS.F ht⟩) hS.2.2 dX4_made_56
  · have c_6 := (nI_eq (a := P) (b := 40) (by omega) (by omega)).mp c_6
    refine lv_bipush (v := (-4)) hx hb dX4_made_9 (by decide) ?_
    exact W.iret (v := (-4)) hx hb hr (fun t ht hW => ⟨⟨_, (mW g w h rf nt (nI P) mo gb wr nr su pr ob ki fi se ta nd ii sp qu rF rT rD), rfl, Or.inl ⟨c_6, rfl, rfl⟩, cB_of ht hP⟩, hS.F ht⟩) hS.2.2 dX4_made_11

set_option maxHeartbeats 4000000 in
set_option maxRecDepth 100000 in
theorem c_X4_path (l : Launch) (g : gX) (s0 : Nat) (w : wd_M) (h : Nat) (hs0 : s0 ≤ h) (rf nt mo gb wr nr : Int32) (su pr ob ki fi se ta nd ii sp qu rF rT rD : Nat → Int32) (P : Nat) (hP4 : P ≤ 40) (kind a b : Int32) : Met l yX4_path (Cond.code yX4_path cX4_path 4 (some .int) :: tg) ({ frames := 2, cells := 0, slots := 0, locals := 46 }) (cP g s0 (mW g w h rf nt (nI P) mo gb wr nr su pr ob ki fi se ta nd ii sp qu rF rT rD) [.ref h, .int (kind), .int (a), .int (b)]) (cI g s0 (fun r w' => (((nI 1 ≤ kind ∧ kind ≤ nI 6) ∧ ¬ (nI 1 ≤ a ∧ a ≤ nI P) ∨ (nI 2 ≤ kind ∧ kind ≤ nI 3) ∧ ¬ (nI 1 ≤ b ∧ b ≤ nI P)) ∧ r = -1 ∧ w' = (mW g w h (nI 0) nt (nI P) mo gb wr nr su pr ob ki fi se ta nd ii sp qu rF rT rD)) ∨ (¬ ((nI 1 ≤ kind ∧ kind ≤ nI 6) ∧ ¬ (nI 1 ≤ a ∧ a ≤ nI P) ∨ (nI 2 ≤ kind ∧ kind ≤ nI 3) ∧ ¬ (nI 1 ≤ b ∧ b ≤ nI P)) ∧ (¬ (nI 0 ≤ kind ∧ kind ≤ nI 6) ∨ (kind = 0 ∧ ¬ (nI 0 ≤ a ∧ a ≤ nI 15))) ∧ r = -2 ∧ w' = (mW g w h (nI 0) nt (nI P) mo gb wr nr su pr ob ki fi se ta nd ii sp qu rF rT rD)) ∨ (¬ ((nI 1 ≤ kind ∧ kind ≤ nI 6) ∧ ¬ (nI 1 ≤ a ∧ a ≤ nI P) ∨ (nI 2 ≤ kind ∧ kind ≤ nI 3) ∧ ¬ (nI 1 ≤ b ∧ b ≤ nI P)) ∧ ¬ (¬ (nI 0 ≤ kind ∧ kind ≤ nI 6) ∨ (kind = 0 ∧ ¬ (nI 0 ≤ a ∧ a ≤ nI 15))) ∧ ((P = 40 ∧ r = -4 ∧ w' = (mW g w h (nI 0) nt (nI P) mo gb wr nr su pr ob ki fi se ta nd ii sp qu rF rT rD)) ∨ (P < 40 ∧ r = nI (P + 1) ∧ w' = (mW g w h (nI 0) nt (nI (P + 1)) mo gb wr nr su pr ob (upd ki (P + 1) kind) (upd fi (P + 1) a) (upd se (P + 1) b) ta nd ii sp qu rF rT rD)))))) 0 0 (cA s0) := by
  refine Met.ofW (cc := cX4_path) (maxL := 4) (ret := some .int) (by decide) rfl ?_
  intro p e s m args below meth c s₁ B9 hml hv
  obtain ⟨rfl, h0s, hP, hK⟩ := hv
  have hx := B9.exec
  have hb := B9.bytes
  have hr := B9.returns
  have hts := atoms_spec (ws := Cond.code yX4_path cX4_path 4 (some .int) :: tg) B9.pre
  have hown : s.vm.findClass RX4 = some m.cls := findClass_of_methodNamed B9.named
  have hlocks := B9.notSynchronized
  have hS : gS s0 s.heap s.heap [] := va_S.rf
  have hRm : 2 ≤ (headSpec (Cond.code yX4_path cX4_path 4 (some .int) :: tg) ({ frames := 2, cells := 0, slots := 0, locals := 46 })).room.frames ∧ 46 ≤ (headSpec (Cond.code yX4_path cX4_path 4 (some .int) :: tg) ({ frames := 2, cells := 0, slots := 0, locals := 46 })).room.locals := ⟨Nat.le_refl _, Nat.le_refl _⟩
  have hcs : 0 + 0 ≤ (headSpec (Cond.code yX4_path cX4_path 4 (some .int) :: tg) ({ frames := 2, cells := 0, slots := 0, locals := 46 })).room.cells ∧ 0 + 0 ≤ (headSpec (Cond.code yX4_path cX4_path 4 (some .int) :: tg) ({ frames := 2, cells := 0, slots := 0, locals := 46 })).room.slots := ⟨Nat.zero_le _, Nat.zero_le _⟩
  have hl := lv_entry ([.ref h, .int (kind), .int (a), .int (b)]) (n := 4) (Nat.le_of_ble_eq_true rfl)
  rw [lg_entry_eq]
  generalize (lg_sl ([.ref h, .int (kind), .int (a), .int (b)]) ++ List.replicate (4 - (lg_sl ([.ref h, .int (kind), .int (a), .int (b)])).length) Slot.unset).toArray = ls at hl ⊢
  have hl : lv_has ls 4 [(0, .ref h), (1, .int (kind)), (2, .int (a)), (3, .int (b))] := hl
  refine lv_aload_n hx hb dX4_path_0 rfl (lv_at hl 0 rfl) ?_
  refine lv_iconst (v := nI 0) hx hb dX4_path_1 (by decide) ?_
  refine wd_put (ci := 5) (v := .int (nI 0)) (ty := .int) (C := RX4) (T := TX4) (N := 21) hx hb hts iwX4 tyX4 tyX4_ok nmX4 hown hK.1 hP hS (by omega) (mW_0) rfl 0 (by decide) (hts _ (tg_tail _ tw_426)) (fun _ h9 => h9) rfl (by decide +kernel) (rfl) (rfl) (Nat.le_of_ble_eq_true rfl) dX4_path_2 (fun H locs hP hS hz => ?_)
  have hP : gP g (mW g w h (nI 0) nt (nI P) mo gb wr nr su pr ob ki fi se ta nd ii sp qu rF rT rD) H := by have h9 : gP g (wd_up (mW g w h rf nt (nI P) mo gb wr nr su pr ob ki fi se ta nd ii sp qu rF rT rD) h (.inr (5, [.int (nI 0), .ref (h + 1), .ref (h + 2), .ref (h + 3), .int (nt), .ref (h + 4), .ref (h + 5), .ref (h + 6), .int (nI P), .int (mo), .ref (h + 7), .ref (h + 8), .ref (h + 9), .int (gb), .ref (h + 10), .ref (h + 11), .int (wr), .int (nr), .ref (h + 12), .ref (h + 13), .ref (h + 14)]))) H := hP; rw [mW_s0] at h9; exact h9
  refine lv_iload_n hx hb dX4_path_5 rfl (lv_at hl 1 rfl) ?_
  refine lv_iconst (v := nI 1) hx hb dX4_path_6 (by decide) ?_
  refine lv_bipush (v := nI 6) hx hb dX4_path_7 (by decide) ?_
  refine cr_Si (As := [.int (kind), .int (nI 1), .int (nI 6)]) (rest := []) ⟨hx, hb, hml, hown, hts⟩ (c_X4_isBetween l g s0 (mW g w h (nI 0) nt (nI P) mo gb wr nr su pr ob ki fi se ta nd ii sp qu rF rT rD) (kind) (nI 1) (nI 6)) (cw_S 3 hts tg_tail tw_502 tw_503 tw_4 tw_504 rfl rfl (by decide +kernel) ⟨Nat.le_trans (by decide) hRm.1, Nat.le_trans (by decide) hRm.2⟩) hK hP h0s hS rfl hl.1 rfl (Nat.le_of_ble_eq_true rfl) dX4_path_9 hcs (fun r9 w9 H locs hw hP hS => ?_)
  obtain ⟨e_r9, hw9⟩ := hw
  rw [hw9] at hP
  subst e_r9
  refine lv_if_eq (tgt := 23) hx hb dX4_path_12 (by decide) (fun c_12 => ?_) (fun c_12 => ?_)
  · have c_12 := zB_0.mp c_12
    refine lv_iload_n hx hb dX4_path_23 rfl (lv_at hl 1 rfl) ?_
    refine lv_iconst (v := nI 2) hx hb dX4_path_24 (by decide) ?_
    refine lv_iconst (v := nI 3) hx hb dX4_path_25 (by decide) ?_
    refine cr_Si (As := [.int (kind), .int (nI 2), .int (nI 3)]) (rest := []) ⟨hx, hb, hml, hown, hts⟩ (c_X4_isBetween l g s0 (mW g w h (nI 0) nt (nI P) mo gb wr nr su pr ob ki fi se ta nd ii sp qu rF rT rD) (kind) (nI 2) (nI 3)) (cw_S 3 hts tg_tail tw_502 tw_503 tw_4 tw_504 rfl rfl (by decide +kernel) ⟨Nat.le_trans (by decide) hRm.1, Nat.le_trans (by decide) hRm.2⟩) hK hP h0s hS rfl hl.1 rfl (Nat.le_of_ble_eq_true rfl) dX4_path_26 hcs (fun r9 w9 H locs hw hP hS => ?_)
    obtain ⟨e_r9, hw9⟩ := hw
    rw [hw9] at hP
    subst e_r9
    refine lv_if_eq (tgt := 42) hx hb dX4_path_29 (by decide) (fun c_29 => ?_) (fun c_29 => ?_)
    · have c_29 := zB_0.mp c_29
      refine lv_iload_n hx hb dX4_path_42 rfl (lv_at hl 1 rfl) ?_
      refine lv_iconst (v := nI 0) hx hb dX4_path_43 (by decide) ?_
      refine lv_bipush (v := nI 6) hx hb dX4_path_44 (by decide) ?_
      refine cr_Si (As := [.int (kind), .int (nI 0), .int (nI 6)]) (rest := []) ⟨hx, hb, hml, hown, hts⟩ (c_X4_isBetween l g s0 (mW g w h (nI 0) nt (nI P) mo gb wr nr su pr ob ki fi se ta nd ii sp qu rF rT rD) (kind) (nI 0) (nI 6)) (cw_S 3 hts tg_tail tw_502 tw_503 tw_4 tw_504 rfl rfl (by decide +kernel) ⟨Nat.le_trans (by decide) hRm.1, Nat.le_trans (by decide) hRm.2⟩) hK hP h0s hS rfl hl.1 rfl (Nat.le_of_ble_eq_true rfl) dX4_path_46 hcs (fun r9 w9 H locs hw hP hS => ?_)
      obtain ⟨e_r9, hw9⟩ := hw
      rw [hw9] at hP
      subst e_r9
      refine lv_if_eq (tgt := 66) hx hb dX4_path_49 (by decide) (fun c_49 => ?_) (fun c_49 => ?_)
      · have c_49 := zB_0.mp c_49
        refine lv_bipush (v := (-2)) hx hb dX4_path_66 (by decide) ?_
        exact W.iret (v := (-2)) hx hb hr (fun t ht hW => ⟨⟨_, (mW g w h (nI 0) nt (nI P) mo gb wr nr su pr ob ki fi se ta nd ii sp qu rF rT rD), rfl, Or.inr (Or.inl ⟨by clear hts hP hK hx hb hr hown hS hRm hcs hl hlocks; grind, by clear hts hP hK hx hb hr hown hS hRm hcs hl hlocks; grind, rfl, rfl⟩), cB_of ht hP⟩, hS.F ht⟩) hS.2.2 dX4_path_68
      · have c_49 := zB_1.mp c_49
        refine lv_iload_n hx hb dX4_path_52 rfl (lv_at hl 1 rfl) ?_
        refine lv_if_ne (tgt := 69) hx hb dX4_path_53 (by decide) (fun c_53 => ?_) (fun c_53 => ?_)
        · refine lv_aload_n hx hb dX4_path_69 rfl (lv_at hl 0 rfl) ?_
          refine lv_iload_n hx hb dX4_path_70 rfl (lv_at hl 1 rfl) ?_
          refine lv_iload_n hx hb dX4_path_71 rfl (lv_at hl 2 rfl) ?_
          refine lv_iload_n hx hb dX4_path_72 rfl (lv_at hl 3 rfl) ?_
          refine cr_Vi (As := [.int (kind), .int (a), .int (b)]) (rest := []) ⟨hx, hb, hml, hown, hts⟩ (c_X4_made l g s0  w h hs0 (nI 0) nt mo gb wr nr su pr ob ki fi se ta nd ii sp qu rF rT rD P hP4 (kind) (a) (b)) (cw_V 3 hts tg_tail tw_513 tw_515 tp_22 tw_4 tw_516 rfl rfl (by decide +kernel) ⟨Nat.le_trans (by decide) hRm.1, Nat.le_trans (by decide) hRm.2⟩) hK hP h0s hS (mW_0) rfl rfl rfl hl.1 rfl (Nat.le_of_ble_eq_true rfl) dX4_path_73 hcs (fun r9 w9 H locs hw hP hS => ?_)
          exact W.iret (v := r9) hx hb hr (fun t ht hW => ⟨⟨_, w9, rfl, Or.inr (Or.inr ⟨by clear hts hP hK hx hb hr hown hS hRm hcs hl hlocks; grind, by clear hts hP hK hx hb hr hown hS hRm hcs hl hlocks; grind, hw⟩), cB_of ht hP⟩, hS.F ht⟩) hS.2.2 dX4_path_76
        · refine lv_iload_n hx hb dX4_path_56 rfl (lv_at hl 2 rfl) ?_
          refine lv_iconst (v := nI 0) hx hb dX4_path_57 (by decide) ?_
          refine lv_bipush (v := nI 15) hx hb dX4_path_58 (by decide) ?_
          refine cr_Si (As := [.int (a), .int (nI 0), .int (nI 15)]) (rest := []) ⟨hx, hb, hml, hown, hts⟩ (c_X4_isBetween l g s0 (mW g w h (nI 0) nt (nI P) mo gb wr nr su pr ob ki fi se ta nd ii sp qu rF rT rD) (a) (nI 0) (nI 15)) (cw_S 3 hts tg_tail tw_502 tw_503 tw_4 tw_504 rfl rfl (by decide +kernel) ⟨Nat.le_trans (by decide) hRm.1, Nat.le_trans (by decide) hRm.2⟩) hK hP h0s hS rfl hl.1 rfl (Nat.le_of_ble_eq_true rfl) dX4_path_60 hcs (fun r9 w9 H locs hw hP hS => ?_)
          obtain ⟨e_r9, hw9⟩ := hw
          rw [hw9] at hP
          subst e_r9
          refine lv_if_ne (tgt := 69) hx hb dX4_path_63 (by decide) (fun c_63 => ?_) (fun c_63 => ?_)
          · have c_63 := zB_1.mp c_63
            refine lv_aload_n hx hb dX4_path_69 rfl (lv_at hl 0 rfl) ?_
            refine lv_iload_n hx hb dX4_path_70 rfl (lv_at hl 1 rfl) ?_
            refine lv_iload_n hx hb dX4_path_71 rfl (lv_at hl 2 rfl) ?_
            refine lv_iload_n hx hb dX4_path_72 rfl (lv_at hl 3 rfl) ?_
            refine cr_Vi (As := [.int (kind), .int (a), .int (b)]) (rest := []) ⟨hx, hb, hml, hown, hts⟩ (c_X4_made l g s0  w h hs0 (nI 0) nt mo gb wr nr su pr ob ki fi se ta nd ii sp qu rF rT rD P hP4 (kind) (a) (b)) (cw_V 3 hts tg_tail tw_513 tw_515 tp_22 tw_4 tw_516 rfl rfl (by decide +kernel) ⟨Nat.le_trans (by decide) hRm.1, Nat.le_trans (by decide) hRm.2⟩) hK hP h0s hS (mW_0) rfl rfl rfl hl.1 rfl (Nat.le_of_ble_eq_true rfl) dX4_path_73 hcs (fun r9 w9 H locs hw hP hS => ?_)
            exact W.iret (v := r9) hx hb hr (fun t ht hW => ⟨⟨_, w9, rfl, Or.inr (Or.inr ⟨by clear hts hP hK hx hb hr hown hS hRm hcs hl hlocks; grind, by clear hts hP hK hx hb hr hown hS hRm hcs hl hlocks; grind, hw⟩), cB_of ht hP⟩, hS.F ht⟩) hS.2.2 dX4_path_76
          · have c_63 := zB_0.mp c_63
            refine lv_bipush (v := (-2)) hx hb dX4_path_66 (by decide) ?_
            exact W.iret (v := (-2)) hx hb hr (fun t ht hW => ⟨⟨_, (mW g w h (nI 0) nt (nI P) mo gb wr nr su pr ob ki fi se ta nd ii sp qu rF rT rD), rfl, Or.inr (Or.inl ⟨by clear hts hP hK hx hb hr hown hS hRm hcs hl hlocks; grind, by clear hts hP hK hx hb hr hown hS hRm hcs hl hlocks; grind, rfl, rfl⟩), cB_of ht hP⟩, hS.F ht⟩) hS.2.2 dX4_path_68
    · have c_29 := zB_1.mp c_29
      refine lv_aload_n hx hb dX4_path_32 rfl (lv_at hl 0 rfl) ?_
      refine lv_iload_n hx hb dX4_path_33 rfl (lv_at hl 3 rfl) ?_
      refine cr_Vi (As := [.int (b)]) (rest := []) ⟨hx, hb, hml, hown, hts⟩ (c_X4_isPath l g s0  w h hs0 (nI 0) nt (nI P) mo gb wr nr su pr ob ki fi se ta nd ii sp qu rF rT rD b) (cw_V 1 hts tg_tail tw_509 tw_511 tp_21 tw_4 tw_512 rfl rfl (by decide +kernel) ⟨Nat.le_trans (by decide) hRm.1, Nat.le_trans (by decide) hRm.2⟩) hK hP h0s hS (mW_0) rfl rfl rfl hl.1 rfl (Nat.le_of_ble_eq_true rfl) dX4_path_34 hcs (fun r9 w9 H locs hw hP hS => ?_)
      obtain ⟨e_r9, hw9⟩ := hw
      rw [hw9] at hP
      subst e_r9
      refine lv_if_ne (tgt := 42) hx hb dX4_path_37 (by decide) (fun c_37 => ?_) (fun c_37 => ?_)
      · have c_37 := zB_1.mp c_37
        refine lv_iload_n hx hb dX4_path_42 rfl (lv_at hl 1 rfl) ?_
        refine lv_iconst (v := nI 0) hx hb dX4_path_43 (by decide) ?_
        refine lv_bipush (v := nI 6) hx hb dX4_path_44 (by decide) ?_
        refine cr_Si (As := [.int (kind), .int (nI 0), .int (nI 6)]) (rest := []) ⟨hx, hb, hml, hown, hts⟩ (c_X4_isBetween l g s0 (mW g w h (nI 0) nt (nI P) mo gb wr nr su pr ob ki fi se ta nd ii sp qu rF rT rD) (kind) (nI 0) (nI 6)) (cw_S 3 hts tg_tail tw_502 tw_503 tw_4 tw_504 rfl rfl (by decide +kernel) ⟨Nat.le_trans (by decide) hRm.1, Nat.le_trans (by decide) hRm.2⟩) hK hP h0s hS rfl hl.1 rfl (Nat.le_of_ble_eq_true rfl) dX4_path_46 hcs (fun r9 w9 H locs hw hP hS => ?_)
        obtain ⟨e_r9, hw9⟩ := hw
        rw [hw9] at hP
        subst e_r9
        refine lv_if_eq (tgt := 66) hx hb dX4_path_49 (by decide) (fun c_49 => ?_) (fun c_49 => ?_)
        · have c_49 := zB_0.mp c_49
          refine lv_bipush (v := (-2)) hx hb dX4_path_66 (by decide) ?_
          exact W.iret (v := (-2)) hx hb hr (fun t ht hW => ⟨⟨_, (mW g w h (nI 0) nt (nI P) mo gb wr nr su pr ob ki fi se ta nd ii sp qu rF rT rD), rfl, Or.inr (Or.inl ⟨by clear hts hP hK hx hb hr hown hS hRm hcs hl hlocks; grind, by clear hts hP hK hx hb hr hown hS hRm hcs hl hlocks; grind, rfl, rfl⟩), cB_of ht hP⟩, hS.F ht⟩) hS.2.2 dX4_path_68
        · have c_49 := zB_1.mp c_49
          refine lv_iload_n hx hb dX4_path_52 rfl (lv_at hl 1 rfl) ?_
          refine lv_if_ne (tgt := 69) hx hb dX4_path_53 (by decide) (fun c_53 => ?_) (fun c_53 => ?_)
          · refine lv_aload_n hx hb dX4_path_69 rfl (lv_at hl 0 rfl) ?_
            refine lv_iload_n hx hb dX4_path_70 rfl (lv_at hl 1 rfl) ?_
            refine lv_iload_n hx hb dX4_path_71 rfl (lv_at hl 2 rfl) ?_
            refine lv_iload_n hx hb dX4_path_72 rfl (lv_at hl 3 rfl) ?_
            refine cr_Vi (As := [.int (kind), .int (a), .int (b)]) (rest := []) ⟨hx, hb, hml, hown, hts⟩ (c_X4_made l g s0  w h hs0 (nI 0) nt mo gb wr nr su pr ob ki fi se ta nd ii sp qu rF rT rD P hP4 (kind) (a) (b)) (cw_V 3 hts tg_tail tw_513 tw_515 tp_22 tw_4 tw_516 rfl rfl (by decide +kernel) ⟨Nat.le_trans (by decide) hRm.1, Nat.le_trans (by decide) hRm.2⟩) hK hP h0s hS (mW_0) rfl rfl rfl hl.1 rfl (Nat.le_of_ble_eq_true rfl) dX4_path_73 hcs (fun r9 w9 H locs hw hP hS => ?_)
            exact W.iret (v := r9) hx hb hr (fun t ht hW => ⟨⟨_, w9, rfl, Or.inr (Or.inr ⟨by clear hts hP hK hx hb hr hown hS hRm hcs hl hlocks; grind, by clear hts hP hK hx hb hr hown hS hRm hcs hl hlocks; grind, hw⟩), cB_of ht hP⟩, hS.F ht⟩) hS.2.2 dX4_path_76
          · refine lv_iload_n hx hb dX4_path_56 rfl (lv_at hl 2 rfl) ?_
            refine lv_iconst (v := nI 0) hx hb dX4_path_57 (by decide) ?_
            refine lv_bipush (v := nI 15) hx hb dX4_path_58 (by decide) ?_
            refine cr_Si (As := [.int (a), .int (nI 0), .int (nI 15)]) (rest := []) ⟨hx, hb, hml, hown, hts⟩ (c_X4_isBetween l g s0 (mW g w h (nI 0) nt (nI P) mo gb wr nr su pr ob ki fi se ta nd ii sp qu rF rT rD) (a) (nI 0) (nI 15)) (cw_S 3 hts tg_tail tw_502 tw_503 tw_4 tw_504 rfl rfl (by decide +kernel) ⟨Nat.le_trans (by decide) hRm.1, Nat.le_trans (by decide) hRm.2⟩) hK hP h0s hS rfl hl.1 rfl (Nat.le_of_ble_eq_true rfl) dX4_path_60 hcs (fun r9 w9 H locs hw hP hS => ?_)
            obtain ⟨e_r9, hw9⟩ := hw
            rw [hw9] at hP
            subst e_r9
            refine lv_if_ne (tgt := 69) hx hb dX4_path_63 (by decide) (fun c_63 => ?_) (fun c_63 => ?_)
            · have c_63 := zB_1.mp c_63
              refine lv_aload_n hx hb dX4_path_69 rfl (lv_at hl 0 rfl) ?_
              refine lv_iload_n hx hb dX4_path_70 rfl (lv_at hl 1 rfl) ?_
              refine lv_iload_n hx hb dX4_path_71 rfl (lv_at hl 2 rfl) ?_
              refine lv_iload_n hx hb dX4_path_72 rfl (lv_at hl 3 rfl) ?_
              refine cr_Vi (As := [.int (kind), .int (a), .int (b)]) (rest := []) ⟨hx, hb, hml, hown, hts⟩ (c_X4_made l g s0  w h hs0 (nI 0) nt mo gb wr nr su pr ob ki fi se ta nd ii sp qu rF rT rD P hP4 (kind) (a) (b)) (cw_V 3 hts tg_tail tw_513 tw_515 tp_22 tw_4 tw_516 rfl rfl (by decide +kernel) ⟨Nat.le_trans (by decide) hRm.1, Nat.le_trans (by decide) hRm.2⟩) hK hP h0s hS (mW_0) rfl rfl rfl hl.1 rfl (Nat.le_of_ble_eq_true rfl) dX4_path_73 hcs (fun r9 w9 H locs hw hP hS => ?_)
              exact W.iret (v := r9) hx hb hr (fun t ht hW => ⟨⟨_, w9, rfl, Or.inr (Or.inr ⟨by clear hts hP hK hx hb hr hown hS hRm hcs hl hlocks; grind, by clear hts hP hK hx hb hr hown hS hRm hcs hl hlocks; grind, hw⟩), cB_of ht hP⟩, hS.F ht⟩) hS.2.2 dX4_path_76
            · have c_63 := zB_0.mp c_63
              refine lv_bipush (v := (-2)) hx hb dX4_path_66 (by decide) ?_
              exact W.iret (v := (-2)) hx hb hr (fun t ht hW => ⟨⟨_, (mW g w h (nI 0) nt (nI P) mo gb wr nr su pr ob ki fi se ta nd ii sp qu rF rT rD), rfl, Or.inr (Or.inl ⟨by clear hts hP hK hx hb hr hown hS hRm hcs hl hlocks; grind, by clear hts hP hK hx hb hr hown hS hRm hcs hl hlocks; grind, rfl, rfl⟩), cB_of ht hP⟩, hS.F ht⟩) hS.2.2 dX4_path_68
      · have c_37 := zB_0.mp c_37
        refine lv_iconst (v := (-1)) hx hb dX4_path_40 (by decide) ?_
        exact W.iret (v := (-1)) hx hb hr (fun t ht hW => ⟨⟨_, (mW g w h (nI 0) nt (nI P) mo gb wr nr su pr ob ki fi se ta nd ii sp qu rF rT rD), rfl, Or.inl ⟨by clear hts hP hK hx hb hr hown hS hRm hcs hl hlocks; grind, rfl, rfl⟩, cB_of ht hP⟩, hS.F ht⟩) hS.2.2 dX4_path_41
  · have c_12 := zB_1.mp c_12
    refine lv_aload_n hx hb dX4_path_15 rfl (lv_at hl 0 rfl) ?_
    refine lv_iload_n hx hb dX4_path_16 rfl (lv_at hl 2 rfl) ?_
    refine cr_Vi (As := [.int (a)]) (rest := []) ⟨hx, hb, hml, hown, hts⟩ (c_X4_isPath l g s0  w h hs0 (nI 0) nt (nI P) mo gb wr nr su pr ob ki fi se ta nd ii sp qu rF rT rD a) (cw_V 1 hts tg_tail tw_509 tw_511 tp_21 tw_4 tw_512 rfl rfl (by decide +kernel) ⟨Nat.le_trans (by decide) hRm.1, Nat.le_trans (by decide) hRm.2⟩) hK hP h0s hS (mW_0) rfl rfl rfl hl.1 rfl (Nat.le_of_ble_eq_true rfl) dX4_path_17 hcs (fun r9 w9 H locs hw hP hS => ?_)
    obtain ⟨e_r9, hw9⟩ := hw
    rw [hw9] at hP
    subst e_r9
    refine lv_if_eq (tgt := 40) hx hb dX4_path_20 (by decide) (fun c_20 => ?_) (fun c_20 => ?_)
    · have c_20 := zB_0.mp c_20
      refine lv_iconst (v := (-1)) hx hb dX4_path_40 (by decide) ?_
      exact W.iret (v := (-1)) hx hb hr (fun t ht hW => ⟨⟨_, (mW g w h (nI 0) nt (nI P) mo gb wr nr su pr ob ki fi se ta nd ii sp qu rF rT rD), rfl, Or.inl ⟨by clear hts hP hK hx hb hr hown hS hRm hcs hl hlocks; grind, rfl, rfl⟩, cB_of ht hP⟩, hS.F ht⟩) hS.2.2 dX4_path_41
    · have c_20 := zB_1.mp c_20
      refine lv_iload_n hx hb dX4_path_23 rfl (lv_at hl 1 rfl) ?_
      refine lv_iconst (v := nI 2) hx hb dX4_path_24 (by decide) ?_
      refine lv_iconst (v := nI 3) hx hb dX4_path_25 (by decide) ?_
      refine cr_Si (As := [.int (kind), .int (nI 2), .int (nI 3)]) (rest := []) ⟨hx, hb, hml, hown, hts⟩ (c_X4_isBetween l g s0 (mW g w h (nI 0) nt (nI P) mo gb wr nr su pr ob ki fi se ta nd ii sp qu rF rT rD) (kind) (nI 2) (nI 3)) (cw_S 3 hts tg_tail tw_502 tw_503 tw_4 tw_504 rfl rfl (by decide +kernel) ⟨Nat.le_trans (by decide) hRm.1, Nat.le_trans (by decide) hRm.2⟩) hK hP h0s hS rfl hl.1 rfl (Nat.le_of_ble_eq_true rfl) dX4_path_26 hcs (fun r9 w9 H locs hw hP hS => ?_)
      obtain ⟨e_r9, hw9⟩ := hw
      rw [hw9] at hP
      subst e_r9
      refine lv_if_eq (tgt := 42) hx hb dX4_path_29 (by decide) (fun c_29 => ?_) (fun c_29 => ?_)
      · have c_29 := zB_0.mp c_29
        refine lv_iload_n hx hb dX4_path_42 rfl (lv_at hl 1 rfl) ?_
        refine lv_iconst (v := nI 0) hx hb dX4_path_43 (by decide) ?_
        refine lv_bipush (v := nI 6) hx hb dX4_path_44 (by decide) ?_
        refine cr_Si (As := [.int (kind), .int (nI 0), .int (nI 6)]) (rest := []) ⟨hx, hb, hml, hown, hts⟩ (c_X4_isBetween l g s0 (mW g w h (nI 0) nt (nI P) mo gb wr nr su pr ob ki fi se ta nd ii sp qu rF rT rD) (kind) (nI 0) (nI 6)) (cw_S 3 hts tg_tail tw_502 tw_503 tw_4 tw_504 rfl rfl (by decide +kernel) ⟨Nat.le_trans (by decide) hRm.1, Nat.le_trans (by decide) hRm.2⟩) hK hP h0s hS rfl hl.1 rfl (Nat.le_of_ble_eq_true rfl) dX4_path_46 hcs (fun r9 w9 H locs hw hP hS => ?_)
        obtain ⟨e_r9, hw9⟩ := hw
        rw [hw9] at hP
        subst e_r9
        refine lv_if_eq (tgt := 66) hx hb dX4_path_49 (by decide) (fun c_49 => ?_) (fun c_49 => ?_)
        · have c_49 := zB_0.mp c_49
          refine lv_bipush (v := (-2)) hx hb dX4_path_66 (by decide) ?_
          exact W.iret (v := (-2)) hx hb hr (fun t ht hW => ⟨⟨_, (mW g w h (nI 0) nt (nI P) mo gb wr nr su pr ob ki fi se ta nd ii sp qu rF rT rD), rfl, Or.inr (Or.inl ⟨by clear hts hP hK hx hb hr hown hS hRm hcs hl hlocks; grind, by clear hts hP hK hx hb hr hown hS hRm hcs hl hlocks; grind, rfl, rfl⟩), cB_of ht hP⟩, hS.F ht⟩) hS.2.2 dX4_path_68
        · have c_49 := zB_1.mp c_49
          refine lv_iload_n hx hb dX4_path_52 rfl (lv_at hl 1 rfl) ?_
          refine lv_if_ne (tgt := 69) hx hb dX4_path_53 (by decide) (fun c_53 => ?_) (fun c_53 => ?_)
          · refine lv_aload_n hx hb dX4_path_69 rfl (lv_at hl 0 rfl) ?_
            refine lv_iload_n hx hb dX4_path_70 rfl (lv_at hl 1 rfl) ?_
            refine lv_iload_n hx hb dX4_path_71 rfl (lv_at hl 2 rfl) ?_
            refine lv_iload_n hx hb dX4_path_72 rfl (lv_at hl 3 rfl) ?_
            refine cr_Vi (As := [.int (kind), .int (a), .int (b)]) (rest := []) ⟨hx, hb, hml, hown, hts⟩ (c_X4_made l g s0  w h hs0 (nI 0) nt mo gb wr nr su pr ob ki fi se ta nd ii sp qu rF rT rD P hP4 (kind) (a) (b)) (cw_V 3 hts tg_tail tw_513 tw_515 tp_22 tw_4 tw_516 rfl rfl (by decide +kernel) ⟨Nat.le_trans (by decide) hRm.1, Nat.le_trans (by decide) hRm.2⟩) hK hP h0s hS (mW_0) rfl rfl rfl hl.1 rfl (Nat.le_of_ble_eq_true rfl) dX4_path_73 hcs (fun r9 w9 H locs hw hP hS => ?_)
            exact W.iret (v := r9) hx hb hr (fun t ht hW => ⟨⟨_, w9, rfl, Or.inr (Or.inr ⟨by clear hts hP hK hx hb hr hown hS hRm hcs hl hlocks; grind, by clear hts hP hK hx hb hr hown hS hRm hcs hl hlocks; grind, hw⟩), cB_of ht hP⟩, hS.F ht⟩) hS.2.2 dX4_path_76
          · refine lv_iload_n hx hb dX4_path_56 rfl (lv_at hl 2 rfl) ?_
            refine lv_iconst (v := nI 0) hx hb dX4_path_57 (by decide) ?_
            refine lv_bipush (v := nI 15) hx hb dX4_path_58 (by decide) ?_
            refine cr_Si (As := [.int (a), .int (nI 0), .int (nI 15)]) (rest := []) ⟨hx, hb, hml, hown, hts⟩ (c_X4_isBetween l g s0 (mW g w h (nI 0) nt (nI P) mo gb wr nr su pr ob ki fi se ta nd ii sp qu rF rT rD) (a) (nI 0) (nI 15)) (cw_S 3 hts tg_tail tw_502 tw_503 tw_4 tw_504 rfl rfl (by decide +kernel) ⟨Nat.le_trans (by decide) hRm.1, Nat.le_trans (by decide) hRm.2⟩) hK hP h0s hS rfl hl.1 rfl (Nat.le_of_ble_eq_true rfl) dX4_path_60 hcs (fun r9 w9 H locs hw hP hS => ?_)
            obtain ⟨e_r9, hw9⟩ := hw
            rw [hw9] at hP
            subst e_r9
            refine lv_if_ne (tgt := 69) hx hb dX4_path_63 (by decide) (fun c_63 => ?_) (fun c_63 => ?_)
            · have c_63 := zB_1.mp c_63
              refine lv_aload_n hx hb dX4_path_69 rfl (lv_at hl 0 rfl) ?_
              refine lv_iload_n hx hb dX4_path_70 rfl (lv_at hl 1 rfl) ?_
              refine lv_iload_n hx hb dX4_path_71 rfl (lv_at hl 2 rfl) ?_
              refine lv_iload_n hx hb dX4_path_72 rfl (lv_at hl 3 rfl) ?_
              refine cr_Vi (As := [.int (kind), .int (a), .int (b)]) (rest := []) ⟨hx, hb, hml, hown, hts⟩ (c_X4_made l g s0  w h hs0 (nI 0) nt mo gb wr nr su pr ob ki fi se ta nd ii sp qu rF rT rD P hP4 (kind) (a) (b)) (cw_V 3 hts tg_tail tw_513 tw_515 tp_22 tw_4 tw_516 rfl rfl (by decide +kernel) ⟨Nat.le_trans (by decide) hRm.1, Nat.le_trans (by decide) hRm.2⟩) hK hP h0s hS (mW_0) rfl rfl rfl hl.1 rfl (Nat.le_of_ble_eq_true rfl) dX4_path_73 hcs (fun r9 w9 H locs hw hP hS => ?_)
              exact W.iret (v := r9) hx hb hr (fun t ht hW => ⟨⟨_, w9, rfl, Or.inr (Or.inr ⟨by clear hts hP hK hx hb hr hown hS hRm hcs hl hlocks; grind, by clear hts hP hK hx hb hr hown hS hRm hcs hl hlocks; grind, hw⟩), cB_of ht hP⟩, hS.F ht⟩) hS.2.2 dX4_path_76
            · have c_63 := zB_0.mp c_63
              refine lv_bipush (v := (-2)) hx hb dX4_path_66 (by decide) ?_
              exact W.iret (v := (-2)) hx hb hr (fun t ht hW => ⟨⟨_, (mW g w h (nI 0) nt (nI P) mo gb wr nr su pr ob ki fi se ta nd ii sp qu rF rT rD), rfl, Or.inr (Or.inl ⟨by clear hts hP hK hx hb hr hown hS hRm hcs hl hlocks; grind, by clear hts hP hK hx hb hr hown hS hRm hcs hl hlocks; grind, rfl, rfl⟩), cB_of ht hP⟩, hS.F ht⟩) hS.2.2 dX4_path_68
      · have c_29 := zB_1.mp c_29
        refine lv_aload_n hx hb dX4_path_32 rfl (lv_at hl 0 rfl) ?_
        refine lv_iload_n hx hb dX4_path_33 rfl (lv_at hl 3 rfl) ?_
        refine cr_Vi (As := [.int (b)]) (rest := []) ⟨hx, hb, hml, hown, hts⟩ (c_X4_isPath l g s0  w h hs0 (nI 0) nt (nI P) mo gb wr nr su pr ob ki fi se ta nd ii sp qu rF rT rD b) (cw_V 1 hts tg_tail tw_509 tw_511 tp_21 tw_4 tw_512 rfl rfl (by decide +kernel) ⟨Nat.le_trans (by decide) hRm.1, Nat.le_trans (by decide) hRm.2⟩) hK hP h0s hS (mW_0) rfl rfl rfl hl.1 rfl (Nat.le_of_ble_eq_true rfl) dX4_path_34 hcs (fun r9 w9 H locs hw hP hS => ?_)
        obtain ⟨e_r9, hw9⟩ := hw
        rw [hw9] at hP
        subst e_r9
        refine lv_if_ne (tgt := 42) hx hb dX4_path_37 (by decide) (fun c_37 => ?_) (fun c_37 => ?_)
        · have c_37 := zB_1.mp c_37
          refine lv_iload_n hx hb dX4_path_42 rfl (lv_at hl 1 rfl) ?_
          refine lv_iconst (v := nI 0) hx hb dX4_path_43 (by decide) ?_
          refine lv_bipush (v := nI 6) hx hb dX4_path_44 (by decide) ?_
          refine cr_Si (As := [.int (kind), .int (nI 0), .int (nI 6)]) (rest := []) ⟨hx, hb, hml, hown, hts⟩ (c_X4_isBetween l g s0 (mW g w h (nI 0) nt (nI P) mo gb wr nr su pr ob ki fi se ta nd ii sp qu rF rT rD) (kind) (nI 0) (nI 6)) (cw_S 3 hts tg_tail tw_502 tw_503 tw_4 tw_504 rfl rfl (by decide +kernel) ⟨Nat.le_trans (by decide) hRm.1, Nat.le_trans (by decide) hRm.2⟩) hK hP h0s hS rfl hl.1 rfl (Nat.le_of_ble_eq_true rfl) dX4_path_46 hcs (fun r9 w9 H locs hw hP hS => ?_)
          obtain ⟨e_r9, hw9⟩ := hw
          rw [hw9] at hP
          subst e_r9
          refine lv_if_eq (tgt := 66) hx hb dX4_path_49 (by decide) (fun c_49 => ?_) (fun c_49 => ?_)
          · have c_49 := zB_0.mp c_49
            refine lv_bipush (v := (-2)) hx hb dX4_path_66 (by decide) ?_
            exact W.iret (v := (-2)) hx hb hr (fun t ht hW => ⟨⟨_, (mW g w h (nI 0) nt (nI P) mo gb wr nr su pr ob ki fi se ta nd ii sp qu rF rT rD), rfl, Or.inr (Or.inl ⟨by clear hts hP hK hx hb hr hown hS hRm hcs hl hlocks; grind, by clear hts hP hK hx hb hr hown hS hRm hcs hl hlocks; grind, rfl, rfl⟩), cB_of ht hP⟩, hS.F ht⟩) hS.2.2 dX4_path_68
          · have c_49 := zB_1.mp c_49
            refine lv_iload_n hx hb dX4_path_52 rfl (lv_at hl 1 rfl) ?_
            refine lv_if_ne (tgt := 69) hx hb dX4_path_53 (by decide) (fun c_53 => ?_) (fun c_53 => ?_)
            · refine lv_aload_n hx hb dX4_path_69 rfl (lv_at hl 0 rfl) ?_
              refine lv_iload_n hx hb dX4_path_70 rfl (lv_at hl 1 rfl) ?_
              refine lv_iload_n hx hb dX4_path_71 rfl (lv_at hl 2 rfl) ?_
              refine lv_iload_n hx hb dX4_path_72 rfl (lv_at hl 3 rfl) ?_
              refine cr_Vi (As := [.int (kind), .int (a), .int (b)]) (rest := []) ⟨hx, hb, hml, hown, hts⟩ (c_X4_made l g s0  w h hs0 (nI 0) nt mo gb wr nr su pr ob ki fi se ta nd ii sp qu rF rT rD P hP4 (kind) (a) (b)) (cw_V 3 hts tg_tail tw_513 tw_515 tp_22 tw_4 tw_516 rfl rfl (by decide +kernel) ⟨Nat.le_trans (by decide) hRm.1, Nat.le_trans (by decide) hRm.2⟩) hK hP h0s hS (mW_0) rfl rfl rfl hl.1 rfl (Nat.le_of_ble_eq_true rfl) dX4_path_73 hcs (fun r9 w9 H locs hw hP hS => ?_)
              exact W.iret (v := r9) hx hb hr (fun t ht hW => ⟨⟨_, w9, rfl, Or.inr (Or.inr ⟨by clear hts hP hK hx hb hr hown hS hRm hcs hl hlocks; grind, by clear hts hP hK hx hb hr hown hS hRm hcs hl hlocks; grind, hw⟩), cB_of ht hP⟩, hS.F ht⟩) hS.2.2 dX4_path_76
            · refine lv_iload_n hx hb dX4_path_56 rfl (lv_at hl 2 rfl) ?_
              refine lv_iconst (v := nI 0) hx hb dX4_path_57 (by decide) ?_
              refine lv_bipush (v := nI 15) hx hb dX4_path_58 (by decide) ?_
              refine cr_Si (As := [.int (a), .int (nI 0), .int (nI 15)]) (rest := []) ⟨hx, hb, hml, hown, hts⟩ (c_X4_isBetween l g s0 (mW g w h (nI 0) nt (nI P) mo gb wr nr su pr ob ki fi se ta nd ii sp qu rF rT rD) (a) (nI 0) (nI 15)) (cw_S 3 hts tg_tail tw_502 tw_503 tw_4 tw_504 rfl rfl (by decide +kernel) ⟨Nat.le_trans (by decide) hRm.1, Nat.le_trans (by decide) hRm.2⟩) hK hP h0s hS rfl hl.1 rfl (Nat.le_of_ble_eq_true rfl) dX4_path_60 hcs (fun r9 w9 H locs hw hP hS => ?_)
              obtain ⟨e_r9, hw9⟩ := hw
              rw [hw9] at hP
              subst e_r9
              refine lv_if_ne (tgt := 69) hx hb dX4_path_63 (by decide) (fun c_63 => ?_) (fun c_63 => ?_)
              · have c_63 := zB_1.mp c_63
                refine lv_aload_n hx hb dX4_path_69 rfl (lv_at hl 0 rfl) ?_
                refine lv_iload_n hx hb dX4_path_70 rfl (lv_at hl 1 rfl) ?_
                refine lv_iload_n hx hb dX4_path_71 rfl (lv_at hl 2 rfl) ?_
                refine lv_iload_n hx hb dX4_path_72 rfl (lv_at hl 3 rfl) ?_
                refine cr_Vi (As := [.int (kind), .int (a), .int (b)]) (rest := []) ⟨hx, hb, hml, hown, hts⟩ (c_X4_made l g s0  w h hs0 (nI 0) nt mo gb wr nr su pr ob ki fi se ta nd ii sp qu rF rT rD P hP4 (kind) (a) (b)) (cw_V 3 hts tg_tail tw_513 tw_515 tp_22 tw_4 tw_516 rfl rfl (by decide +kernel) ⟨Nat.le_trans (by decide) hRm.1, Nat.le_trans (by decide) hRm.2⟩) hK hP h0s hS (mW_0) rfl rfl rfl hl.1 rfl (Nat.le_of_ble_eq_true rfl) dX4_path_73 hcs (fun r9 w9 H locs hw hP hS => ?_)
                exact W.iret (v := r9) hx hb hr (fun t ht hW => ⟨⟨_, w9, rfl, Or.inr (Or.inr ⟨by clear hts hP hK hx hb hr hown hS hRm hcs hl hlocks; grind, by clear hts hP hK hx hb hr hown hS hRm hcs hl hlocks; grind, hw⟩), cB_of ht hP⟩, hS.F ht⟩) hS.2.2 dX4_path_76
              · have c_63 := zB_0.mp c_63
                refine lv_bipush (v := (-2)) hx hb dX4_path_66 (by decide) ?_
                exact W.iret (v := (-2)) hx hb hr (fun t ht hW => ⟨⟨_, (mW g w h (nI 0) nt (nI P) mo gb wr nr su pr ob ki fi se ta nd ii sp qu rF rT rD), rfl, Or.inr (Or.inl ⟨by clear hts hP hK hx hb hr hown hS hRm hcs hl hlocks; grind, by clear hts hP hK hx hb hr hown hS hRm hcs hl hlocks; grind, rfl, rfl⟩), cB_of ht hP⟩, hS.F ht⟩) hS.2.2 dX4_path_68
        · have c_37 := zB_0.mp c_37
          refine lv_iconst (v := (-1)) hx hb dX4_path_40 (by decide) ?_
          exact W.iret (v := (-1)) hx hb hr (fun t ht hW => ⟨⟨_, (mW g w h (nI 0) nt (nI P) mo gb wr nr su pr ob ki fi se ta nd ii sp qu rF rT rD), rfl, Or.inl ⟨by clear hts hP hK hx hb hr hown hS hRm hcs hl hlocks; grind, rfl, rfl⟩, cB_of ht hP⟩, hS.F ht⟩) hS.2.2 dX4_path_41

set_option maxHeartbeats 4000000 in
set_option maxRecDepth 100000 in
theorem c_X4_inverse (l : Launch) (g : gX) (s0 : Nat) (w : wd_M) (h : Nat) (hs0 : s0 ≤ h) (rf nt mo gb wr nr : Int32) (su pr ob ki fi se ta nd ii sp qu rF rT rD : Nat → Int32) (P : Nat) (hP4 : P ≤ 40) (a : Int32) : Met l yX4_inverse (Cond.code yX4_inverse cX4_inverse 2 (some .int) :: tg) ({ frames := 2, cells := 0, slots := 0, locals := 46 }) (cP g s0 (mW g w h rf nt (nI P) mo gb wr nr su pr ob ki fi se ta nd ii sp qu rF rT rD) [.ref h, .int (a)]) (cI g s0 (fun r w' => (¬ (nI 1 ≤ a ∧ a ≤ nI P) ∧ r = -1 ∧ w' = (mW g w h (nI 0) nt (nI P) mo gb wr nr su pr ob ki fi se ta nd ii sp qu rF rT rD)) ∨ ((nI 1 ≤ a ∧ a ≤ nI P) ∧ ((P = 40 ∧ r = -4 ∧ w' = (mW g w h (nI 0) nt (nI P) mo gb wr nr su pr ob ki fi se ta nd ii sp qu rF rT rD)) ∨ (P < 40 ∧ r = nI (P + 1) ∧ w' = (mW g w h (nI 0) nt (nI (P + 1)) mo gb wr nr su pr ob (upd ki (P + 1) (nI 1)) (upd fi (P + 1) a) (upd se (P + 1) (nI 0)) ta nd ii sp qu rF rT rD)))))) 0 0 (cA s0) := by
  refine Met.ofW (cc := cX4_inverse) (maxL := 2) (ret := some .int) (by decide) rfl ?_
  intro p e s m args below meth c s₁ B9 hml hv
  obtain ⟨rfl, h0s, hP, hK⟩ := hv
  have hx := B9.exec
  have hb := B9.bytes
  have hr := B9.returns
  have hts := atoms_spec (ws := Cond.code yX4_inverse cX4_inverse 2 (some .int) :: tg) B9.pre
  have hown : s.vm.findClass RX4 = some m.cls := findClass_of_methodNamed B9.named
  have hlocks := B9.notSynchronized
  have hS : gS s0 s.heap s.heap [] := va_S.rf
  have hRm : 2 ≤ (headSpec (Cond.code yX4_inverse cX4_inverse 2 (some .int) :: tg) ({ frames := 2, cells := 0, slots := 0, locals := 46 })).room.frames ∧ 46 ≤ (headSpec (Cond.code yX4_inverse cX4_inverse 2 (some .int) :: tg) ({ frames := 2, cells := 0, slots := 0, locals := 46 })).room.locals := ⟨Nat.le_refl _, Nat.le_refl _⟩
  have hcs : 0 + 0 ≤ (headSpec (Cond.code yX4_inverse cX4_inverse 2 (some .int) :: tg) ({ frames := 2, cells := 0, slots := 0, locals := 46 })).room.cells ∧ 0 + 0 ≤ (headSpec (Cond.code yX4_inverse cX4_inverse 2 (some .int) :: tg) ({ frames := 2, cells := 0, slots := 0, locals := 46 })).room.slots := ⟨Nat.zero_le _, Nat.zero_le _⟩
  have hl := lv_entry ([.ref h, .int (a)]) (n := 2) (Nat.le_of_ble_eq_true rfl)
  rw [lg_entry_eq]
  generalize (lg_sl ([.ref h, .int (a)]) ++ List.replicate (2 - (lg_sl ([.ref h, .int (a)])).length) Slot.unset).toArray = ls at hl ⊢
  have hl : lv_has ls 2 [(0, .ref h), (1, .int (a))] := hl
  refine lv_aload_n hx hb dX4_inverse_0 rfl (lv_at hl 0 rfl) ?_
  refine lv_iconst (v := nI 0) hx hb dX4_inverse_1 (by decide) ?_
  refine wd_put (ci := 5) (v := .int (nI 0)) (ty := .int) (C := RX4) (T := TX4) (N := 21) hx hb hts iwX4 tyX4 tyX4_ok nmX4 hown hK.1 hP hS (by omega) (mW_0) rfl 0 (by decide) (hts _ (tg_tail _ tw_426)) (fun _ h9 => h9) rfl (by decide +kernel) (rfl) (rfl) (Nat.le_of_ble_eq_true rfl) dX4_inverse_2 (fun H locs hP hS hz => ?_)
  have hP : gP g (mW g w h (nI 0) nt (nI P) mo gb wr nr su pr ob ki fi se ta nd ii sp qu rF rT rD) H := by have h9 : gP g (wd_up (mW g w h rf nt (nI P) mo gb wr nr su pr ob ki fi se ta nd ii sp qu rF rT rD) h (.inr (5, [.int (nI 0), .ref (h + 1), .ref (h + 2), .ref (h + 3), .int (nt), .ref (h + 4), .ref (h + 5), .ref (h + 6), .int (nI P), .int (mo), .ref (h + 7), .ref (h + 8), .ref (h + 9), .int (gb), .ref (h + 10), .ref (h + 11), .int (wr), .int (nr), .ref (h + 12), .ref (h + 13), .ref (h + 14)]))) H := hP; rw [mW_s0] at h9; exact h9
  refine lv_aload_n hx hb dX4_inverse_5 rfl (lv_at hl 0 rfl) ?_
  refine lv_iload_n hx hb dX4_inverse_6 rfl (lv_at hl 1 rfl) ?_
  refine cr_Vi (As := [.int (a)]) (rest := []) ⟨hx, hb, hml, hown, hts⟩ (c_X4_isPath l g s0  w h hs0 (nI 0) nt (nI P) mo gb wr nr su pr ob ki fi se ta nd ii sp qu rF rT rD a) (cw_V 1 hts tg_tail tw_509 tw_511 tp_21 tw_4 tw_512 rfl rfl (by decide +kernel) ⟨Nat.le_trans (by decide) hRm.1, Nat.le_trans (by decide) hRm.2⟩) hK hP h0s hS (mW_0) rfl rfl rfl hl.1 rfl (Nat.le_of_ble_eq_true rfl) dX4_inverse_7 hcs (fun r9 w9 H locs hw hP hS => ?_)
  obtain ⟨e_r9, hw9⟩ := hw
  rw [hw9] at hP
  subst e_r9
  refine lv_if_eq (tgt := 23) hx hb dX4_inverse_10 (by decide) (fun c_10 => ?_) (fun c_10 => ?_)
  · have c_10 := zB_0.mp c_10
    refine lv_iconst (v := (-1)) hx hb dX4_inverse_23 (by decide) ?_
    exact W.iret (v := (-1)) hx hb hr (fun t ht hW => ⟨⟨_, (mW g w h (nI 0) nt (nI P) mo gb wr nr su pr ob ki fi se ta nd ii sp qu rF rT rD), rfl, Or.inl ⟨c_10, rfl, rfl⟩, cB_of ht hP⟩, hS.F ht⟩) hS.2.2 dX4_inverse_24
  · have c_10 := zB_1.mp c_10
    refine lv_aload_n hx hb dX4_inverse_13 rfl (lv_at hl 0 rfl) ?_
    refine lv_iconst (v := nI 1) hx hb dX4_inverse_14 (by decide) ?_
    refine lv_iload_n hx hb dX4_inverse_15 rfl (lv_at hl 1 rfl) ?_
    refine lv_iconst (v := nI 0) hx hb dX4_inverse_16 (by decide) ?_
    refine cr_Vi (As := [.int (nI 1), .int (a), .int (nI 0)]) (rest := []) ⟨hx, hb, hml, hown, hts⟩ (c_X4_made l g s0  w h hs0 (nI 0) nt mo gb wr nr su pr ob ki fi se ta nd ii sp qu rF rT rD P hP4 (nI 1) (a) (nI 0)) (cw_V 3 hts tg_tail tw_513 tw_515 tp_22 tw_4 tw_516 rfl rfl (by decide +kernel) ⟨Nat.le_trans (by decide) hRm.1, Nat.le_trans (by decide) hRm.2⟩) hK hP h0s hS (mW_0) rfl rfl rfl hl.1 rfl (Nat.le_of_ble_eq_true rfl) dX4_inverse_17 hcs (fun r9 w9 H locs hw hP hS => ?_)
    refine lv_goto (tgt := 24) hx hb dX4_inverse_20 (by decide) ?_
    exact W.iret (v := r9) hx hb hr (fun t ht hW => ⟨⟨_, w9, rfl, Or.inr ⟨c_10, hw⟩, cB_of ht hP⟩, hS.F ht⟩) hS.2.2 dX4_inverse_24

set_option maxHeartbeats 4000000 in
set_option maxRecDepth 100000 in
theorem c_X4_negated (l : Launch) (g : gX) (s0 : Nat) (w : wd_M) (h : Nat) (hs0 : s0 ≤ h) (rf nt mo gb wr nr : Int32) (su pr ob ki fi se ta nd ii sp qu rF rT rD : Nat → Int32) (P : Nat) (hP4 : P ≤ 40) (a b : Int32) : Met l yX4_negated (Cond.code yX4_negated cX4_negated 3 (some .int) :: tg) ({ frames := 2, cells := 0, slots := 0, locals := 46 }) (cP g s0 (mW g w h rf nt (nI P) mo gb wr nr su pr ob ki fi se ta nd ii sp qu rF rT rD) [.ref h, .int (a), .int (b)]) (cI g s0 (fun r w' => (¬ ((nI 0 ≤ a ∧ a ≤ nI 15) ∧ (-1 ≤ b ∧ b ≤ nI 15)) ∧ r = -2 ∧ w' = (mW g w h (nI 0) nt (nI P) mo gb wr nr su pr ob ki fi se ta nd ii sp qu rF rT rD)) ∨ (((nI 0 ≤ a ∧ a ≤ nI 15) ∧ (-1 ≤ b ∧ b ≤ nI 15)) ∧ ((P = 40 ∧ r = -4 ∧ w' = (mW g w h (nI 0) nt (nI P) mo gb wr nr su pr ob ki fi se ta nd ii sp qu rF rT rD)) ∨ (P < 40 ∧ r = nI (P + 1) ∧ w' = (mW g w h (nI 0) nt (nI (P + 1)) mo gb wr nr su pr ob (upd ki (P + 1) (nI 7)) (upd fi (P + 1) a) (upd se (P + 1) b) ta nd ii sp qu rF rT rD)))))) 0 0 (cA s0) := by
  refine Met.ofW (cc := cX4_negated) (maxL := 3) (ret := some .int) (by decide) rfl ?_
  intro p e s m args below meth c s₁ B9 hml hv
  obtain ⟨rfl, h0s, hP, hK⟩ := hv
  have hx := B9.exec
  have hb := B9.bytes
  have hr := B9.returns
  have hts := atoms_spec (ws := Cond.code yX4_negated cX4_negated 3 (some .int) :: tg) B9.pre
  have hown : s.vm.findClass RX4 = some m.cls := findClass_of_methodNamed B9.named
  have hlocks := B9.notSynchronized
  have hS : gS s0 s.heap s.heap [] := va_S.rf
  have hRm : 2 ≤ (headSpec (Cond.code yX4_negated cX4_negated 3 (some .int) :: tg) ({ frames := 2, cells := 0, slots := 0, locals := 46 })).room.frames ∧ 46 ≤ (headSpec (Cond.code yX4_negated cX4_negated 3 (some .int) :: tg) ({ frames := 2, cells := 0, slots := 0, locals := 46 })).room.locals := ⟨Nat.le_refl _, Nat.le_refl _⟩
  have hcs : 0 + 0 ≤ (headSpec (Cond.code yX4_negated cX4_negated 3 (some .int) :: tg) ({ frames := 2, cells := 0, slots := 0, locals := 46 })).room.cells ∧ 0 + 0 ≤ (headSpec (Cond.code yX4_negated cX4_negated 3 (some .int) :: tg) ({ frames := 2, cells := 0, slots := 0, locals := 46 })).room.slots := ⟨Nat.zero_le _, Nat.zero_le _⟩
  have hl := lv_entry ([.ref h, .int (a), .int (b)]) (n := 3) (Nat.le_of_ble_eq_true rfl)
  rw [lg_entry_eq]
  generalize (lg_sl ([.ref h, .int (a), .int (b)]) ++ List.replicate (3 - (lg_sl ([.ref h, .int (a), .int (b)])).length) Slot.unset).toArray = ls at hl ⊢
  have hl : lv_has ls 3 [(0, .ref h), (1, .int (a)), (2, .int (b))] := hl
  refine lv_aload_n hx hb dX4_negated_0 rfl (lv_at hl 0 rfl) ?_
  refine lv_iconst (v := nI 0) hx hb dX4_negated_1 (by decide) ?_
  refine wd_put (ci := 5) (v := .int (nI 0)) (ty := .int) (C := RX4) (T := TX4) (N := 21) hx hb hts iwX4 tyX4 tyX4_ok nmX4 hown hK.1 hP hS (by omega) (mW_0) rfl 0 (by decide) (hts _ (tg_tail _ tw_426)) (fun _ h9 => h9) rfl (by decide +kernel) (rfl) (rfl) (Nat.le_of_ble_eq_true rfl) dX4_negated_2 (fun H locs hP hS hz => ?_)
  have hP : gP g (mW g w h (nI 0) nt (nI P) mo gb wr nr su pr ob ki fi se ta nd ii sp qu rF rT rD) H := by have h9 : gP g (wd_up (mW g w h rf nt (nI P) mo gb wr nr su pr ob ki fi se ta nd ii sp qu rF rT rD) h (.inr (5, [.int (nI 0), .ref (h + 1), .ref (h + 2), .ref (h + 3), .int (nt), .ref (h + 4), .ref (h + 5), .ref (h + 6), .int (nI P), .int (mo), .ref (h + 7), .ref (h + 8), .ref (h + 9), .int (gb), .ref (h + 10), .ref (h + 11), .int (wr), .int (nr), .ref (h + 12), .ref (h + 13), .ref (h + 14)]))) H := hP; rw [mW_s0] at h9; exact h9
  refine lv_iload_n hx hb dX4_negated_5 rfl (lv_at hl 1 rfl) ?_
  refine lv_iconst (v := nI 0) hx hb dX4_negated_6 (by decide) ?_
  refine lv_bipush (v := nI 15) hx hb dX4_negated_7 (by decide) ?_
  refine cr_Si (As := [.int (a), .int (nI 0), .int (nI 15)]) (rest := []) ⟨hx, hb, hml, hown, hts⟩ (c_X4_isBetween l g s0 (mW g w h (nI 0) nt (nI P) mo gb wr nr su pr ob ki fi se ta nd ii sp qu rF rT rD) (a) (nI 0) (nI 15)) (cw_S 3 hts tg_tail tw_502 tw_503 tw_4 tw_504 rfl rfl (by decide +kernel) ⟨Nat.le_trans (by decide) hRm.1, Nat.le_trans (by decide) hRm.2⟩) hK hP h0s hS rfl hl.1 rfl (Nat.le_of_ble_eq_true rfl) dX4_negated_9 hcs (fun r9 w9 H locs hw hP hS => ?_)
  obtain ⟨e_r9, hw9⟩ := hw
  rw [hw9] at hP
  subst e_r9
  refine lv_if_eq (tgt := 25) hx hb dX4_negated_12 (by decide) (fun c_12 => ?_) (fun c_12 => ?_)
  · have c_12 := zB_0.mp c_12
    refine lv_bipush (v := (-2)) hx hb dX4_negated_25 (by decide) ?_
    exact W.iret (v := (-2)) hx hb hr (fun t ht hW => ⟨⟨_, (mW g w h (nI 0) nt (nI P) mo gb wr nr su pr ob ki fi se ta nd ii sp qu rF rT rD), rfl, Or.inl ⟨by clear hts hP hK hx hb hr hown hS hRm hcs hl hlocks; grind, rfl, rfl⟩, cB_of ht hP⟩, hS.F ht⟩) hS.2.2 dX4_negated_27
  · have c_12 := zB_1.mp c_12
    refine lv_iload_n hx hb dX4_negated_15 rfl (lv_at hl 2 rfl) ?_
    refine lv_iconst (v := (-1)) hx hb dX4_negated_16 (by decide) ?_
    refine lv_bipush (v := nI 15) hx hb dX4_negated_17 (by decide) ?_
    refine cr_Si (As := [.int (b), .int ((-1)), .int (nI 15)]) (rest := []) ⟨hx, hb, hml, hown, hts⟩ (c_X4_isBetween l g s0 (mW g w h (nI 0) nt (nI P) mo gb wr nr su pr ob ki fi se ta nd ii sp qu rF rT rD) (b) (-1) (nI 15)) (cw_S 3 hts tg_tail tw_502 tw_503 tw_4 tw_504 rfl rfl (by decide +kernel) ⟨Nat.le_trans (by decide) hRm.1, Nat.le_trans (by decide) hRm.2⟩) hK hP h0s hS rfl hl.1 rfl (Nat.le_of_ble_eq_true rfl) dX4_negated_19 hcs (fun r9 w9 H locs hw hP hS => ?_)
    obtain ⟨e_r9, hw9⟩ := hw
    rw [hw9] at hP
    subst e_r9
    refine lv_if_ne (tgt := 28) hx hb dX4_negated_22 (by decide) (fun c_22 => ?_) (fun c_22 => ?_)
    · have c_22 := zB_1.mp c_22
      refine lv_aload_n hx hb dX4_negated_28 rfl (lv_at hl 0 rfl) ?_
      refine lv_bipush (v := nI 7) hx hb dX4_negated_29 (by decide) ?_
      refine lv_iload_n hx hb dX4_negated_31 rfl (lv_at hl 1 rfl) ?_
      refine lv_iload_n hx hb dX4_negated_32 rfl (lv_at hl 2 rfl) ?_
      refine cr_Vi (As := [.int (nI 7), .int (a), .int (b)]) (rest := []) ⟨hx, hb, hml, hown, hts⟩ (c_X4_made l g s0  w h hs0 (nI 0) nt mo gb wr nr su pr ob ki fi se ta nd ii sp qu rF rT rD P hP4 (nI 7) (a) (b)) (cw_V 3 hts tg_tail tw_513 tw_515 tp_22 tw_4 tw_516 rfl rfl (by decide +kernel) ⟨Nat.le_trans (by decide) hRm.1, Nat.le_trans (by decide) hRm.2⟩) hK hP h0s hS (mW_0) rfl rfl rfl hl.1 rfl (Nat.le_of_ble_eq_true rfl) dX4_negated_33 hcs (fun r9 w9 H locs hw hP hS => ?_)
      exact W.iret (v := r9) hx hb hr (fun t ht hW => ⟨⟨_, w9, rfl, Or.inr ⟨⟨c_12, c_22⟩, hw⟩, cB_of ht hP⟩, hS.F ht⟩) hS.2.2 dX4_negated_36
    · have c_22 := zB_0.mp c_22
      refine lv_bipush (v := (-2)) hx hb dX4_negated_25 (by decide) ?_
      exact W.iret (v := (-2)) hx hb hr (fun t ht hW => ⟨⟨_, (mW g w h (nI 0) nt (nI P) mo gb wr nr su pr ob ki fi se ta nd ii sp qu rF rT rD), rfl, Or.inl ⟨by clear hts hP hK hx hb hr hown hS hRm hcs hl hlocks; grind, rfl, rfl⟩, cB_of ht hP⟩, hS.F ht⟩) hS.2.2 dX4_negated_27

set_option maxHeartbeats 4000000 in
set_option maxRecDepth 100000 in
theorem c_X4_steps (l : Launch) (g : gX) (s0 : Nat) (w : wd_M) (h : Nat) (hs0 : s0 ≤ h) (rf nt np mo gb wr nr : Int32) (su pr ob ki fi se ta nd ii sp qu rF rT rD : Nat → Int32) (a : Int32) : Met l yX4_steps (Cond.code yX4_steps cX4_steps 2 (some .int) :: tg) ({ frames := 1, cells := 0, slots := 0, locals := 22 }) (cP g s0 (mW g w h rf nt np mo gb wr nr su pr ob ki fi se ta nd ii sp qu rF rT rD) [.ref h, .int (a)]) (cI g s0 (fun r w' => (¬ (nI 1 ≤ a ∧ a ≤ nI 1024) ∧ r = -2 ∧ w' = (mW g w h (nI 0) nt np mo gb wr nr su pr ob ki fi se ta nd ii sp qu rF rT rD)) ∨ ((nI 1 ≤ a ∧ a ≤ nI 1024) ∧ r = nI 1 ∧ w' = (mW g w h (nI 0) nt np a gb wr nr su pr ob ki fi se ta nd ii sp qu rF rT rD)))) 0 0 (cA s0) := by
  refine Met.ofW (cc := cX4_steps) (maxL := 2) (ret := some .int) (by decide) rfl ?_
  intro p e s m args below meth c s₁ B9 hml hv
  obtain ⟨rfl, h0s, hP, hK⟩ := hv
  have hx := B9.exec
  have hb := B9.bytes
  have hr := B9.returns
  have hts := atoms_spec (ws := Cond.code yX4_steps cX4_steps 2 (some .int) :: tg) B9.pre
  have hown : s.vm.findClass RX4 = some m.cls := findClass_of_methodNamed B9.named
  have hlocks := B9.notSynchronized
  have hS : gS s0 s.heap s.heap [] := va_S.rf
  have hRm : 1 ≤ (headSpec (Cond.code yX4_steps cX4_steps 2 (some .int) :: tg) ({ frames := 1, cells := 0, slots := 0, locals := 22 })).room.frames ∧ 22 ≤ (headSpec (Cond.code yX4_steps cX4_steps 2 (some .int) :: tg) ({ frames := 1, cells := 0, slots := 0, locals := 22 })).room.locals := ⟨Nat.le_refl _, Nat.le_refl _⟩
  have hcs : 0 + 0 ≤ (headSpec (Cond.code yX4_steps cX4_steps 2 (some .int) :: tg) ({ frames := 1, cells := 0, slots := 0, locals := 22 })).room.cells ∧ 0 + 0 ≤ (headSpec (Cond.code yX4_steps cX4_steps 2 (some .int) :: tg) ({ frames := 1, cells := 0, slots := 0, locals := 22 })).room.slots := ⟨Nat.zero_le _, Nat.zero_le _⟩
  have hl := lv_entry ([.ref h, .int (a)]) (n := 2) (Nat.le_of_ble_eq_true rfl)
  rw [lg_entry_eq]
  generalize (lg_sl ([.ref h, .int (a)]) ++ List.replicate (2 - (lg_sl ([.ref h, .int (a)])).length) Slot.unset).toArray = ls at hl ⊢
  have hl : lv_has ls 2 [(0, .ref h), (1, .int (a))] := hl
  refine lv_aload_n hx hb dX4_steps_0 rfl (lv_at hl 0 rfl) ?_
  refine lv_iconst (v := nI 0) hx hb dX4_steps_1 (by decide) ?_
  refine wd_put (ci := 5) (v := .int (nI 0)) (ty := .int) (C := RX4) (T := TX4) (N := 21) hx hb hts iwX4 tyX4 tyX4_ok nmX4 hown hK.1 hP hS (by omega) (mW_0) rfl 0 (by decide) (hts _ (tg_tail _ tw_426)) (fun _ h9 => h9) rfl (by decide +kernel) (rfl) (rfl) (Nat.le_of_ble_eq_true rfl) dX4_steps_2 (fun H locs hP hS hz => ?_)
  have hP : gP g (mW g w h (nI 0) nt np mo gb wr nr su pr ob ki fi se ta nd ii sp qu rF rT rD) H := by have h9 : gP g (wd_up (mW g w h rf nt np mo gb wr nr su pr ob ki fi se ta nd ii sp qu rF rT rD) h (.inr (5, [.int (nI 0), .ref (h + 1), .ref (h + 2), .ref (h + 3), .int (nt), .ref (h + 4), .ref (h + 5), .ref (h + 6), .int (np), .int (mo), .ref (h + 7), .ref (h + 8), .ref (h + 9), .int (gb), .ref (h + 10), .ref (h + 11), .int (wr), .int (nr), .ref (h + 12), .ref (h + 13), .ref (h + 14)]))) H := hP; rw [mW_s0] at h9; exact h9
  refine lv_iload_n hx hb dX4_steps_5 rfl (lv_at hl 1 rfl) ?_
  refine lv_iconst (v := nI 1) hx hb dX4_steps_6 (by decide) ?_
  refine lv_sipush (v := nI 1024) hx hb dX4_steps_7 (by decide +kernel) ?_
  refine cr_Si (As := [.int (a), .int (nI 1), .int (nI 1024)]) (rest := []) ⟨hx, hb, hml, hown, hts⟩ (c_X4_isBetween l g s0 (mW g w h (nI 0) nt np mo gb wr nr su pr ob ki fi se ta nd ii sp qu rF rT rD) (a) (nI 1) (nI 1024)) (cw_S 3 hts tg_tail tw_502 tw_503 tw_4 tw_504 rfl rfl (by decide +kernel) ⟨Nat.le_trans (by decide) hRm.1, Nat.le_trans (by decide) hRm.2⟩) hK hP h0s hS rfl hl.1 rfl (Nat.le_of_ble_eq_true rfl) dX4_steps_10 hcs (fun r9 w9 H locs hw hP hS => ?_)
  obtain ⟨e_r9, hw9⟩ := hw
  rw [hw9] at hP
  subst e_r9
  refine lv_if_ne (tgt := 19) hx hb dX4_steps_13 (by decide) (fun c_13 => ?_) (fun c_13 => ?_)
  · have c_13 := zB_1.mp c_13
    refine lv_aload_n hx hb dX4_steps_19 rfl (lv_at hl 0 rfl) ?_
    refine lv_iload_n hx hb dX4_steps_20 rfl (lv_at hl 1 rfl) ?_
    refine wd_put (ci := 5) (v := .int (a)) (ty := .int) (C := RX4) (T := TX4) (N := 21) hx hb hts iwX4 tyX4 tyX4_ok nmX4 hown hK.1 hP hS (by omega) (mW_0) rfl 9 (by decide) (hts _ (tg_tail _ tw_435)) (fun _ h9 => h9) rfl (by decide +kernel) (rfl) (rfl) (Nat.le_of_ble_eq_true rfl) dX4_steps_21 (fun H locs hP hS hz => ?_)
    have hP : gP g (mW g w h (nI 0) nt np a gb wr nr su pr ob ki fi se ta nd ii sp qu rF rT rD) H := by have h9 : gP g (wd_up (mW g w h (nI 0) nt np mo gb wr nr su pr ob ki fi se ta nd ii sp qu rF rT rD) h (.inr (5, [.int (nI 0), .ref (h + 1), .ref (h + 2), .ref (h + 3), .int (nt), .ref (h + 4), .ref (h + 5), .ref (h + 6), .int (np), .int (a), .ref (h + 7), .ref (h + 8), .ref (h + 9), .int (gb), .ref (h + 10), .ref (h + 11), .int (wr), .int (nr), .ref (h + 12), .ref (h + 13), .ref (h + 14)]))) H := hP; rw [mW_s0] at h9; exact h9
    refine lv_iconst (v := nI 1) hx hb dX4_steps_24 (by decide) ?_
    exact W.iret (v := nI 1) hx hb hr (fun t ht hW => ⟨⟨_, (mW g w h (nI 0) nt np a gb wr nr su pr ob ki fi se ta nd ii sp qu rF rT rD), rfl, Or.inr ⟨c_13, rfl, rfl⟩, cB_of ht hP⟩, hS.F ht⟩) hS.2.2 dX4_steps_25
  · have c_13 := zB_0.mp c_13
    refine lv_bipush (v := (-2)) hx hb dX4_steps_16 (by decide) ?_
    exact W.iret (v := (-2)) hx hb hr (fun t ht hW => ⟨⟨_, (mW g w h (nI 0) nt np mo gb wr nr su pr ob ki fi se ta nd ii sp qu rF rT rD), rfl, Or.inl ⟨c_13, rfl, rfl⟩, cB_of ht hP⟩, hS.F ht⟩) hS.2.2 dX4_steps_18
end
section
/-! THE REFERENCE: at, cycle, depth; from -/
def an_at (wr : Int32) (N : Nat) (F T : Nat → Int32) (i sd : Int32) : Int32 := if ¬ (sd = 0 ∨ sd = nI 1) then -2 else if wr = 0 then -3 else if ¬ (¬ i < 0 ∧ ¬ nI N ≤ i) then -1 else if sd = 0 then F i.toNatClampNeg else T i.toNatClampNeg
theorem ix_of {i : Int32} {N : Nat} (hN : N < 2 ^ 31) (h1 : ¬ i < 0) (h2 : ¬ nI N ≤ i) : ∃ k, k < N ∧ i = nI k := by
  rcases pk_ix i hN with h | h | h
  · exact absurd h h1
  · exact absurd h h2
  · exact h
def ct_from (su : Nat → Int32) (nd : Int32) : Nat → Nat
  | 0 => 0
  | k + 1 => if su k = nd then ct_from su nd k + 1 else ct_from su nd k
set_option maxHeartbeats 4000000 in
set_option maxRecDepth 100000 in
theorem c_X4_at (l : Launch) (g : gX) (s0 : Nat) (w : wd_M) (h : Nat) (hs0 : s0 ≤ h) (rf nt np mo gb wr : Int32) (su pr ob ki fi se ta nd ii sp qu rF rT rD : Nat → Int32) (N : Nat) (hN : N ≤ 2000) (i sd : Int32) : Met l yX4_at (Cond.code yX4_at cX4_at 3 (some .int) :: tg) ({ frames := 1, cells := 0, slots := 0, locals := 21 }) (cP g s0 (mW g w h rf nt np mo gb wr (nI N) su pr ob ki fi se ta nd ii sp qu rF rT rD) [.ref h, .int (i), .int (sd)]) (cI g s0 (fun r w' => r = an_at wr N rF rT i sd ∧ w' = (mW g w h (nI 0) nt np mo gb wr (nI N) su pr ob ki fi se ta nd ii sp qu rF rT rD))) 0 0 (cA s0) := by
  refine Met.ofW (cc := cX4_at) (maxL := 3) (ret := some .int) (by decide) rfl ?_
  intro p e s m args below meth c s₁ B9 hml hv
  obtain ⟨rfl, h0s, hP, hK⟩ := hv
  have hx := B9.exec
  have hb := B9.bytes
  have hr := B9.returns
  have hts := atoms_spec (ws := Cond.code yX4_at cX4_at 3 (some .int) :: tg) B9.pre
  have hown : s.vm.findClass RX4 = some m.cls := findClass_of_methodNamed B9.named
  have hlocks := B9.notSynchronized
  have hS : gS s0 s.heap s.heap [] := va_S.rf
  have hRm : 1 ≤ (headSpec (Cond.code yX4_at cX4_at 3 (some .int) :: tg) ({ frames := 1, cells := 0, slots := 0, locals := 21 })).room.frames ∧ 21 ≤ (headSpec (Cond.code yX4_at cX4_at 3 (some .int) :: tg) ({ frames := 1, cells := 0, slots := 0, locals := 21 })).room.locals := ⟨Nat.le_refl _, Nat.le_refl _⟩
  have hcs : 0 + 0 ≤ (headSpec (Cond.code yX4_at cX4_at 3 (some .int) :: tg) ({ frames := 1, cells := 0, slots := 0, locals := 21 })).room.cells ∧ 0 + 0 ≤ (headSpec (Cond.code yX4_at cX4_at 3 (some .int) :: tg) ({ frames := 1, cells := 0, slots := 0, locals := 21 })).room.slots := ⟨Nat.zero_le _, Nat.zero_le _⟩
  have hl := lv_entry ([.ref h, .int (i), .int (sd)]) (n := 3) (Nat.le_of_ble_eq_true rfl)
  rw [lg_entry_eq]
  generalize (lg_sl ([.ref h, .int (i), .int (sd)]) ++ List.replicate (3 - (lg_sl ([.ref h, .int (i), .int (sd)])).length) Slot.unset).toArray = ls at hl ⊢
  have hl : lv_has ls 3 [(0, .ref h), (1, .int (i)), (2, .int (sd))] := hl
  refine lv_aload_n hx hb dX4_at_0 rfl (lv_at hl 0 rfl) ?_
  refine lv_iconst (v := nI 0) hx hb dX4_at_1 (by decide) ?_
  refine wd_put (ci := 5) (v := .int (nI 0)) (ty := .int) (C := RX4) (T := TX4) (N := 21) hx hb hts iwX4 tyX4 tyX4_ok nmX4 hown hK.1 hP hS (by omega) (mW_0) rfl 0 (by decide) (hts _ (tg_tail _ tw_426)) (fun _ h9 => h9) rfl (by decide +kernel) (rfl) (rfl) (Nat.le_of_ble_eq_true rfl) dX4_at_2 (fun H locs hP hS hz => ?_)
  have hP : gP g (mW g w h (nI 0) nt np mo gb wr (nI N) su pr ob ki fi se ta nd ii sp qu rF rT rD) H := by have h9 : gP g (wd_up (mW g w h rf nt np mo gb wr (nI N) su pr ob ki fi se ta nd ii sp qu rF rT rD) h (.inr (5, [.int (nI 0), .ref (h + 1), .ref (h + 2), .ref (h + 3), .int (nt), .ref (h + 4), .ref (h + 5), .ref (h + 6), .int (np), .int (mo), .ref (h + 7), .ref (h + 8), .ref (h + 9), .int (gb), .ref (h + 10), .ref (h + 11), .int (wr), .int (nI N), .ref (h + 12), .ref (h + 13), .ref (h + 14)]))) H := hP; rw [mW_s0] at h9; exact h9
  refine lv_iload_n hx hb dX4_at_5 rfl (lv_at hl 2 rfl) ?_
  refine lv_if_eq (tgt := 17) hx hb dX4_at_6 (by decide) (fun c_6 => ?_) (fun c_6 => ?_)
  · refine lv_aload_n hx hb dX4_at_17 rfl (lv_at hl 0 rfl) ?_
    refine wd_get (ci := 5) (v := .int (wr)) (C := RX4) (T := TX4) (N := 21) hx hb hts iwX4 hown hK.1 hP (mW_0) rfl 16 (by decide) (hts _ (tg_tail _ tw_442)) (fun _ h9 => h9) rfl dX4_at_18 ?_
    refine lv_if_ne (tgt := 27) hx hb dX4_at_21 (by decide) (fun c_21 => ?_) (fun c_21 => ?_)
    · refine lv_aload_n hx hb dX4_at_27 rfl (lv_at hl 0 rfl) ?_
      refine lv_iload_n hx hb dX4_at_28 rfl (lv_at hl 1 rfl) ?_
      refine cr_Vi (As := [.int (i)]) (rest := []) ⟨hx, hb, hml, hown, hts⟩ (c_X4_isRow l g s0  w h hs0 (nI 0) nt np mo gb wr su pr ob ki fi se ta nd ii sp qu rF rT rD N hN i) (cw_V 1 hts tg_tail tw_592 tw_594 tp_33 tw_4 tw_595 rfl rfl (by decide +kernel) ⟨Nat.le_trans (by decide) hRm.1, Nat.le_trans (by decide) hRm.2⟩) hK hP h0s hS (mW_0) rfl rfl rfl hl.1 rfl (Nat.le_of_ble_eq_true rfl) dX4_at_29 hcs (fun r9 w9 H locs hw hP hS => ?_)
      obtain ⟨e_r9, hw9⟩ := hw
      rw [hw9] at hP
      subst e_r9
      refine lv_if_ne (tgt := 39) hx hb dX4_at_32 (by decide) (fun c_32 => ?_) (fun c_32 => ?_)
      · have c_32 := zB_1.mp c_32
        obtain ⟨k, hk, hik⟩ := ix_of (by omega) (c_32).2.1 (c_32).2.2
        subst hik
        have hcl := nI_clamp (n := k) (by omega)
        refine lv_iload_n hx hb dX4_at_39 rfl (lv_at hl 2 rfl) ?_
        refine lv_if_ne (tgt := 52) hx hb dX4_at_40 (by decide) (fun c_40 => ?_) (fun c_40 => ?_)
        · refine lv_aload_n hx hb dX4_at_52 rfl (lv_at hl 0 rfl) ?_
          refine wd_get (ci := 5) (v := .ref (h + 13)) (C := RX4) (T := TX4) (N := 21) hx hb hts iwX4 hown hK.1 hP (mW_0) rfl 19 (by decide) (hts _ (tg_tail _ tw_445)) (fun _ h9 => h9) rfl dX4_at_53 ?_
          refine lv_iload_n hx hb dX4_at_56 rfl (lv_at hl 1 rfl) ?_
          refine wd_ildN hx hb hK.1 hP 0 (k := k) (mW_13) rfl (by omega) (by decide) dX4_at_57 ?_
          exact W.iret (v := rT k) hx hb hr (fun t ht hW => ⟨⟨_, (mW g w h (nI 0) nt np mo gb wr (nI N) su pr ob ki fi se ta nd ii sp qu rF rT rD), rfl, ⟨by clear hts hP hK hx hb hr hown hS hRm hcs hl hlocks; grind [an_at], rfl⟩, cB_of ht hP⟩, hS.F ht⟩) hS.2.2 dX4_at_58
        · refine lv_aload_n hx hb dX4_at_43 rfl (lv_at hl 0 rfl) ?_
          refine wd_get (ci := 5) (v := .ref (h + 12)) (C := RX4) (T := TX4) (N := 21) hx hb hts iwX4 hown hK.1 hP (mW_0) rfl 18 (by decide) (hts _ (tg_tail _ tw_444)) (fun _ h9 => h9) rfl dX4_at_44 ?_
          refine lv_iload_n hx hb dX4_at_47 rfl (lv_at hl 1 rfl) ?_
          refine wd_ildN hx hb hK.1 hP 0 (k := k) (mW_12) rfl (by omega) (by decide) dX4_at_48 ?_
          refine lv_goto (tgt := 58) hx hb dX4_at_49 (by decide) ?_
          exact W.iret (v := rF k) hx hb hr (fun t ht hW => ⟨⟨_, (mW g w h (nI 0) nt np mo gb wr (nI N) su pr ob ki fi se ta nd ii sp qu rF rT rD), rfl, ⟨by clear hts hP hK hx hb hr hown hS hRm hcs hl hlocks; grind [an_at], rfl⟩, cB_of ht hP⟩, hS.F ht⟩) hS.2.2 dX4_at_58
      · have c_32 := zB_0.mp c_32
        refine lv_iconst (v := (-1)) hx hb dX4_at_35 (by decide) ?_
        refine lv_goto (tgt := 58) hx hb dX4_at_36 (by decide) ?_
        exact W.iret (v := (-1)) hx hb hr (fun t ht hW => ⟨⟨_, (mW g w h (nI 0) nt np mo gb wr (nI N) su pr ob ki fi se ta nd ii sp qu rF rT rD), rfl, ⟨by clear hts hP hK hx hb hr hown hS hRm hcs hl hlocks; grind [an_at], rfl⟩, cB_of ht hP⟩, hS.F ht⟩) hS.2.2 dX4_at_58
    · refine lv_bipush (v := (-3)) hx hb dX4_at_24 (by decide) ?_
      exact W.iret (v := (-3)) hx hb hr (fun t ht hW => ⟨⟨_, (mW g w h (nI 0) nt np mo gb wr (nI N) su pr ob ki fi se ta nd ii sp qu rF rT rD), rfl, ⟨by clear hts hP hK hx hb hr hown hS hRm hcs hl hlocks; grind [an_at], rfl⟩, cB_of ht hP⟩, hS.F ht⟩) hS.2.2 dX4_at_26
  · refine lv_iload_n hx hb dX4_at_9 rfl (lv_at hl 2 rfl) ?_
    refine lv_iconst (v := nI 1) hx hb dX4_at_10 (by decide) ?_
    refine lv_icmp_eq (tgt := 17) hx hb dX4_at_11 (by decide) (fun c_11 => ?_) (fun c_11 => ?_)
    · refine lv_aload_n hx hb dX4_at_17 rfl (lv_at hl 0 rfl) ?_
      refine wd_get (ci := 5) (v := .int (wr)) (C := RX4) (T := TX4) (N := 21) hx hb hts iwX4 hown hK.1 hP (mW_0) rfl 16 (by decide) (hts _ (tg_tail _ tw_442)) (fun _ h9 => h9) rfl dX4_at_18 ?_
      refine lv_if_ne (tgt := 27) hx hb dX4_at_21 (by decide) (fun c_21 => ?_) (fun c_21 => ?_)
      · refine lv_aload_n hx hb dX4_at_27 rfl (lv_at hl 0 rfl) ?_
        refine lv_iload_n hx hb dX4_at_28 rfl (lv_at hl 1 rfl) ?_
        refine cr_Vi (As := [.int (i)]) (rest := []) ⟨hx, hb, hml, hown, hts⟩ (c_X4_isRow l g s0  w h hs0 (nI 0) nt np mo gb wr su pr ob ki fi se ta nd ii sp qu rF rT rD N hN i) (cw_V 1 hts tg_tail tw_592 tw_594 tp_33 tw_4 tw_595 rfl rfl (by decide +kernel) ⟨Nat.le_trans (by decide) hRm.1, Nat.le_trans (by decide) hRm.2⟩) hK hP h0s hS (mW_0) rfl rfl rfl hl.1 rfl (Nat.le_of_ble_eq_true rfl) dX4_at_29 hcs (fun r9 w9 H locs hw hP hS => ?_)
        obtain ⟨e_r9, hw9⟩ := hw
        rw [hw9] at hP
        subst e_r9
        refine lv_if_ne (tgt := 39) hx hb dX4_at_32 (by decide) (fun c_32 => ?_) (fun c_32 => ?_)
        · have c_32 := zB_1.mp c_32
          obtain ⟨k, hk, hik⟩ := ix_of (by omega) (c_32).2.1 (c_32).2.2
          subst hik
          have hcl := nI_clamp (n := k) (by omega)
          refine lv_iload_n hx hb dX4_at_39 rfl (lv_at hl 2 rfl) ?_
          refine lv_if_ne (tgt := 52) hx hb dX4_at_40 (by decide) (fun c_40 => ?_) (fun c_40 => ?_)
          · refine lv_aload_n hx hb dX4_at_52 rfl (lv_at hl 0 rfl) ?_
            refine wd_get (ci := 5) (v := .ref (h + 13)) (C := RX4) (T := TX4) (N := 21) hx hb hts iwX4 hown hK.1 hP (mW_0) rfl 19 (by decide) (hts _ (tg_tail _ tw_445)) (fun _ h9 => h9) rfl dX4_at_53 ?_
            refine lv_iload_n hx hb dX4_at_56 rfl (lv_at hl 1 rfl) ?_
            refine wd_ildN hx hb hK.1 hP 0 (k := k) (mW_13) rfl (by omega) (by decide) dX4_at_57 ?_
            exact W.iret (v := rT k) hx hb hr (fun t ht hW => ⟨⟨_, (mW g w h (nI 0) nt np mo gb wr (nI N) su pr ob ki fi se ta nd ii sp qu rF rT rD), rfl, ⟨by clear hts hP hK hx hb hr hown hS hRm hcs hl hlocks; grind [an_at], rfl⟩, cB_of ht hP⟩, hS.F ht⟩) hS.2.2 dX4_at_58
          · refine lv_aload_n hx hb dX4_at_43 rfl (lv_at hl 0 rfl) ?_
            refine wd_get (ci := 5) (v := .ref (h + 12)) (C := RX4) (T := TX4) (N := 21) hx hb hts iwX4 hown hK.1 hP (mW_0) rfl 18 (by decide) (hts _ (tg_tail _ tw_444)) (fun _ h9 => h9) rfl dX4_at_44 ?_
            refine lv_iload_n hx hb dX4_at_47 rfl (lv_at hl 1 rfl) ?_
            refine wd_ildN hx hb hK.1 hP 0 (k := k) (mW_12) rfl (by omega) (by decide) dX4_at_48 ?_
            refine lv_goto (tgt := 58) hx hb dX4_at_49 (by decide) ?_
            exact W.iret (v := rF k) hx hb hr (fun t ht hW => ⟨⟨_, (mW g w h (nI 0) nt np mo gb wr (nI N) su pr ob ki fi se ta nd ii sp qu rF rT rD), rfl, ⟨by clear hts hP hK hx hb hr hown hS hRm hcs hl hlocks; grind [an_at], rfl⟩, cB_of ht hP⟩, hS.F ht⟩) hS.2.2 dX4_at_58
        · have c_32 := zB_0.mp c_32
          refine lv_iconst (v := (-1)) hx hb dX4_at_35 (by decide) ?_
          refine lv_goto (tgt := 58) hx hb dX4_at_36 (by decide) ?_
          exact W.iret (v := (-1)) hx hb hr (fun t ht hW => ⟨⟨_, (mW g w h (nI 0) nt np mo gb wr (nI N) su pr ob ki fi se ta nd ii sp qu rF rT rD), rfl, ⟨by clear hts hP hK hx hb hr hown hS hRm hcs hl hlocks; grind [an_at], rfl⟩, cB_of ht hP⟩, hS.F ht⟩) hS.2.2 dX4_at_58
      · refine lv_bipush (v := (-3)) hx hb dX4_at_24 (by decide) ?_
        exact W.iret (v := (-3)) hx hb hr (fun t ht hW => ⟨⟨_, (mW g w h (nI 0) nt np mo gb wr (nI N) su pr ob ki fi se ta nd ii sp qu rF rT rD), rfl, ⟨by clear hts hP hK hx hb hr hown hS hRm hcs hl hlocks; grind [an_at], rfl⟩, cB_of ht hP⟩, hS.F ht⟩) hS.2.2 dX4_at_26
    · refine lv_bipush (v := (-2)) hx hb dX4_at_14 (by decide) ?_
      exact W.iret (v := (-2)) hx hb hr (fun t ht hW => ⟨⟨_, (mW g w h (nI 0) nt np mo gb wr (nI N) su pr ob ki fi se ta nd ii sp qu rF rT rD), rfl, ⟨by clear hts hP hK hx hb hr hown hS hRm hcs hl hlocks; grind [an_at], rfl⟩, cB_of ht hP⟩, hS.F ht⟩) hS.2.2 dX4_at_16

set_option maxHeartbeats 4000000 in
set_option maxRecDepth 100000 in
theorem c_X4_cycle (l : Launch) (g : gX) (s0 : Nat) (w : wd_M) (h : Nat) (hs0 : s0 ≤ h) (rf nt np mo gb wr : Int32) (su pr ob ki fi se ta nd ii sp qu rF rT rD : Nat → Int32) (N : Nat) (hN : N ≤ 2000) (i : Int32) : Met l yX4_cycle (Cond.code yX4_cycle cX4_cycle 2 (some .boolean) :: tg) ({ frames := 1, cells := 0, slots := 0, locals := 21 }) (cP g s0 (mW g w h rf nt np mo gb wr (nI N) su pr ob ki fi se ta nd ii sp qu rF rT rD) [.ref h, .int (i)]) (cI g s0 (fun r w' => r = zB ((¬ wr = 0 ∧ ¬ i < 0 ∧ ¬ nI N ≤ i) ∧ rF i.toNatClampNeg = rT i.toNatClampNeg) ∧ w' = (mW g w h (nI 0) nt np mo gb wr (nI N) su pr ob ki fi se ta nd ii sp qu rF rT rD))) 0 0 (cA s0) := by
  refine Met.ofW (cc := cX4_cycle) (maxL := 2) (ret := some .boolean) (by decide) rfl ?_
  intro p e s m args below meth c s₁ B9 hml hv
  obtain ⟨rfl, h0s, hP, hK⟩ := hv
  have hx := B9.exec
  have hb := B9.bytes
  have hr := B9.returns
  have hts := atoms_spec (ws := Cond.code yX4_cycle cX4_cycle 2 (some .boolean) :: tg) B9.pre
  have hown : s.vm.findClass RX4 = some m.cls := findClass_of_methodNamed B9.named
  have hlocks := B9.notSynchronized
  have hS : gS s0 s.heap s.heap [] := va_S.rf
  have hRm : 1 ≤ (headSpec (Cond.code yX4_cycle cX4_cycle 2 (some .boolean) :: tg) ({ frames := 1, cells := 0, slots := 0, locals := 21 })).room.frames ∧ 21 ≤ (headSpec (Cond.code yX4_cycle cX4_cycle 2 (some .boolean) :: tg) ({ frames := 1, cells := 0, slots := 0, locals := 21 })).room.locals := ⟨Nat.le_refl _, Nat.le_refl _⟩
  have hcs : 0 + 0 ≤ (headSpec (Cond.code yX4_cycle cX4_cycle 2 (some .boolean) :: tg) ({ frames := 1, cells := 0, slots := 0, locals := 21 })).room.cells ∧ 0 + 0 ≤ (headSpec (Cond.code yX4_cycle cX4_cycle 2 (some .boolean) :: tg) ({ frames := 1, cells := 0, slots := 0, locals := 21 })).room.slots := ⟨Nat.zero_le _, Nat.zero_le _⟩
  have hl := lv_entry ([.ref h, .int (i)]) (n := 2) (Nat.le_of_ble_eq_true rfl)
  rw [lg_entry_eq]
  generalize (lg_sl ([.ref h, .int (i)]) ++ List.replicate (2 - (lg_sl ([.ref h, .int (i)])).length) Slot.unset).toArray = ls at hl ⊢
  have hl : lv_has ls 2 [(0, .ref h), (1, .int (i))] := hl
  refine lv_aload_n hx hb dX4_cycle_0 rfl (lv_at hl 0 rfl) ?_
  refine lv_iconst (v := nI 0) hx hb dX4_cycle_1 (by decide) ?_
  refine wd_put (ci := 5) (v := .int (nI 0)) (ty := .int) (C := RX4) (T := TX4) (N := 21) hx hb hts iwX4 tyX4 tyX4_ok nmX4 hown hK.1 hP hS (by omega) (mW_0) rfl 0 (by decide) (hts _ (tg_tail _ tw_426)) (fun _ h9 => h9) rfl (by decide +kernel) (rfl) (rfl) (Nat.le_of_ble_eq_true rfl) dX4_cycle_2 (fun H locs hP hS hz => ?_)
  have hP : gP g (mW g w h (nI 0) nt np mo gb wr (nI N) su pr ob ki fi se ta nd ii sp qu rF rT rD) H := by have h9 : gP g (wd_up (mW g w h rf nt np mo gb wr (nI N) su pr ob ki fi se ta nd ii sp qu rF rT rD) h (.inr (5, [.int (nI 0), .ref (h + 1), .ref (h + 2), .ref (h + 3), .int (nt), .ref (h + 4), .ref (h + 5), .ref (h + 6), .int (np), .int (mo), .ref (h + 7), .ref (h + 8), .ref (h + 9), .int (gb), .ref (h + 10), .ref (h + 11), .int (wr), .int (nI N), .ref (h + 12), .ref (h + 13), .ref (h + 14)]))) H := hP; rw [mW_s0] at h9; exact h9
  refine lv_aload_n hx hb dX4_cycle_5 rfl (lv_at hl 0 rfl) ?_
  refine lv_iload_n hx hb dX4_cycle_6 rfl (lv_at hl 1 rfl) ?_
  refine cr_Vi (As := [.int (i)]) (rest := []) ⟨hx, hb, hml, hown, hts⟩ (c_X4_isRow l g s0  w h hs0 (nI 0) nt np mo gb wr su pr ob ki fi se ta nd ii sp qu rF rT rD N hN i) (cw_V 1 hts tg_tail tw_592 tw_594 tp_33 tw_4 tw_595 rfl rfl (by decide +kernel) ⟨Nat.le_trans (by decide) hRm.1, Nat.le_trans (by decide) hRm.2⟩) hK hP h0s hS (mW_0) rfl rfl rfl hl.1 rfl (Nat.le_of_ble_eq_true rfl) dX4_cycle_7 hcs (fun r9 w9 H locs hw hP hS => ?_)
  obtain ⟨e_r9, hw9⟩ := hw
  rw [hw9] at hP
  subst e_r9
  refine lv_if_eq (tgt := 32) hx hb dX4_cycle_10 (by decide) (fun c_10 => ?_) (fun c_10 => ?_)
  · have c_10 := zB_0.mp c_10
    refine lv_iconst (v := nI 0) hx hb dX4_cycle_32 (by decide) ?_
    exact W.zret (ty := .boolean) (v := nI 0) hx hb hr (by rfl) (fun t ht hW => ⟨⟨_, (mW g w h (nI 0) nt np mo gb wr (nI N) su pr ob ki fi se ta nd ii sp qu rF rT rD), rfl, ⟨by clear hts hP hK hx hb hr hown hS hRm hcs hl hlocks; unfold zB; grind [nI_0, nI_o], rfl⟩, cB_of ht hP⟩, hS.F ht⟩) hS.2.2 dX4_cycle_33
  · have c_10 := zB_1.mp c_10
    obtain ⟨k, hk, hik⟩ := ix_of (by omega) (c_10).2.1 (c_10).2.2
    subst hik
    have hcl := nI_clamp (n := k) (by omega)
    refine lv_aload_n hx hb dX4_cycle_13 rfl (lv_at hl 0 rfl) ?_
    refine wd_get (ci := 5) (v := .ref (h + 12)) (C := RX4) (T := TX4) (N := 21) hx hb hts iwX4 hown hK.1 hP (mW_0) rfl 18 (by decide) (hts _ (tg_tail _ tw_444)) (fun _ h9 => h9) rfl dX4_cycle_14 ?_
    refine lv_iload_n hx hb dX4_cycle_17 rfl (lv_at hl 1 rfl) ?_
    refine wd_ildN hx hb hK.1 hP 0 (k := k) (mW_12) rfl (by omega) (by decide) dX4_cycle_18 ?_
    refine lv_aload_n hx hb dX4_cycle_19 rfl (lv_at hl 0 rfl) ?_
    refine wd_get (ci := 5) (v := .ref (h + 13)) (C := RX4) (T := TX4) (N := 21) hx hb hts iwX4 hown hK.1 hP (mW_0) rfl 19 (by decide) (hts _ (tg_tail _ tw_445)) (fun _ h9 => h9) rfl dX4_cycle_20 ?_
    refine lv_iload_n hx hb dX4_cycle_23 rfl (lv_at hl 1 rfl) ?_
    refine wd_ildN hx hb hK.1 hP 0 (k := k) (mW_13) rfl (by omega) (by decide) dX4_cycle_24 ?_
    refine lv_icmp_ne (tgt := 32) hx hb dX4_cycle_25 (by decide) (fun c_25 => ?_) (fun c_25 => ?_)
    · refine lv_iconst (v := nI 0) hx hb dX4_cycle_32 (by decide) ?_
      exact W.zret (ty := .boolean) (v := nI 0) hx hb hr (by rfl) (fun t ht hW => ⟨⟨_, (mW g w h (nI 0) nt np mo gb wr (nI N) su pr ob ki fi se ta nd ii sp qu rF rT rD), rfl, ⟨by clear hts hP hK hx hb hr hown hS hRm hcs hl hlocks; unfold zB; grind [nI_0, nI_o], rfl⟩, cB_of ht hP⟩, hS.F ht⟩) hS.2.2 dX4_cycle_33
    · refine lv_iconst (v := nI 1) hx hb dX4_cycle_28 (by decide) ?_
      refine lv_goto (tgt := 33) hx hb dX4_cycle_29 (by decide) ?_
      exact W.zret (ty := .boolean) (v := nI 1) hx hb hr (by rfl) (fun t ht hW => ⟨⟨_, (mW g w h (nI 0) nt np mo gb wr (nI N) su pr ob ki fi se ta nd ii sp qu rF rT rD), rfl, ⟨by clear hts hP hK hx hb hr hown hS hRm hcs hl hlocks; unfold zB; grind [nI_0, nI_o], rfl⟩, cB_of ht hP⟩, hS.F ht⟩) hS.2.2 dX4_cycle_33

set_option maxHeartbeats 4000000 in
set_option maxRecDepth 100000 in
theorem c_X4_depth (l : Launch) (g : gX) (s0 : Nat) (w : wd_M) (h : Nat) (hs0 : s0 ≤ h) (rf nt np mo gb wr : Int32) (su pr ob ki fi se ta nd ii sp qu rF rT rD : Nat → Int32) (N : Nat) (hN : N ≤ 2000) (i : Int32) : Met l yX4_depth (Cond.code yX4_depth cX4_depth 2 (some .int) :: tg) ({ frames := 1, cells := 0, slots := 0, locals := 21 }) (cP g s0 (mW g w h rf nt np mo gb wr (nI N) su pr ob ki fi se ta nd ii sp qu rF rT rD) [.ref h, .int (i)]) (cI g s0 (fun r w' => ((¬ wr = 0 ∧ ¬ i < 0 ∧ ¬ nI N ≤ i) ∧ r = rD i.toNatClampNeg ∧ w' = (mW g w h (nI 0) nt np mo gb wr (nI N) su pr ob ki fi se ta nd ii sp qu rF rT rD)) ∨ (¬ (¬ wr = 0 ∧ ¬ i < 0 ∧ ¬ nI N ≤ i) ∧ r = nI 0 ∧ w' = (mW g w h (nI 1) nt np mo gb wr (nI N) su pr ob ki fi se ta nd ii sp qu rF rT rD)))) 0 0 (cA s0) := by
  refine Met.ofW (cc := cX4_depth) (maxL := 2) (ret := some .int) (by decide) rfl ?_
  intro p e s m args below meth c s₁ B9 hml hv
  obtain ⟨rfl, h0s, hP, hK⟩ := hv
  have hx := B9.exec
  have hb := B9.bytes
  have hr := B9.returns
  have hts := atoms_spec (ws := Cond.code yX4_depth cX4_depth 2 (some .int) :: tg) B9.pre
  have hown : s.vm.findClass RX4 = some m.cls := findClass_of_methodNamed B9.named
  have hlocks := B9.notSynchronized
  have hS : gS s0 s.heap s.heap [] := va_S.rf
  have hRm : 1 ≤ (headSpec (Cond.code yX4_depth cX4_depth 2 (some .int) :: tg) ({ frames := 1, cells := 0, slots := 0, locals := 21 })).room.frames ∧ 21 ≤ (headSpec (Cond.code yX4_depth cX4_depth 2 (some .int) :: tg) ({ frames := 1, cells := 0, slots := 0, locals := 21 })).room.locals := ⟨Nat.le_refl _, Nat.le_refl _⟩
  have hcs : 0 + 0 ≤ (headSpec (Cond.code yX4_depth cX4_depth 2 (some .int) :: tg) ({ frames := 1, cells := 0, slots := 0, locals := 21 })).room.cells ∧ 0 + 0 ≤ (headSpec (Cond.code yX4_depth cX4_depth 2 (some .int) :: tg) ({ frames := 1, cells := 0, slots := 0, locals := 21 })).room.slots := ⟨Nat.zero_le _, Nat.zero_le _⟩
  have hl := lv_entry ([.ref h, .int (i)]) (n := 2) (Nat.le_of_ble_eq_true rfl)
  rw [lg_entry_eq]
  generalize (lg_sl ([.ref h, .int (i)]) ++ List.replicate (2 - (lg_sl ([.ref h, .int (i)])).length) Slot.unset).toArray = ls at hl ⊢
  have hl : lv_has ls 2 [(0, .ref h), (1, .int (i))] := hl
  refine lv_aload_n hx hb dX4_depth_0 rfl (lv_at hl 0 rfl) ?_
  refine lv_aload_n hx hb dX4_depth_1 rfl (lv_at hl 0 rfl) ?_
  refine lv_iload_n hx hb dX4_depth_2 rfl (lv_at hl 1 rfl) ?_
  refine cr_Vi (As := [.int (i)]) (rest := [.ref h]) ⟨hx, hb, hml, hown, hts⟩ (c_X4_isRow l g s0  w h hs0 rf nt np mo gb wr su pr ob ki fi se ta nd ii sp qu rF rT rD N hN i) (cw_V 1 hts tg_tail tw_592 tw_594 tp_33 tw_4 tw_595 rfl rfl (by decide +kernel) ⟨Nat.le_trans (by decide) hRm.1, Nat.le_trans (by decide) hRm.2⟩) hK hP h0s hS (mW_0) rfl rfl rfl hl.1 rfl (Nat.le_of_ble_eq_true rfl) dX4_depth_3 hcs (fun r9 w9 H locs hw hP hS => ?_)
  obtain ⟨e_r9, hw9⟩ := hw
  rw [hw9] at hP
  subst e_r9
  refine lv_if_eq (tgt := 13) hx hb dX4_depth_6 (by decide) (fun c_6 => ?_) (fun c_6 => ?_)
  · have c_6 := zB_0.mp c_6
    refine lv_iconst (v := nI 1) hx hb dX4_depth_13 (by decide) ?_
    refine wd_put (ci := 5) (v := .int (nI 1)) (ty := .int) (C := RX4) (T := TX4) (N := 21) hx hb hts iwX4 tyX4 tyX4_ok nmX4 hown hK.1 hP hS (by omega) (mW_0) rfl 0 (by decide) (hts _ (tg_tail _ tw_426)) (fun _ h9 => h9) rfl (by decide +kernel) (rfl) (rfl) (Nat.le_of_ble_eq_true rfl) dX4_depth_14 (fun H locs hP hS hz => ?_)
    have hP : gP g (mW g w h (nI 1) nt np mo gb wr (nI N) su pr ob ki fi se ta nd ii sp qu rF rT rD) H := by have h9 : gP g (wd_up (mW g w h rf nt np mo gb wr (nI N) su pr ob ki fi se ta nd ii sp qu rF rT rD) h (.inr (5, [.int (nI 1), .ref (h + 1), .ref (h + 2), .ref (h + 3), .int (nt), .ref (h + 4), .ref (h + 5), .ref (h + 6), .int (np), .int (mo), .ref (h + 7), .ref (h + 8), .ref (h + 9), .int (gb), .ref (h + 10), .ref (h + 11), .int (wr), .int (nI N), .ref (h + 12), .ref (h + 13), .ref (h + 14)]))) H := hP; rw [mW_s0] at h9; exact h9
    refine lv_aload_n hx hb dX4_depth_17 rfl (lv_at hl 0 rfl) ?_
    refine wd_get (ci := 5) (v := .int (nI 1)) (C := RX4) (T := TX4) (N := 21) hx hb hts iwX4 hown hK.1 hP (mW_0) rfl 0 (by decide) (hts _ (tg_tail _ tw_426)) (fun _ h9 => h9) rfl dX4_depth_18 ?_
    refine lv_if_le (tgt := 28) hx hb dX4_depth_21 (by decide) (fun c_21 => ?_) (fun c_21 => ?_)
    · have c_21 := (nI_leI (a := 1) (b := 0) (by omega) (by omega)).mp (show nI 1 ≤ nI 0 from c_21)
      exact absurd c_21 (by decide)
    · have c_21 := mt (nI_leI (a := 1) (b := 0) (by omega) (by omega)).mpr (show ¬ (nI 1 ≤ nI 0) from c_21)
      refine lv_iconst (v := nI 0) hx hb dX4_depth_24 (by decide) ?_
      refine lv_goto (tgt := 34) hx hb dX4_depth_25 (by decide) ?_
      exact W.iret (v := nI 0) hx hb hr (fun t ht hW => ⟨⟨_, (mW g w h (nI 1) nt np mo gb wr (nI N) su pr ob ki fi se ta nd ii sp qu rF rT rD), rfl, Or.inr ⟨c_6, rfl, rfl⟩, cB_of ht hP⟩, hS.F ht⟩) hS.2.2 dX4_depth_34
  · have c_6 := zB_1.mp c_6
    obtain ⟨k, hk, hik⟩ := ix_of (by omega) (c_6).2.1 (c_6).2.2
    subst hik
    have hcl := nI_clamp (n := k) (by omega)
    refine lv_iconst (v := nI 0) hx hb dX4_depth_9 (by decide) ?_
    refine lv_goto (tgt := 14) hx hb dX4_depth_10 (by decide) ?_
    refine wd_put (ci := 5) (v := .int (nI 0)) (ty := .int) (C := RX4) (T := TX4) (N := 21) hx hb hts iwX4 tyX4 tyX4_ok nmX4 hown hK.1 hP hS (by omega) (mW_0) rfl 0 (by decide) (hts _ (tg_tail _ tw_426)) (fun _ h9 => h9) rfl (by decide +kernel) (rfl) (rfl) (Nat.le_of_ble_eq_true rfl) dX4_depth_14 (fun H locs hP hS hz => ?_)
    have hP : gP g (mW g w h (nI 0) nt np mo gb wr (nI N) su pr ob ki fi se ta nd ii sp qu rF rT rD) H := by have h9 : gP g (wd_up (mW g w h rf nt np mo gb wr (nI N) su pr ob ki fi se ta nd ii sp qu rF rT rD) h (.inr (5, [.int (nI 0), .ref (h + 1), .ref (h + 2), .ref (h + 3), .int (nt), .ref (h + 4), .ref (h + 5), .ref (h + 6), .int (np), .int (mo), .ref (h + 7), .ref (h + 8), .ref (h + 9), .int (gb), .ref (h + 10), .ref (h + 11), .int (wr), .int (nI N), .ref (h + 12), .ref (h + 13), .ref (h + 14)]))) H := hP; rw [mW_s0] at h9; exact h9
    refine lv_aload_n hx hb dX4_depth_17 rfl (lv_at hl 0 rfl) ?_
    refine wd_get (ci := 5) (v := .int (nI 0)) (C := RX4) (T := TX4) (N := 21) hx hb hts iwX4 hown hK.1 hP (mW_0) rfl 0 (by decide) (hts _ (tg_tail _ tw_426)) (fun _ h9 => h9) rfl dX4_depth_18 ?_
    refine lv_if_le (tgt := 28) hx hb dX4_depth_21 (by decide) (fun c_21 => ?_) (fun c_21 => ?_)
    · have c_21 := (nI_leI (a := 0) (b := 0) (by omega) (by omega)).mp (show nI 0 ≤ nI 0 from c_21)
      refine lv_aload_n hx hb dX4_depth_28 rfl (lv_at hl 0 rfl) ?_
      refine wd_get (ci := 5) (v := .ref (h + 14)) (C := RX4) (T := TX4) (N := 21) hx hb hts iwX4 hown hK.1 hP (mW_0) rfl 20 (by decide) (hts _ (tg_tail _ tw_446)) (fun _ h9 => h9) rfl dX4_depth_29 ?_
      refine lv_iload_n hx hb dX4_depth_32 rfl (lv_at hl 1 rfl) ?_
      refine wd_ildN hx hb hK.1 hP 0 (k := k) (mW_14) rfl (by omega) (by decide) dX4_depth_33 ?_
      exact W.iret (v := rD k) hx hb hr (fun t ht hW => ⟨⟨_, (mW g w h (nI 0) nt np mo gb wr (nI N) su pr ob ki fi se ta nd ii sp qu rF rT rD), rfl, Or.inl ⟨c_6, by rw [hcl], rfl⟩, cB_of ht hP⟩, hS.F ht⟩) hS.2.2 dX4_depth_34
    · have c_21 := mt (nI_leI (a := 0) (b := 0) (by omega) (by omega)).mpr (show ¬ (nI 0 ≤ nI 0) from c_21)
      exact absurd c_21 (by decide)
end
section
/-! THE REFERENCE: from, findGraph -/
theorem zB_t {P : Prop} [Decidable P] (h : P) : zB P = nI 1 := by rw [zB, if_pos h]; rfl
theorem zB_f {P : Prop} [Decidable P] (h : ¬ P) : zB P = nI 0 := by rw [zB, if_neg h]; rfl
def fg1 (ii : Nat → Int32) (a b : Int32) : Nat → Nat → Int32
  | 0 => ii
  | k + 1 => upd (fg1 ii a b k) k (zB (nI k = a ∨ nI k = b))
def fg2 (ii : Nat → Int32) (S O : Nat → Nat) : Nat → Nat → Int32
  | 0 => ii
  | k + 1 => upd (upd (fg2 ii S O k) (S k) (nI 1)) (O k) (nI 1)
set_option maxHeartbeats 4000000 in
set_option maxRecDepth 100000 in
theorem lp_from {p : Program} {l : Launch} {e : Env} {R : Room} {s : State} {m : MethodId} {args : Array Value} {below : List Frame} {meth : Method} {c : Code} {Q : State → Prop} {H0 : Heap} {cells slots : Nat} (g : gX) (s0 : Nat) (w : wd_M) (h : Nat) (hs0 : s0 ≤ h) (np mo gb wr nr : Int32) (su pr ob ki fi se ta nd ii sp qu rF rT rD : Nat → Int32) (T : Nat) (hT : T ≤ 150) (nd9 : Int32) (hx : p.tables.exec = Jvm.exec) (hb : c.code = cX4_from) (hml : c.maxLocals = 4) (hown : s.vm.findClass RX4 = some m.cls) (hts : ∀ w ∈ Cond.code yX4_from cX4_from 4 (some .int) :: tg, w.before args s = true) (hK : gK g s) (h0s : s0 ≤ H0.size) (hRm : 2 ≤ R.frames ∧ 42 ≤ R.locals) (hcs : cells + 0 ≤ R.cells ∧ slots + 0 ≤ R.slots)  (kx : ∀ (H : Heap) (locs : List Loc) (ls : Array Slot), gP g (mW g w h (nI 0) (nI T) np mo gb wr nr su pr ob ki fi se ta nd ii sp qu rF rT rD) H → gS s0 H0 H locs → lv_has ls 4 [(0, .ref h), (1, .int (nd9)), (2, .int (nI (ct_from su nd9 T))), (3, .int (nI T))] → W p l e R s m args below meth c H locs cells slots Q (F0 m 51 ls [])) :
    ∀ (n k : Nat), k ≤ T → T + 1 ≤ k + n → ∀ (H : Heap) (locs : List Loc) (ls : Array Slot), gP g (mW g w h (nI 0) (nI T) np mo gb wr nr su pr ob ki fi se ta nd ii sp qu rF rT rD) H → gS s0 H0 H locs → lv_has ls 4 [(0, .ref h), (1, .int (nd9)), (2, .int (nI (ct_from su nd9 k))), (3, .int (nI k))] → W p l e R s m args below meth c H locs cells slots Q (F0 m 19 ls []) := by
  intro n
  induction n with
  | zero =>
    intro k h1 h2
    exact absurd h2 (by omega)
  | succ n ih =>
    intro k hi hin H locs ls hP hS hl
    refine lv_iload_n hx hb dX4_from_19 rfl (lv_at hl 3 rfl) ?_
    refine lv_aload_n hx hb dX4_from_20 rfl (lv_at hl 0 rfl) ?_
    refine wd_get (ci := 5) (v := .int (nI T)) (C := RX4) (T := TX4) (N := 21) hx hb hts iwX4 hown hK.1 hP (mW_0) rfl 4 (by decide) (hts _ (tg_tail _ tw_430)) (fun _ h9 => h9) rfl dX4_from_21 ?_
    refine lv_icmp_ge (tgt := 51) hx hb dX4_from_24 (by decide) (fun c_24 => ?_) (fun c_24 => ?_)
    · have c_24 := (nI_leI (a := T) (b := k) (by omega) (by omega)).mp c_24
      have e9 : k = T := by omega
      try rw [e9] at hP
      try rw [e9] at hl
      exact kx H locs ls hP hS (lv_sub hl [0, 1, 2, 3] rfl)
    · have c_24 := mt (nI_leI (a := T) (b := k) (by omega) (by omega)).mpr c_24
      refine lv_aload_n hx hb dX4_from_27 rfl (lv_at hl 0 rfl) ?_
      refine wd_get (ci := 5) (v := .ref (h + 1)) (C := RX4) (T := TX4) (N := 21) hx hb hts iwX4 hown hK.1 hP (mW_0) rfl 1 (by decide) (hts _ (tg_tail _ tw_427)) (fun _ h9 => h9) rfl dX4_from_28 ?_
      refine lv_iload_n hx hb dX4_from_31 rfl (lv_at hl 3 rfl) ?_
      refine wd_ildN hx hb hK.1 hP 0 (k := k) (mW_1) rfl (by omega) (by decide) dX4_from_32 ?_
      refine lv_iload_n hx hb dX4_from_33 rfl (lv_at hl 1 rfl) ?_
      refine lv_icmp_ne (tgt := 43) hx hb dX4_from_34 (by decide) (fun c_34 => ?_) (fun c_34 => ?_)
      · refine lv_iload_n hx hb dX4_from_43 rfl (lv_at hl 2 rfl) ?_
        refine lv_istore_n (lv' := [(2, .int (nI (ct_from su nd9 k))), (0, .ref h), (1, .int (nd9)), (3, .int (nI k))]) hx hb dX4_from_44 rfl hl (by decide) rfl (fun ls hl => ?_)
        refine lv_iinc (v := nI (k + 1)) (lv' := [(3, .int (nI (k + 1))), (2, .int (nI (ct_from su nd9 k))), (0, .ref h), (1, .int (nd9))]) hx hb dX4_from_45 hl (k := 3) rfl (nI_1 _) (by decide) rfl (fun ls hl => ?_)
        refine lv_goto (tgt := 19) hx hb dX4_from_48 (by decide) ?_
        have hl : lv_has ls 4 [(0, .ref h), (1, .int (nd9)), (2, .int (nI (ct_from su nd9 k))), (3, .int (nI (k + 1)))] := lv_sub hl [2, 3, 1, 0] rfl
        have e8 : ([(0, .ref h), (1, .int (nd9)), (2, .int (nI (ct_from su nd9 k))), (3, .int (nI (k + 1)))] : List (Nat × Value)) = [(0, .ref h), (1, .int (nd9)), (2, .int (nI (ct_from su nd9 (k + 1)))), (3, .int (nI (k + 1)))] := by rw [ct_from, if_neg c_34]
        rw [e8] at hl
        exact ih (k + 1) (by omega) (by omega) _ _ ls hP hS hl
      · refine lv_iload_n hx hb dX4_from_37 rfl (lv_at hl 2 rfl) ?_
        refine lv_iconst (v := nI 1) hx hb dX4_from_38 (by decide) ?_
        refine lv_iadd hx hb dX4_from_39 ?_
        refine wd_ti (x' := nI ((ct_from su nd9 k) + 1)) (nI_add _ _) ?_
        refine lv_goto (tgt := 44) hx hb dX4_from_40 (by decide) ?_
        refine lv_istore_n (lv' := [(2, .int (nI ((ct_from su nd9 k) + 1))), (0, .ref h), (1, .int (nd9)), (3, .int (nI k))]) hx hb dX4_from_44 rfl hl (by decide) rfl (fun ls hl => ?_)
        refine lv_iinc (v := nI (k + 1)) (lv' := [(3, .int (nI (k + 1))), (2, .int (nI ((ct_from su nd9 k) + 1))), (0, .ref h), (1, .int (nd9))]) hx hb dX4_from_45 hl (k := 3) rfl (nI_1 _) (by decide) rfl (fun ls hl => ?_)
        refine lv_goto (tgt := 19) hx hb dX4_from_48 (by decide) ?_
        have hl : lv_has ls 4 [(0, .ref h), (1, .int (nd9)), (2, .int (nI ((ct_from su nd9 k) + 1))), (3, .int (nI (k + 1)))] := lv_sub hl [2, 3, 1, 0] rfl
        have e8 : ([(0, .ref h), (1, .int (nd9)), (2, .int (nI ((ct_from su nd9 k) + 1))), (3, .int (nI (k + 1)))] : List (Nat × Value)) = [(0, .ref h), (1, .int (nd9)), (2, .int (nI (ct_from su nd9 (k + 1)))), (3, .int (nI (k + 1)))] := by rw [ct_from, if_pos c_34]
        rw [e8] at hl
        exact ih (k + 1) (by omega) (by omega) _ _ ls hP hS hl

set_option maxHeartbeats 4000000 in
set_option maxRecDepth 100000 in
theorem c_X4_from (l : Launch) (g : gX) (s0 : Nat) (w : wd_M) (h : Nat) (hs0 : s0 ≤ h) (rf np mo gb wr nr : Int32) (su pr ob ki fi se ta nd ii sp qu rF rT rD : Nat → Int32) (T : Nat) (hT : T ≤ 150) (nd9 : Int32) : Met l yX4_from (Cond.code yX4_from cX4_from 4 (some .int) :: tg) ({ frames := 2, cells := 0, slots := 0, locals := 42 }) (cP g s0 (mW g w h rf (nI T) np mo gb wr nr su pr ob ki fi se ta nd ii sp qu rF rT rD) [.ref h, .int (nd9)]) (cI g s0 (fun r w' => (¬ (nI 0 ≤ nd9 ∧ nd9 ≤ nI 31) ∧ r = -2 ∧ w' = (mW g w h (nI 0) (nI T) np mo gb wr nr su pr ob ki fi se ta nd ii sp qu rF rT rD)) ∨ ((nI 0 ≤ nd9 ∧ nd9 ≤ nI 31) ∧ r = nI (ct_from su nd9 T) ∧ w' = (mW g w h (nI 0) (nI T) np mo gb wr nr su pr ob ki fi se ta nd ii sp qu rF rT rD)))) 0 0 (cA s0) := by
  refine Met.ofW (cc := cX4_from) (maxL := 4) (ret := some .int) (by decide) rfl ?_
  intro p e s m args below meth c s₁ B9 hml hv
  obtain ⟨rfl, h0s, hP, hK⟩ := hv
  have hx := B9.exec
  have hb := B9.bytes
  have hr := B9.returns
  have hts := atoms_spec (ws := Cond.code yX4_from cX4_from 4 (some .int) :: tg) B9.pre
  have hown : s.vm.findClass RX4 = some m.cls := findClass_of_methodNamed B9.named
  have hlocks := B9.notSynchronized
  have hS : gS s0 s.heap s.heap [] := va_S.rf
  have hRm : 2 ≤ (headSpec (Cond.code yX4_from cX4_from 4 (some .int) :: tg) ({ frames := 2, cells := 0, slots := 0, locals := 42 })).room.frames ∧ 42 ≤ (headSpec (Cond.code yX4_from cX4_from 4 (some .int) :: tg) ({ frames := 2, cells := 0, slots := 0, locals := 42 })).room.locals := ⟨Nat.le_refl _, Nat.le_refl _⟩
  have hcs : 0 + 0 ≤ (headSpec (Cond.code yX4_from cX4_from 4 (some .int) :: tg) ({ frames := 2, cells := 0, slots := 0, locals := 42 })).room.cells ∧ 0 + 0 ≤ (headSpec (Cond.code yX4_from cX4_from 4 (some .int) :: tg) ({ frames := 2, cells := 0, slots := 0, locals := 42 })).room.slots := ⟨Nat.zero_le _, Nat.zero_le _⟩
  have hl := lv_entry ([.ref h, .int (nd9)]) (n := 4) (Nat.le_of_ble_eq_true rfl)
  rw [lg_entry_eq]
  generalize (lg_sl ([.ref h, .int (nd9)]) ++ List.replicate (4 - (lg_sl ([.ref h, .int (nd9)])).length) Slot.unset).toArray = ls at hl ⊢
  have hl : lv_has ls 4 [(0, .ref h), (1, .int (nd9))] := hl
  refine lv_aload_n hx hb dX4_from_0 rfl (lv_at hl 0 rfl) ?_
  refine lv_iconst (v := nI 0) hx hb dX4_from_1 (by decide) ?_
  refine wd_put (ci := 5) (v := .int (nI 0)) (ty := .int) (C := RX4) (T := TX4) (N := 21) hx hb hts iwX4 tyX4 tyX4_ok nmX4 hown hK.1 hP hS (by omega) (mW_0) rfl 0 (by decide) (hts _ (tg_tail _ tw_426)) (fun _ h9 => h9) rfl (by decide +kernel) (rfl) (rfl) (Nat.le_of_ble_eq_true rfl) dX4_from_2 (fun H locs hP hS hz => ?_)
  have hP : gP g (mW g w h (nI 0) (nI T) np mo gb wr nr su pr ob ki fi se ta nd ii sp qu rF rT rD) H := by have h9 : gP g (wd_up (mW g w h rf (nI T) np mo gb wr nr su pr ob ki fi se ta nd ii sp qu rF rT rD) h (.inr (5, [.int (nI 0), .ref (h + 1), .ref (h + 2), .ref (h + 3), .int (nI T), .ref (h + 4), .ref (h + 5), .ref (h + 6), .int (np), .int (mo), .ref (h + 7), .ref (h + 8), .ref (h + 9), .int (gb), .ref (h + 10), .ref (h + 11), .int (wr), .int (nr), .ref (h + 12), .ref (h + 13), .ref (h + 14)]))) H := hP; rw [mW_s0] at h9; exact h9
  refine lv_iload_n hx hb dX4_from_5 rfl (lv_at hl 1 rfl) ?_
  refine cr_Si (As := [.int (nd9)]) (rest := []) ⟨hx, hb, hml, hown, hts⟩ (c_X4_isNode l g s0 (mW g w h (nI 0) (nI T) np mo gb wr nr su pr ob ki fi se ta nd ii sp qu rF rT rD) nd9) (cw_S 1 hts tg_tail tw_499 tw_500 tw_4 tw_501 rfl rfl (by decide +kernel) ⟨Nat.le_trans (by decide) hRm.1, Nat.le_trans (by decide) hRm.2⟩) hK hP h0s hS rfl hl.1 rfl (Nat.le_of_ble_eq_true rfl) dX4_from_6 hcs (fun r9 w9 H locs hw hP hS => ?_)
  obtain ⟨e_r9, hw9⟩ := hw
  rw [hw9] at hP
  subst e_r9
  refine lv_if_ne (tgt := 15) hx hb dX4_from_9 (by decide) (fun c_9 => ?_) (fun c_9 => ?_)
  · have c_9 := zB_1.mp c_9
    refine lv_iconst (v := nI 0) hx hb dX4_from_15 (by decide) ?_
    refine lv_istore_n (lv' := [(2, .int (nI 0)), (0, .ref h), (1, .int (nd9))]) hx hb dX4_from_16 rfl hl (by decide) rfl (fun ls hl => ?_)
    refine lv_iconst (v := nI 0) hx hb dX4_from_17 (by decide) ?_
    refine lv_istore_n (lv' := [(3, .int (nI 0)), (2, .int (nI 0)), (0, .ref h), (1, .int (nd9))]) hx hb dX4_from_18 rfl hl (by decide) rfl (fun ls hl => ?_)
    have hl : lv_has ls 4 [(0, .ref h), (1, .int (nd9)), (2, .int (nI 0)), (3, .int (nI 0))] := lv_sub hl [2, 3, 1, 0] rfl
    have e8 : ([(0, .ref h), (1, .int (nd9)), (2, .int (nI 0)), (3, .int (nI 0))] : List (Nat × Value)) = [(0, .ref h), (1, .int (nd9)), (2, .int (nI (ct_from su nd9 0))), (3, .int (nI 0))] := by rfl
    rw [e8] at hl
    refine lp_from g s0 w h hs0 np mo gb wr nr su pr ob ki fi se ta nd ii sp qu rF rT rD T hT nd9 hx hb hml hown hts hK h0s hRm hcs  ?_ (T + 1) 0 (by omega) (by omega) _ _ ls hP hS hl
    intro H locs ls hP hS hl
    refine lv_iload_n hx hb dX4_from_51 rfl (lv_at hl 2 rfl) ?_
    exact W.iret (v := nI (ct_from su nd9 T)) hx hb hr (fun t ht hW => ⟨⟨_, (mW g w h (nI 0) (nI T) np mo gb wr nr su pr ob ki fi se ta nd ii sp qu rF rT rD), rfl, Or.inr ⟨c_9, rfl, rfl⟩, cB_of ht hP⟩, hS.F ht⟩) hS.2.2 dX4_from_52
  · have c_9 := zB_0.mp c_9
    refine lv_bipush (v := (-2)) hx hb dX4_from_12 (by decide) ?_
    exact W.iret (v := (-2)) hx hb hr (fun t ht hW => ⟨⟨_, (mW g w h (nI 0) (nI T) np mo gb wr nr su pr ob ki fi se ta nd ii sp qu rF rT rD), rfl, Or.inl ⟨c_9, rfl, rfl⟩, cB_of ht hP⟩, hS.F ht⟩) hS.2.2 dX4_from_14

set_option maxHeartbeats 4000000 in
set_option maxRecDepth 100000 in
theorem lp_fg1 {p : Program} {l : Launch} {e : Env} {R : Room} {s : State} {m : MethodId} {args : Array Value} {below : List Frame} {meth : Method} {c : Code} {Q : State → Prop} {H0 : Heap} {cells slots : Nat} (g : gX) (s0 : Nat) (w : wd_M) (h : Nat) (hs0 : s0 ≤ h) (rf np mo gb wr nr : Int32) (su pr ob ki fi se ta nd ii sp qu rF rT rD : Nat → Int32) (T : Nat) (a b : Int32) (hx : p.tables.exec = Jvm.exec) (hb : c.code = cX4_findGraph) (hml : c.maxLocals = 4) (hown : s.vm.findClass RX4 = some m.cls) (hts : ∀ w ∈ Cond.code yX4_findGraph cX4_findGraph 4 (none) :: tg, w.before args s = true) (hK : gK g s) (h0s : s0 ≤ H0.size) (hRm : 0 ≤ R.frames ∧ 0 ≤ R.locals) (hcs : cells + 0 ≤ R.cells ∧ slots + 0 ≤ R.slots)  (kx : ∀ (H : Heap) (locs : List Loc) (ls : Array Slot), gP g (mW g w h rf (nI T) np mo gb wr nr su pr ob ki fi se ta nd (fg1 ii a b 32) sp qu rF rT rD) H → gS s0 H0 H locs → lv_has ls 4 [(0, .ref h), (1, .int (a)), (2, .int (b)), (3, .int (nI 32))] → W p l e R s m args below meth c H locs cells slots Q (F0 m 35 ls [])) :
    ∀ (n k : Nat), k ≤ 32 → 32 + 1 ≤ k + n → ∀ (H : Heap) (locs : List Loc) (ls : Array Slot), gP g (mW g w h rf (nI T) np mo gb wr nr su pr ob ki fi se ta nd (fg1 ii a b k) sp qu rF rT rD) H → gS s0 H0 H locs → lv_has ls 4 [(0, .ref h), (1, .int (a)), (2, .int (b)), (3, .int (nI k))] → W p l e R s m args below meth c H locs cells slots Q (F0 m 2 ls []) := by
  intro n
  induction n with
  | zero =>
    intro k h1 h2
    exact absurd h2 (by omega)
  | succ n ih =>
    intro k hi hin H locs ls hP hS hl
    refine lv_iload_n hx hb dX4_findGraph_2 rfl (lv_at hl 3 rfl) ?_
    refine lv_bipush (v := nI 32) hx hb dX4_findGraph_3 (by decide) ?_
    refine lv_icmp_ge (tgt := 35) hx hb dX4_findGraph_5 (by decide) (fun c_5 => ?_) (fun c_5 => ?_)
    · have c_5 := (nI_leI (a := 32) (b := k) (by omega) (by omega)).mp c_5
      have e9 : k = 32 := by omega
      try rw [e9] at hP
      try rw [e9] at hl
      exact kx H locs ls hP hS (lv_sub hl [0, 1, 2, 3] rfl)
    · have c_5 := mt (nI_leI (a := 32) (b := k) (by omega) (by omega)).mpr c_5
      refine lv_aload_n hx hb dX4_findGraph_8 rfl (lv_at hl 0 rfl) ?_
      refine wd_get (ci := 5) (v := .ref (h + 9)) (C := RX4) (T := TX4) (N := 21) hx hb hts iwX4 hown hK.1 hP (mW_0) rfl 12 (by decide) (hts _ (tg_tail _ tw_438)) (fun _ h9 => h9) rfl dX4_findGraph_9 ?_
      refine lv_iload_n hx hb dX4_findGraph_12 rfl (lv_at hl 3 rfl) ?_
      refine lv_iload_n hx hb dX4_findGraph_13 rfl (lv_at hl 3 rfl) ?_
      refine lv_iload_n hx hb dX4_findGraph_14 rfl (lv_at hl 1 rfl) ?_
      refine lv_icmp_eq (tgt := 23) hx hb dX4_findGraph_15 (by decide) (fun c_15 => ?_) (fun c_15 => ?_)
      · refine lv_iconst (v := nI 1) hx hb dX4_findGraph_23 (by decide) ?_
        refine lv_goto (tgt := 28) hx hb dX4_findGraph_24 (by decide) ?_
        refine wd_zstN hx hb hK.1 hP hS (by omega) 1 (k := k) (mW_9) rfl (by decide) (by omega) (by decide) dX4_findGraph_28 (fun H locs hP hS hz => ?_)
        have hP : gP g (mW g w h rf (nI T) np mo gb wr nr su pr ob ki fi se ta nd (upd (fg1 ii a b k) k (nI 1)) sp qu rF rT rD) H := by have h9 : gP g (wd_up (mW g w h rf (nI T) np mo gb wr nr su pr ob ki fi se ta nd (fg1 ii a b k) sp qu rF rT rD) (h + 9) (wd_iA (g.2 1) 32 (upd (fg1 ii a b k) k (nI 1)))) H := hP; rw [mW_s9] at h9; exact h9
        refine lv_iinc (v := nI (k + 1)) (lv' := [(3, .int (nI (k + 1))), (0, .ref h), (1, .int (a)), (2, .int (b))]) hx hb dX4_findGraph_29 hl (k := 3) rfl (nI_1 _) (by decide) rfl (fun ls hl => ?_)
        refine lv_goto (tgt := 2) hx hb dX4_findGraph_32 (by decide) ?_
        have e8 : (mW g w h rf (nI T) np mo gb wr nr su pr ob ki fi se ta nd (upd (fg1 ii a b k) k (nI 1)) sp qu rF rT rD) = (mW g w h rf (nI T) np mo gb wr nr su pr ob ki fi se ta nd (fg1 ii a b (k + 1)) sp qu rF rT rD) := by rw [fg1, zB_t (Or.inl c_15)]
        rw [e8] at hP
        have hl : lv_has ls 4 [(0, .ref h), (1, .int (a)), (2, .int (b)), (3, .int (nI (k + 1)))] := lv_sub hl [1, 2, 3, 0] rfl
        exact ih (k + 1) (by omega) (by omega) _ _ ls hP hS hl
      · refine lv_iload_n hx hb dX4_findGraph_18 rfl (lv_at hl 3 rfl) ?_
        refine lv_iload_n hx hb dX4_findGraph_19 rfl (lv_at hl 2 rfl) ?_
        refine lv_icmp_ne (tgt := 27) hx hb dX4_findGraph_20 (by decide) (fun c_20 => ?_) (fun c_20 => ?_)
        · refine lv_iconst (v := nI 0) hx hb dX4_findGraph_27 (by decide) ?_
          refine wd_zstN hx hb hK.1 hP hS (by omega) 1 (k := k) (mW_9) rfl (by decide) (by omega) (by decide) dX4_findGraph_28 (fun H locs hP hS hz => ?_)
          have hP : gP g (mW g w h rf (nI T) np mo gb wr nr su pr ob ki fi se ta nd (upd (fg1 ii a b k) k (nI 0)) sp qu rF rT rD) H := by have h9 : gP g (wd_up (mW g w h rf (nI T) np mo gb wr nr su pr ob ki fi se ta nd (fg1 ii a b k) sp qu rF rT rD) (h + 9) (wd_iA (g.2 1) 32 (upd (fg1 ii a b k) k (nI 0)))) H := hP; rw [mW_s9] at h9; exact h9
          refine lv_iinc (v := nI (k + 1)) (lv' := [(3, .int (nI (k + 1))), (0, .ref h), (1, .int (a)), (2, .int (b))]) hx hb dX4_findGraph_29 hl (k := 3) rfl (nI_1 _) (by decide) rfl (fun ls hl => ?_)
          refine lv_goto (tgt := 2) hx hb dX4_findGraph_32 (by decide) ?_
          have e8 : (mW g w h rf (nI T) np mo gb wr nr su pr ob ki fi se ta nd (upd (fg1 ii a b k) k (nI 0)) sp qu rF rT rD) = (mW g w h rf (nI T) np mo gb wr nr su pr ob ki fi se ta nd (fg1 ii a b (k + 1)) sp qu rF rT rD) := by rw [fg1, zB_f (fun h => h.elim c_15 c_20)]
          rw [e8] at hP
          have hl : lv_has ls 4 [(0, .ref h), (1, .int (a)), (2, .int (b)), (3, .int (nI (k + 1)))] := lv_sub hl [1, 2, 3, 0] rfl
          exact ih (k + 1) (by omega) (by omega) _ _ ls hP hS hl
        · refine lv_iconst (v := nI 1) hx hb dX4_findGraph_23 (by decide) ?_
          refine lv_goto (tgt := 28) hx hb dX4_findGraph_24 (by decide) ?_
          refine wd_zstN hx hb hK.1 hP hS (by omega) 1 (k := k) (mW_9) rfl (by decide) (by omega) (by decide) dX4_findGraph_28 (fun H locs hP hS hz => ?_)
          have hP : gP g (mW g w h rf (nI T) np mo gb wr nr su pr ob ki fi se ta nd (upd (fg1 ii a b k) k (nI 1)) sp qu rF rT rD) H := by have h9 : gP g (wd_up (mW g w h rf (nI T) np mo gb wr nr su pr ob ki fi se ta nd (fg1 ii a b k) sp qu rF rT rD) (h + 9) (wd_iA (g.2 1) 32 (upd (fg1 ii a b k) k (nI 1)))) H := hP; rw [mW_s9] at h9; exact h9
          refine lv_iinc (v := nI (k + 1)) (lv' := [(3, .int (nI (k + 1))), (0, .ref h), (1, .int (a)), (2, .int (b))]) hx hb dX4_findGraph_29 hl (k := 3) rfl (nI_1 _) (by decide) rfl (fun ls hl => ?_)
          refine lv_goto (tgt := 2) hx hb dX4_findGraph_32 (by decide) ?_
          have e8 : (mW g w h rf (nI T) np mo gb wr nr su pr ob ki fi se ta nd (upd (fg1 ii a b k) k (nI 1)) sp qu rF rT rD) = (mW g w h rf (nI T) np mo gb wr nr su pr ob ki fi se ta nd (fg1 ii a b (k + 1)) sp qu rF rT rD) := by rw [fg1, zB_t (Or.inr c_20)]
          rw [e8] at hP
          have hl : lv_has ls 4 [(0, .ref h), (1, .int (a)), (2, .int (b)), (3, .int (nI (k + 1)))] := lv_sub hl [1, 2, 3, 0] rfl
          exact ih (k + 1) (by omega) (by omega) _ _ ls hP hS hl

set_option maxHeartbeats 4000000 in
set_option maxRecDepth 100000 in
theorem lp_fg2 {p : Program} {l : Launch} {e : Env} {R : Room} {s : State} {m : MethodId} {args : Array Value} {below : List Frame} {meth : Method} {c : Code} {Q : State → Prop} {H0 : Heap} {cells slots : Nat} (g : gX) (s0 : Nat) (w : wd_M) (h : Nat) (hs0 : s0 ≤ h) (rf np mo gb wr nr : Int32) (su pr ob ki fi se ta nd ii sp qu rF rT rD : Nat → Int32) (T : Nat) (hT : T ≤ 150) (S O : Nat → Nat) (hS9 : ∀ k, k < T → su k = nI (S k) ∧ S k < 32) (hO9 : ∀ k, k < T → ob k = nI (O k) ∧ O k < 32) (a b : Int32) (hx : p.tables.exec = Jvm.exec) (hb : c.code = cX4_findGraph) (hml : c.maxLocals = 4) (hown : s.vm.findClass RX4 = some m.cls) (hts : ∀ w ∈ Cond.code yX4_findGraph cX4_findGraph 4 (none) :: tg, w.before args s = true) (hK : gK g s) (h0s : s0 ≤ H0.size) (hRm : 0 ≤ R.frames ∧ 0 ≤ R.locals) (hcs : cells + 0 ≤ R.cells ∧ slots + 0 ≤ R.slots)  (kx : ∀ (H : Heap) (locs : List Loc) (ls : Array Slot), gP g (mW g w h rf (nI T) np mo gb wr nr su pr ob ki fi se ta nd (fg2 ii S O T) sp qu rF rT rD) H → gS s0 H0 H locs → lv_has ls 4 [(0, .ref h), (1, .int (a)), (2, .int (b)), (3, .int (nI T))] → W p l e R s m args below meth c H locs cells slots Q (F0 m 75 ls [])) :
    ∀ (n k : Nat), k ≤ T → T + 1 ≤ k + n → ∀ (H : Heap) (locs : List Loc) (ls : Array Slot), gP g (mW g w h rf (nI T) np mo gb wr nr su pr ob ki fi se ta nd (fg2 ii S O k) sp qu rF rT rD) H → gS s0 H0 H locs → lv_has ls 4 [(0, .ref h), (1, .int (a)), (2, .int (b)), (3, .int (nI k))] → W p l e R s m args below meth c H locs cells slots Q (F0 m 37 ls []) := by
  intro n
  induction n with
  | zero =>
    intro k h1 h2
    exact absurd h2 (by omega)
  | succ n ih =>
    intro k hi hin H locs ls hP hS hl
    refine lv_iload_n hx hb dX4_findGraph_37 rfl (lv_at hl 3 rfl) ?_
    refine lv_aload_n hx hb dX4_findGraph_38 rfl (lv_at hl 0 rfl) ?_
    refine wd_get (ci := 5) (v := .int (nI T)) (C := RX4) (T := TX4) (N := 21) hx hb hts iwX4 hown hK.1 hP (mW_0) rfl 4 (by decide) (hts _ (tg_tail _ tw_430)) (fun _ h9 => h9) rfl dX4_findGraph_39 ?_
    refine lv_icmp_ge (tgt := 75) hx hb dX4_findGraph_42 (by decide) (fun c_42 => ?_) (fun c_42 => ?_)
    · have c_42 := (nI_leI (a := T) (b := k) (by omega) (by omega)).mp c_42
      have e9 : k = T := by omega
      try rw [e9] at hP
      try rw [e9] at hl
      exact kx H locs ls hP hS (lv_sub hl [0, 1, 2, 3] rfl)
    · have c_42 := mt (nI_leI (a := T) (b := k) (by omega) (by omega)).mpr c_42
      refine lv_aload_n hx hb dX4_findGraph_45 rfl (lv_at hl 0 rfl) ?_
      refine wd_get (ci := 5) (v := .ref (h + 9)) (C := RX4) (T := TX4) (N := 21) hx hb hts iwX4 hown hK.1 hP (mW_0) rfl 12 (by decide) (hts _ (tg_tail _ tw_438)) (fun _ h9 => h9) rfl dX4_findGraph_46 ?_
      refine lv_aload_n hx hb dX4_findGraph_49 rfl (lv_at hl 0 rfl) ?_
      refine wd_get (ci := 5) (v := .ref (h + 1)) (C := RX4) (T := TX4) (N := 21) hx hb hts iwX4 hown hK.1 hP (mW_0) rfl 1 (by decide) (hts _ (tg_tail _ tw_427)) (fun _ h9 => h9) rfl dX4_findGraph_50 ?_
      refine lv_iload_n hx hb dX4_findGraph_53 rfl (lv_at hl 3 rfl) ?_
      refine wd_ildN hx hb hK.1 hP 0 (k := k) (mW_1) rfl (by omega) (by decide) dX4_findGraph_54 ?_
      refine wd_ti (x' := nI (S k)) ((hS9 k (by omega)).1) ?_
      refine lv_iconst (v := nI 1) hx hb dX4_findGraph_55 (by decide) ?_
      refine wd_zstN hx hb hK.1 hP hS (by omega) 1 (k := (S k)) (mW_9) rfl (by decide) ((hS9 k (by omega)).2) (by decide) dX4_findGraph_56 (fun H locs hP hS hz => ?_)
      have hP : gP g (mW g w h rf (nI T) np mo gb wr nr su pr ob ki fi se ta nd (upd (fg2 ii S O k) (S k) (nI 1)) sp qu rF rT rD) H := by have h9 : gP g (wd_up (mW g w h rf (nI T) np mo gb wr nr su pr ob ki fi se ta nd (fg2 ii S O k) sp qu rF rT rD) (h + 9) (wd_iA (g.2 1) 32 (upd (fg2 ii S O k) (S k) (nI 1)))) H := hP; rw [mW_s9] at h9; exact h9
      refine lv_aload_n hx hb dX4_findGraph_57 rfl (lv_at hl 0 rfl) ?_
      refine wd_get (ci := 5) (v := .ref (h + 9)) (C := RX4) (T := TX4) (N := 21) hx hb hts iwX4 hown hK.1 hP (mW_0) rfl 12 (by decide) (hts _ (tg_tail _ tw_438)) (fun _ h9 => h9) rfl dX4_findGraph_58 ?_
      refine lv_aload_n hx hb dX4_findGraph_61 rfl (lv_at hl 0 rfl) ?_
      refine wd_get (ci := 5) (v := .ref (h + 3)) (C := RX4) (T := TX4) (N := 21) hx hb hts iwX4 hown hK.1 hP (mW_0) rfl 3 (by decide) (hts _ (tg_tail _ tw_429)) (fun _ h9 => h9) rfl dX4_findGraph_62 ?_
      refine lv_iload_n hx hb dX4_findGraph_65 rfl (lv_at hl 3 rfl) ?_
      refine wd_ildN hx hb hK.1 hP 0 (k := k) (mW_3) rfl (by omega) (by decide) dX4_findGraph_66 ?_
      refine wd_ti (x' := nI (O k)) ((hO9 k (by omega)).1) ?_
      refine lv_iconst (v := nI 1) hx hb dX4_findGraph_67 (by decide) ?_
      refine wd_zstN hx hb hK.1 hP hS (by omega) 1 (k := (O k)) (mW_9) rfl (by decide) ((hO9 k (by omega)).2) (by decide) dX4_findGraph_68 (fun H locs hP hS hz => ?_)
      have hP : gP g (mW g w h rf (nI T) np mo gb wr nr su pr ob ki fi se ta nd (upd (upd (fg2 ii S O k) (S k) (nI 1)) (O k) (nI 1)) sp qu rF rT rD) H := by have h9 : gP g (wd_up (mW g w h rf (nI T) np mo gb wr nr su pr ob ki fi se ta nd (upd (fg2 ii S O k) (S k) (nI 1)) sp qu rF rT rD) (h + 9) (wd_iA (g.2 1) 32 (upd (upd (fg2 ii S O k) (S k) (nI 1)) (O k) (nI 1)))) H := hP; rw [mW_s9] at h9; exact h9
      refine lv_iinc (v := nI (k + 1)) (lv' := [(3, .int (nI (k + 1))), (0, .ref h), (1, .int (a)), (2, .int (b))]) hx hb dX4_findGraph_69 hl (k := 3) rfl (nI_1 _) (by decide) rfl (fun ls hl => ?_)
      refine lv_goto (tgt := 37) hx hb dX4_findGraph_72 (by decide) ?_
      have e8 : (mW g w h rf (nI T) np mo gb wr nr su pr ob ki fi se ta nd (upd (upd (fg2 ii S O k) (S k) (nI 1)) (O k) (nI 1)) sp qu rF rT rD) = (mW g w h rf (nI T) np mo gb wr nr su pr ob ki fi se ta nd (fg2 ii S O (k + 1)) sp qu rF rT rD) := by rfl
      rw [e8] at hP
      have hl : lv_has ls 4 [(0, .ref h), (1, .int (a)), (2, .int (b)), (3, .int (nI (k + 1)))] := lv_sub hl [1, 2, 3, 0] rfl
      exact ih (k + 1) (by omega) (by omega) _ _ ls hP hS hl

set_option maxHeartbeats 4000000 in
set_option maxRecDepth 100000 in
theorem c_X4_findGraph (l : Launch) (g : gX) (s0 : Nat) (w : wd_M) (h : Nat) (hs0 : s0 ≤ h) (rf np mo gb wr nr : Int32) (su pr ob ki fi se ta nd ii sp qu rF rT rD : Nat → Int32) (T : Nat) (hT : T ≤ 150) (S O : Nat → Nat) (hS9 : ∀ k, k < T → su k = nI (S k) ∧ S k < 32) (hO9 : ∀ k, k < T → ob k = nI (O k) ∧ O k < 32) (a b : Int32) : Met l yX4_findGraph (Cond.code yX4_findGraph cX4_findGraph 4 (none) :: tg) ({ frames := 0, cells := 0, slots := 0, locals := 0 }) (cP g s0 (mW g w h rf (nI T) np mo gb wr nr su pr ob ki fi se ta nd ii sp qu rF rT rD) [.ref h, .int (a), .int (b)]) (cV g s0 (fun w' => w' = (mW g w h rf (nI T) np mo gb wr nr su pr ob ki fi se ta nd (fg2 (fg1 ii a b 32) S O T) sp qu rF rT rD))) 0 0 (cA s0) := by
  refine Met.ofW (cc := cX4_findGraph) (maxL := 4) (ret := none) (by decide) rfl ?_
  intro p e s m args below meth c s₁ B9 hml hv
  obtain ⟨rfl, h0s, hP, hK⟩ := hv
  have hx := B9.exec
  have hb := B9.bytes
  have hr := B9.returns
  have hts := atoms_spec (ws := Cond.code yX4_findGraph cX4_findGraph 4 (none) :: tg) B9.pre
  have hown : s.vm.findClass RX4 = some m.cls := findClass_of_methodNamed B9.named
  have hlocks := B9.notSynchronized
  have hS : gS s0 s.heap s.heap [] := va_S.rf
  have hRm : 0 ≤ (headSpec (Cond.code yX4_findGraph cX4_findGraph 4 (none) :: tg) ({ frames := 0, cells := 0, slots := 0, locals := 0 })).room.frames ∧ 0 ≤ (headSpec (Cond.code yX4_findGraph cX4_findGraph 4 (none) :: tg) ({ frames := 0, cells := 0, slots := 0, locals := 0 })).room.locals := ⟨Nat.le_refl _, Nat.le_refl _⟩
  have hcs : 0 + 0 ≤ (headSpec (Cond.code yX4_findGraph cX4_findGraph 4 (none) :: tg) ({ frames := 0, cells := 0, slots := 0, locals := 0 })).room.cells ∧ 0 + 0 ≤ (headSpec (Cond.code yX4_findGraph cX4_findGraph 4 (none) :: tg) ({ frames := 0, cells := 0, slots := 0, locals := 0 })).room.slots := ⟨Nat.zero_le _, Nat.zero_le _⟩
  have hl := lv_entry ([.ref h, .int (a), .int (b)]) (n := 4) (Nat.le_of_ble_eq_true rfl)
  rw [lg_entry_eq]
  generalize (lg_sl ([.ref h, .int (a), .int (b)]) ++ List.replicate (4 - (lg_sl ([.ref h, .int (a), .int (b)])).length) Slot.unset).toArray = ls at hl ⊢
  have hl : lv_has ls 4 [(0, .ref h), (1, .int (a)), (2, .int (b))] := hl
  refine lv_iconst (v := nI 0) hx hb dX4_findGraph_0 (by decide) ?_
  refine lv_istore_n (lv' := [(3, .int (nI 0)), (0, .ref h), (1, .int (a)), (2, .int (b))]) hx hb dX4_findGraph_1 rfl hl (by decide) rfl (fun ls hl => ?_)
  have e8 : (mW g w h rf (nI T) np mo gb wr nr su pr ob ki fi se ta nd ii sp qu rF rT rD) = (mW g w h rf (nI T) np mo gb wr nr su pr ob ki fi se ta nd (fg1 ii a b 0) sp qu rF rT rD) := by rfl
  rw [e8] at hP
  have hl : lv_has ls 4 [(0, .ref h), (1, .int (a)), (2, .int (b)), (3, .int (nI 0))] := lv_sub hl [1, 2, 3, 0] rfl
  refine lp_fg1 g s0 w h hs0 rf np mo gb wr nr su pr ob ki fi se ta nd ii sp qu rF rT rD T a b hx hb hml hown hts hK h0s hRm hcs  ?_ (32 + 1) 0 (by omega) (by omega) _ _ ls hP hS hl
  intro H locs ls hP hS hl
  refine lv_iconst (v := nI 0) hx hb dX4_findGraph_35 (by decide) ?_
  refine lv_istore_n (lv' := [(3, .int (nI 0)), (0, .ref h), (1, .int (a)), (2, .int (b))]) hx hb dX4_findGraph_36 rfl hl (by decide) rfl (fun ls hl => ?_)
  have e8 : (mW g w h rf (nI T) np mo gb wr nr su pr ob ki fi se ta nd (fg1 ii a b 32) sp qu rF rT rD) = (mW g w h rf (nI T) np mo gb wr nr su pr ob ki fi se ta nd (fg2 (fg1 ii a b 32) S O 0) sp qu rF rT rD) := by rfl
  rw [e8] at hP
  have hl : lv_has ls 4 [(0, .ref h), (1, .int (a)), (2, .int (b)), (3, .int (nI 0))] := lv_sub hl [1, 2, 3, 0] rfl
  refine lp_fg2 g s0 w h hs0 rf np mo gb wr nr su pr ob ki fi se ta nd (fg1 ii a b 32) sp qu rF rT rD T hT S O hS9 hO9 a b hx hb hml hown hts hK h0s hRm hcs  ?_ (T + 1) 0 (by omega) (by omega) _ _ ls hP hS hl
  intro H locs ls hP hS hl
  exact W.vret hx hb hr (fun t ht hW => ⟨⟨(mW g w h rf (nI T) np mo gb wr nr su pr ob ki fi se ta nd (fg2 (fg1 ii a b 32) S O T) sp qu rF rT rD), rfl, rfl, cB_of ht hP⟩, hS.F ht⟩) hS.2.2 dX4_findGraph_75
end
section
/-! THE REFERENCE: triple, findNeeded -/
set_option maxHeartbeats 4000000 in
set_option maxRecDepth 100000 in
theorem lp_triple {p : Program} {l : Launch} {e : Env} {R : Room} {s : State} {m : MethodId} {args : Array Value} {below : List Frame} {meth : Method} {c : Code} {Q : State → Prop} {H0 : Heap} {cells slots : Nat} (g : gX) (s0 : Nat) (w : wd_M) (h : Nat) (hs0 : s0 ≤ h) (np mo gb wr nr : Int32) (su pr ob ki fi se ta nd ii sp qu rF rT rD : Nat → Int32) (T : Nat) (hT : T ≤ 150) (sv pv ov : Int32) (hx : p.tables.exec = Jvm.exec) (hb : c.code = cX4_triple) (hml : c.maxLocals = 5) (hown : s.vm.findClass RX4 = some m.cls) (hts : ∀ w ∈ Cond.code yX4_triple cX4_triple 5 (some .int) :: tg, w.before args s = true) (hK : gK g s) (h0s : s0 ≤ H0.size) (hRm : 2 ≤ R.frames ∧ 42 ≤ R.locals) (hcs : cells + 0 ≤ R.cells ∧ slots + 0 ≤ R.slots) (kr : ∀ (j : Nat) (H : Heap) (locs : List Loc) (ls : Array Slot), j < T → (su j = sv ∧ pr j = pv ∧ ob j = ov) → gP g (mW g w h (nI 0) (nI T) np mo gb wr nr su pr ob ki fi se ta nd ii sp qu rF rT rD) H → gS s0 H0 H locs → lv_has ls 5 [(0, .ref h)] → W p l e R s m args below meth c H locs cells slots Q (F0 m 77 ls [])) (kx : ∀ (H : Heap) (locs : List Loc) (ls : Array Slot), (∀ j, j < T → ¬ (su j = sv ∧ pr j = pv ∧ ob j = ov)) → gP g (mW g w h (nI 0) (nI T) np mo gb wr nr su pr ob ki fi se ta nd ii sp qu rF rT rD) H → gS s0 H0 H locs → lv_has ls 5 [(0, .ref h), (1, .int (sv)), (2, .int (pv)), (3, .int (ov)), (4, .int (nI T))] → W p l e R s m args below meth c H locs cells slots Q (F0 m 88 ls [])) :
    ∀ (n k : Nat), k ≤ T → T + 1 ≤ k + n → (∀ j, j < k → ¬ (su j = sv ∧ pr j = pv ∧ ob j = ov)) → ∀ (H : Heap) (locs : List Loc) (ls : Array Slot), gP g (mW g w h (nI 0) (nI T) np mo gb wr nr su pr ob ki fi se ta nd ii sp qu rF rT rD) H → gS s0 H0 H locs → lv_has ls 5 [(0, .ref h), (1, .int (sv)), (2, .int (pv)), (3, .int (ov)), (4, .int (nI k))] → W p l e R s m args below meth c H locs cells slots Q (F0 m 35 ls []) := by
  intro n
  induction n with
  | zero =>
    intro k h1 h2
    exact absurd h2 (by omega)
  | succ n ih =>
    intro k hi hin hex H locs ls hP hS hl
    refine lv_iload hx hb dX4_triple_35 (lv_at hl 4 rfl) ?_
    refine lv_aload_n hx hb dX4_triple_37 rfl (lv_at hl 0 rfl) ?_
    refine wd_get (ci := 5) (v := .int (nI T)) (C := RX4) (T := TX4) (N := 21) hx hb hts iwX4 hown hK.1 hP (mW_0) rfl 4 (by decide) (hts _ (tg_tail _ tw_430)) (fun _ h9 => h9) rfl dX4_triple_38 ?_
    refine lv_icmp_ge (tgt := 88) hx hb dX4_triple_41 (by decide) (fun c_41 => ?_) (fun c_41 => ?_)
    · have c_41 := (nI_leI (a := T) (b := k) (by omega) (by omega)).mp c_41
      have e9 : k = T := by omega
      try rw [e9] at hP
      try rw [e9] at hl
      try rw [e9] at hex
      exact kx H locs ls hex hP hS (lv_sub hl [0, 1, 2, 3, 4] rfl)
    · have c_41 := mt (nI_leI (a := T) (b := k) (by omega) (by omega)).mpr c_41
      refine lv_aload_n hx hb dX4_triple_44 rfl (lv_at hl 0 rfl) ?_
      refine wd_get (ci := 5) (v := .ref (h + 1)) (C := RX4) (T := TX4) (N := 21) hx hb hts iwX4 hown hK.1 hP (mW_0) rfl 1 (by decide) (hts _ (tg_tail _ tw_427)) (fun _ h9 => h9) rfl dX4_triple_45 ?_
      refine lv_iload hx hb dX4_triple_48 (lv_at hl 4 rfl) ?_
      refine wd_ildN hx hb hK.1 hP 0 (k := k) (mW_1) rfl (by omega) (by decide) dX4_triple_50 ?_
      refine lv_iload_n hx hb dX4_triple_51 rfl (lv_at hl 1 rfl) ?_
      refine lv_icmp_ne (tgt := 82) hx hb dX4_triple_52 (by decide) (fun c_52 => ?_) (fun c_52 => ?_)
      · refine lv_iinc (v := nI (k + 1)) (lv' := [(4, .int (nI (k + 1))), (0, .ref h), (1, .int (sv)), (2, .int (pv)), (3, .int (ov))]) hx hb dX4_triple_82 hl (k := 4) rfl (nI_1 _) (by decide) rfl (fun ls hl => ?_)
        refine lv_goto (tgt := 35) hx hb dX4_triple_85 (by decide) ?_
        have hl : lv_has ls 5 [(0, .ref h), (1, .int (sv)), (2, .int (pv)), (3, .int (ov)), (4, .int (nI (k + 1)))] := lv_sub hl [1, 2, 3, 4, 0] rfl
        exact ih (k + 1) (by omega) (by omega) (lt_s hex (fun q => c_52 q.1)) _ _ ls hP hS hl
      · refine lv_aload_n hx hb dX4_triple_55 rfl (lv_at hl 0 rfl) ?_
        refine wd_get (ci := 5) (v := .ref (h + 2)) (C := RX4) (T := TX4) (N := 21) hx hb hts iwX4 hown hK.1 hP (mW_0) rfl 2 (by decide) (hts _ (tg_tail _ tw_428)) (fun _ h9 => h9) rfl dX4_triple_56 ?_
        refine lv_iload hx hb dX4_triple_59 (lv_at hl 4 rfl) ?_
        refine wd_ildN hx hb hK.1 hP 0 (k := k) (mW_2) rfl (by omega) (by decide) dX4_triple_61 ?_
        refine lv_iload_n hx hb dX4_triple_62 rfl (lv_at hl 2 rfl) ?_
        refine lv_icmp_ne (tgt := 82) hx hb dX4_triple_63 (by decide) (fun c_63 => ?_) (fun c_63 => ?_)
        · refine lv_iinc (v := nI (k + 1)) (lv' := [(4, .int (nI (k + 1))), (0, .ref h), (1, .int (sv)), (2, .int (pv)), (3, .int (ov))]) hx hb dX4_triple_82 hl (k := 4) rfl (nI_1 _) (by decide) rfl (fun ls hl => ?_)
          refine lv_goto (tgt := 35) hx hb dX4_triple_85 (by decide) ?_
          have hl : lv_has ls 5 [(0, .ref h), (1, .int (sv)), (2, .int (pv)), (3, .int (ov)), (4, .int (nI (k + 1)))] := lv_sub hl [1, 2, 3, 4, 0] rfl
          exact ih (k + 1) (by omega) (by omega) (lt_s hex (fun q => c_63 q.2.1)) _ _ ls hP hS hl
        · refine lv_aload_n hx hb dX4_triple_66 rfl (lv_at hl 0 rfl) ?_
          refine wd_get (ci := 5) (v := .ref (h + 3)) (C := RX4) (T := TX4) (N := 21) hx hb hts iwX4 hown hK.1 hP (mW_0) rfl 3 (by decide) (hts _ (tg_tail _ tw_429)) (fun _ h9 => h9) rfl dX4_triple_67 ?_
          refine lv_iload hx hb dX4_triple_70 (lv_at hl 4 rfl) ?_
          refine wd_ildN hx hb hK.1 hP 0 (k := k) (mW_3) rfl (by omega) (by decide) dX4_triple_72 ?_
          refine lv_iload_n hx hb dX4_triple_73 rfl (lv_at hl 3 rfl) ?_
          refine lv_icmp_ne (tgt := 82) hx hb dX4_triple_74 (by decide) (fun c_74 => ?_) (fun c_74 => ?_)
          · refine lv_iinc (v := nI (k + 1)) (lv' := [(4, .int (nI (k + 1))), (0, .ref h), (1, .int (sv)), (2, .int (pv)), (3, .int (ov))]) hx hb dX4_triple_82 hl (k := 4) rfl (nI_1 _) (by decide) rfl (fun ls hl => ?_)
            refine lv_goto (tgt := 35) hx hb dX4_triple_85 (by decide) ?_
            have hl : lv_has ls 5 [(0, .ref h), (1, .int (sv)), (2, .int (pv)), (3, .int (ov)), (4, .int (nI (k + 1)))] := lv_sub hl [1, 2, 3, 4, 0] rfl
            exact ih (k + 1) (by omega) (by omega) (lt_s hex (fun q => c_74 q.2.2)) _ _ ls hP hS hl
          · exact kr k H locs ls (by omega) ⟨c_52, c_63, c_74⟩ hP hS (lv_sub hl [0] rfl)

set_option maxHeartbeats 4000000 in
set_option maxRecDepth 100000 in
theorem c_X4_triple (l : Launch) (g : gX) (s0 : Nat) (w : wd_M) (h : Nat) (hs0 : s0 ≤ h) (rf np mo gb wr nr : Int32) (su pr ob ki fi se ta nd ii sp qu rF rT rD : Nat → Int32) (T : Nat) (hT : T ≤ 150) (sv pv ov : Int32) : Met l yX4_triple (Cond.code yX4_triple cX4_triple 5 (some .int) :: tg) ({ frames := 2, cells := 0, slots := 0, locals := 42 }) (cP g s0 (mW g w h rf (nI T) np mo gb wr nr su pr ob ki fi se ta nd ii sp qu rF rT rD) [.ref h, .int (sv), .int (pv), .int (ov)]) (cI g s0 (fun r w' => (¬ ((nI 0 ≤ sv ∧ sv ≤ nI 31) ∧ (nI 0 ≤ ov ∧ ov ≤ nI 31) ∧ (nI 0 ≤ pv ∧ pv ≤ nI 15)) ∧ r = -2 ∧ w' = (mW g w h (nI 0) (nI T) np mo gb wr nr su pr ob ki fi se ta nd ii sp qu rF rT rD)) ∨ (((nI 0 ≤ sv ∧ sv ≤ nI 31) ∧ (nI 0 ≤ ov ∧ ov ≤ nI 31) ∧ (nI 0 ≤ pv ∧ pv ≤ nI 15)) ∧ (∃ j, j < T ∧ (su j = sv ∧ pr j = pv ∧ ob j = ov)) ∧ r = nI T ∧ w' = (mW g w h (nI 0) (nI T) np mo gb wr nr su pr ob ki fi se ta nd ii sp qu rF rT rD)) ∨ (((nI 0 ≤ sv ∧ sv ≤ nI 31) ∧ (nI 0 ≤ ov ∧ ov ≤ nI 31) ∧ (nI 0 ≤ pv ∧ pv ≤ nI 15)) ∧ ¬ (∃ j, j < T ∧ (su j = sv ∧ pr j = pv ∧ ob j = ov)) ∧ T = 150 ∧ r = -4 ∧ w' = (mW g w h (nI 0) (nI T) np mo gb wr nr su pr ob ki fi se ta nd ii sp qu rF rT rD)) ∨ (((nI 0 ≤ sv ∧ sv ≤ nI 31) ∧ (nI 0 ≤ ov ∧ ov ≤ nI 31) ∧ (nI 0 ≤ pv ∧ pv ≤ nI 15)) ∧ ¬ (∃ j, j < T ∧ (su j = sv ∧ pr j = pv ∧ ob j = ov)) ∧ T < 150 ∧ r = nI (T + 1) ∧ w' = (mW g w h (nI 0) (nI (T + 1)) np mo gb wr nr (upd su T sv) (upd pr T pv) (upd ob T ov) ki fi se ta nd ii sp qu rF rT rD)))) 0 0 (cA s0) := by
  refine Met.ofW (cc := cX4_triple) (maxL := 5) (ret := some .int) (by decide) rfl ?_
  intro p e s m args below meth c s₁ B9 hml hv
  obtain ⟨rfl, h0s, hP, hK⟩ := hv
  have hx := B9.exec
  have hb := B9.bytes
  have hr := B9.returns
  have hts := atoms_spec (ws := Cond.code yX4_triple cX4_triple 5 (some .int) :: tg) B9.pre
  have hown : s.vm.findClass RX4 = some m.cls := findClass_of_methodNamed B9.named
  have hlocks := B9.notSynchronized
  have hS : gS s0 s.heap s.heap [] := va_S.rf
  have hRm : 2 ≤ (headSpec (Cond.code yX4_triple cX4_triple 5 (some .int) :: tg) ({ frames := 2, cells := 0, slots := 0, locals := 42 })).room.frames ∧ 42 ≤ (headSpec (Cond.code yX4_triple cX4_triple 5 (some .int) :: tg) ({ frames := 2, cells := 0, slots := 0, locals := 42 })).room.locals := ⟨Nat.le_refl _, Nat.le_refl _⟩
  have hcs : 0 + 0 ≤ (headSpec (Cond.code yX4_triple cX4_triple 5 (some .int) :: tg) ({ frames := 2, cells := 0, slots := 0, locals := 42 })).room.cells ∧ 0 + 0 ≤ (headSpec (Cond.code yX4_triple cX4_triple 5 (some .int) :: tg) ({ frames := 2, cells := 0, slots := 0, locals := 42 })).room.slots := ⟨Nat.zero_le _, Nat.zero_le _⟩
  have hl := lv_entry ([.ref h, .int (sv), .int (pv), .int (ov)]) (n := 5) (Nat.le_of_ble_eq_true rfl)
  rw [lg_entry_eq]
  generalize (lg_sl ([.ref h, .int (sv), .int (pv), .int (ov)]) ++ List.replicate (5 - (lg_sl ([.ref h, .int (sv), .int (pv), .int (ov)])).length) Slot.unset).toArray = ls at hl ⊢
  have hl : lv_has ls 5 [(0, .ref h), (1, .int (sv)), (2, .int (pv)), (3, .int (ov))] := hl
  refine lv_aload_n hx hb dX4_triple_0 rfl (lv_at hl 0 rfl) ?_
  refine lv_iconst (v := nI 0) hx hb dX4_triple_1 (by decide) ?_
  refine wd_put (ci := 5) (v := .int (nI 0)) (ty := .int) (C := RX4) (T := TX4) (N := 21) hx hb hts iwX4 tyX4 tyX4_ok nmX4 hown hK.1 hP hS (by omega) (mW_0) rfl 0 (by decide) (hts _ (tg_tail _ tw_426)) (fun _ h9 => h9) rfl (by decide +kernel) (rfl) (rfl) (Nat.le_of_ble_eq_true rfl) dX4_triple_2 (fun H locs hP hS hz => ?_)
  have hP : gP g (mW g w h (nI 0) (nI T) np mo gb wr nr su pr ob ki fi se ta nd ii sp qu rF rT rD) H := by have h9 : gP g (wd_up (mW g w h rf (nI T) np mo gb wr nr su pr ob ki fi se ta nd ii sp qu rF rT rD) h (.inr (5, [.int (nI 0), .ref (h + 1), .ref (h + 2), .ref (h + 3), .int (nI T), .ref (h + 4), .ref (h + 5), .ref (h + 6), .int (np), .int (mo), .ref (h + 7), .ref (h + 8), .ref (h + 9), .int (gb), .ref (h + 10), .ref (h + 11), .int (wr), .int (nr), .ref (h + 12), .ref (h + 13), .ref (h + 14)]))) H := hP; rw [mW_s0] at h9; exact h9
  refine lv_iload_n hx hb dX4_triple_5 rfl (lv_at hl 1 rfl) ?_
  refine cr_Si (As := [.int (sv)]) (rest := []) ⟨hx, hb, hml, hown, hts⟩ (c_X4_isNode l g s0 (mW g w h (nI 0) (nI T) np mo gb wr nr su pr ob ki fi se ta nd ii sp qu rF rT rD) sv) (cw_S 1 hts tg_tail tw_499 tw_500 tw_4 tw_501 rfl rfl (by decide +kernel) ⟨Nat.le_trans (by decide) hRm.1, Nat.le_trans (by decide) hRm.2⟩) hK hP h0s hS rfl hl.1 rfl (Nat.le_of_ble_eq_true rfl) dX4_triple_6 hcs (fun r9 w9 H locs hw hP hS => ?_)
  obtain ⟨e_r9, hw9⟩ := hw
  rw [hw9] at hP
  subst e_r9
  refine lv_if_eq (tgt := 29) hx hb dX4_triple_9 (by decide) (fun c_9 => ?_) (fun c_9 => ?_)
  · have c_9 := zB_0.mp c_9
    refine lv_bipush (v := (-2)) hx hb dX4_triple_29 (by decide) ?_
    exact W.iret (v := (-2)) hx hb hr (fun t ht hW => ⟨⟨_, (mW g w h (nI 0) (nI T) np mo gb wr nr su pr ob ki fi se ta nd ii sp qu rF rT rD), rfl, Or.inl ⟨by clear hts hP hK hx hb hr hown hS hRm hcs hl hlocks; grind, rfl, rfl⟩, cB_of ht hP⟩, hS.F ht⟩) hS.2.2 dX4_triple_31
  · have c_9 := zB_1.mp c_9
    refine lv_iload_n hx hb dX4_triple_12 rfl (lv_at hl 3 rfl) ?_
    refine cr_Si (As := [.int (ov)]) (rest := []) ⟨hx, hb, hml, hown, hts⟩ (c_X4_isNode l g s0 (mW g w h (nI 0) (nI T) np mo gb wr nr su pr ob ki fi se ta nd ii sp qu rF rT rD) ov) (cw_S 1 hts tg_tail tw_499 tw_500 tw_4 tw_501 rfl rfl (by decide +kernel) ⟨Nat.le_trans (by decide) hRm.1, Nat.le_trans (by decide) hRm.2⟩) hK hP h0s hS rfl hl.1 rfl (Nat.le_of_ble_eq_true rfl) dX4_triple_13 hcs (fun r9 w9 H locs hw hP hS => ?_)
    obtain ⟨e_r9, hw9⟩ := hw
    rw [hw9] at hP
    subst e_r9
    refine lv_if_eq (tgt := 29) hx hb dX4_triple_16 (by decide) (fun c_16 => ?_) (fun c_16 => ?_)
    · have c_16 := zB_0.mp c_16
      refine lv_bipush (v := (-2)) hx hb dX4_triple_29 (by decide) ?_
      exact W.iret (v := (-2)) hx hb hr (fun t ht hW => ⟨⟨_, (mW g w h (nI 0) (nI T) np mo gb wr nr su pr ob ki fi se ta nd ii sp qu rF rT rD), rfl, Or.inl ⟨by clear hts hP hK hx hb hr hown hS hRm hcs hl hlocks; grind, rfl, rfl⟩, cB_of ht hP⟩, hS.F ht⟩) hS.2.2 dX4_triple_31
    · have c_16 := zB_1.mp c_16
      refine lv_iload_n hx hb dX4_triple_19 rfl (lv_at hl 2 rfl) ?_
      refine lv_iconst (v := nI 0) hx hb dX4_triple_20 (by decide) ?_
      refine lv_bipush (v := nI 15) hx hb dX4_triple_21 (by decide) ?_
      refine cr_Si (As := [.int (pv), .int (nI 0), .int (nI 15)]) (rest := []) ⟨hx, hb, hml, hown, hts⟩ (c_X4_isBetween l g s0 (mW g w h (nI 0) (nI T) np mo gb wr nr su pr ob ki fi se ta nd ii sp qu rF rT rD) (pv) (nI 0) (nI 15)) (cw_S 3 hts tg_tail tw_502 tw_503 tw_4 tw_504 rfl rfl (by decide +kernel) ⟨Nat.le_trans (by decide) hRm.1, Nat.le_trans (by decide) hRm.2⟩) hK hP h0s hS rfl hl.1 rfl (Nat.le_of_ble_eq_true rfl) dX4_triple_23 hcs (fun r9 w9 H locs hw hP hS => ?_)
      obtain ⟨e_r9, hw9⟩ := hw
      rw [hw9] at hP
      subst e_r9
      refine lv_if_ne (tgt := 32) hx hb dX4_triple_26 (by decide) (fun c_26 => ?_) (fun c_26 => ?_)
      · have c_26 := zB_1.mp c_26
        refine lv_iconst (v := nI 0) hx hb dX4_triple_32 (by decide) ?_
        refine lv_istore (lv' := [(4, .int (nI 0)), (0, .ref h), (1, .int (sv)), (2, .int (pv)), (3, .int (ov))]) hx hb dX4_triple_33 hl (by decide) rfl (fun ls hl => ?_)
        refine lp_triple g s0 w h hs0 np mo gb wr nr su pr ob ki fi se ta nd ii sp qu rF rT rD T hT sv pv ov hx hb hml hown hts hK h0s hRm hcs ?_ ?_ (T + 1) 0 (by omega) (by omega) (fun j hj => absurd hj (Nat.not_lt_zero j)) _ _ ls hP hS (lv_sub hl [1, 2, 3, 4, 0] rfl)
        · intro j H locs ls hj hm hP hS hl
          refine lv_aload_n hx hb dX4_triple_77 rfl (lv_at hl 0 rfl) ?_
          refine wd_get (ci := 5) (v := .int (nI T)) (C := RX4) (T := TX4) (N := 21) hx hb hts iwX4 hown hK.1 hP (mW_0) rfl 4 (by decide) (hts _ (tg_tail _ tw_430)) (fun _ h9 => h9) rfl dX4_triple_78 ?_
          exact W.iret (v := nI T) hx hb hr (fun t ht hW => ⟨⟨_, (mW g w h (nI 0) (nI T) np mo gb wr nr su pr ob ki fi se ta nd ii sp qu rF rT rD), rfl, Or.inr (Or.inl ⟨⟨c_9, c_16, c_26⟩, ⟨j, hj, hm⟩, rfl, rfl⟩), cB_of ht hP⟩, hS.F ht⟩) hS.2.2 dX4_triple_81
        · intro H locs ls hex hP hS hl
          refine lv_aload_n hx hb dX4_triple_88 rfl (lv_at hl 0 rfl) ?_
          refine wd_get (ci := 5) (v := .int (nI T)) (C := RX4) (T := TX4) (N := 21) hx hb hts iwX4 hown hK.1 hP (mW_0) rfl 4 (by decide) (hts _ (tg_tail _ tw_430)) (fun _ h9 => h9) rfl dX4_triple_89 ?_
          refine lv_sipush (v := nI 150) hx hb dX4_triple_92 (by decide +kernel) ?_
          refine lv_icmp_ne (tgt := 101) hx hb dX4_triple_95 (by decide) (fun c_95 => ?_) (fun c_95 => ?_)
          · have c_95 := mt (nI_eq (a := T) (b := 150) (by omega) (by omega)).mpr c_95
            refine lv_aload_n hx hb dX4_triple_101 rfl (lv_at hl 0 rfl) ?_
            refine wd_get (ci := 5) (v := .ref (h + 1)) (C := RX4) (T := TX4) (N := 21) hx hb hts iwX4 hown hK.1 hP (mW_0) rfl 1 (by decide) (hts _ (tg_tail _ tw_427)) (fun _ h9 => h9) rfl dX4_triple_102 ?_
            refine lv_aload_n hx hb dX4_triple_105 rfl (lv_at hl 0 rfl) ?_
            refine wd_get (ci := 5) (v := .int (nI T)) (C := RX4) (T := TX4) (N := 21) hx hb hts iwX4 hown hK.1 hP (mW_0) rfl 4 (by decide) (hts _ (tg_tail _ tw_430)) (fun _ h9 => h9) rfl dX4_triple_106 ?_
            refine lv_iload_n hx hb dX4_triple_109 rfl (lv_at hl 1 rfl) ?_
            refine wd_istN hx hb hK.1 hP hS (by omega) 0 (k := T) (mW_1) rfl (by omega) (by decide) dX4_triple_110 (fun H locs hP hS hz => ?_)
            have hP : gP g (mW g w h (nI 0) (nI T) np mo gb wr nr (upd (su) T (sv)) pr ob ki fi se ta nd ii sp qu rF rT rD) H := by have h9 : gP g (wd_up (mW g w h (nI 0) (nI T) np mo gb wr nr su pr ob ki fi se ta nd ii sp qu rF rT rD) (h + 1) (wd_iA (g.2 0) 150 (upd (su) T (sv)))) H := hP; rw [mW_s1] at h9; exact h9
            refine lv_aload_n hx hb dX4_triple_111 rfl (lv_at hl 0 rfl) ?_
            refine wd_get (ci := 5) (v := .ref (h + 2)) (C := RX4) (T := TX4) (N := 21) hx hb hts iwX4 hown hK.1 hP (mW_0) rfl 2 (by decide) (hts _ (tg_tail _ tw_428)) (fun _ h9 => h9) rfl dX4_triple_112 ?_
            refine lv_aload_n hx hb dX4_triple_115 rfl (lv_at hl 0 rfl) ?_
            refine wd_get (ci := 5) (v := .int (nI T)) (C := RX4) (T := TX4) (N := 21) hx hb hts iwX4 hown hK.1 hP (mW_0) rfl 4 (by decide) (hts _ (tg_tail _ tw_430)) (fun _ h9 => h9) rfl dX4_triple_116 ?_
            refine lv_iload_n hx hb dX4_triple_119 rfl (lv_at hl 2 rfl) ?_
            refine wd_istN hx hb hK.1 hP hS (by omega) 0 (k := T) (mW_2) rfl (by omega) (by decide) dX4_triple_120 (fun H locs hP hS hz => ?_)
            have hP : gP g (mW g w h (nI 0) (nI T) np mo gb wr nr (upd (su) T (sv)) (upd (pr) T (pv)) ob ki fi se ta nd ii sp qu rF rT rD) H := by have h9 : gP g (wd_up (mW g w h (nI 0) (nI T) np mo gb wr nr (upd (su) T (sv)) pr ob ki fi se ta nd ii sp qu rF rT rD) (h + 2) (wd_iA (g.2 0) 150 (upd (pr) T (pv)))) H := hP; rw [mW_s2] at h9; exact h9
            refine lv_aload_n hx hb dX4_triple_121 rfl (lv_at hl 0 rfl) ?_
            refine wd_get (ci := 5) (v := .ref (h + 3)) (C := RX4) (T := TX4) (N := 21) hx hb hts iwX4 hown hK.1 hP (mW_0) rfl 3 (by decide) (hts _ (tg_tail _ tw_429)) (fun _ h9 => h9) rfl dX4_triple_122 ?_
            refine lv_aload_n hx hb dX4_triple_125 rfl (lv_at hl 0 rfl) ?_
            refine wd_get (ci := 5) (v := .int (nI T)) (C := RX4) (T := TX4) (N := 21) hx hb hts iwX4 hown hK.1 hP (mW_0) rfl 4 (by decide) (hts _ (tg_tail _ tw_430)) (fun _ h9 => h9) rfl dX4_triple_126 ?_
            refine lv_iload_n hx hb dX4_triple_129 rfl (lv_at hl 3 rfl) ?_
            refine wd_istN hx hb hK.1 hP hS (by omega) 0 (k := T) (mW_3) rfl (by omega) (by decide) dX4_triple_130 (fun H locs hP hS hz => ?_)
            have hP : gP g (mW g w h (nI 0) (nI T) np mo gb wr nr (upd (su) T (sv)) (upd (pr) T (pv)) (upd (ob) T (ov)) ki fi se ta nd ii sp qu rF rT rD) H := by have h9 : gP g (wd_up (mW g w h (nI 0) (nI T) np mo gb wr nr (upd (su) T (sv)) (upd (pr) T (pv)) ob ki fi se ta nd ii sp qu rF rT rD) (h + 3) (wd_iA (g.2 0) 150 (upd (ob) T (ov)))) H := hP; rw [mW_s3] at h9; exact h9
            refine lv_aload_n hx hb dX4_triple_131 rfl (lv_at hl 0 rfl) ?_
            refine lv_dup hx hb dX4_triple_132 rfl ?_
            refine wd_get (ci := 5) (v := .int (nI T)) (C := RX4) (T := TX4) (N := 21) hx hb hts iwX4 hown hK.1 hP (mW_0) rfl 4 (by decide) (hts _ (tg_tail _ tw_430)) (fun _ h9 => h9) rfl dX4_triple_133 ?_
            refine lv_iconst (v := nI 1) hx hb dX4_triple_136 (by decide) ?_
            refine lv_iadd hx hb dX4_triple_137 ?_
            refine wd_ti (x' := nI (T + 1)) (nI_add _ _) ?_
            refine wd_put (ci := 5) (v := .int (nI (T + 1))) (ty := .int) (C := RX4) (T := TX4) (N := 21) hx hb hts iwX4 tyX4 tyX4_ok nmX4 hown hK.1 hP hS (by omega) (mW_0) rfl 4 (by decide) (hts _ (tg_tail _ tw_430)) (fun _ h9 => h9) rfl (by decide +kernel) (rfl) (rfl) (Nat.le_of_ble_eq_true rfl) dX4_triple_138 (fun H locs hP hS hz => ?_)
            have hP : gP g (mW g w h (nI 0) (nI (T + 1)) np mo gb wr nr (upd (su) T (sv)) (upd (pr) T (pv)) (upd (ob) T (ov)) ki fi se ta nd ii sp qu rF rT rD) H := by have h9 : gP g (wd_up (mW g w h (nI 0) (nI T) np mo gb wr nr (upd (su) T (sv)) (upd (pr) T (pv)) (upd (ob) T (ov)) ki fi se ta nd ii sp qu rF rT rD) h (.inr (5, [.int (nI 0), .ref (h + 1), .ref (h + 2), .ref (h + 3), .int (nI (T + 1)), .ref (h + 4), .ref (h + 5), .ref (h + 6), .int (np), .int (mo), .ref (h + 7), .ref (h + 8), .ref (h + 9), .int (gb), .ref (h + 10), .ref (h + 11), .int (wr), .int (nr), .ref (h + 12), .ref (h + 13), .ref (h + 14)]))) H := hP; rw [mW_s0] at h9; exact h9
            refine lv_aload_n hx hb dX4_triple_141 rfl (lv_at hl 0 rfl) ?_
            refine wd_get (ci := 5) (v := .int (nI (T + 1))) (C := RX4) (T := TX4) (N := 21) hx hb hts iwX4 hown hK.1 hP (mW_0) rfl 4 (by decide) (hts _ (tg_tail _ tw_430)) (fun _ h9 => h9) rfl dX4_triple_142 ?_
            exact W.iret (v := nI (T + 1)) hx hb hr (fun t ht hW => ⟨⟨_, (mW g w h (nI 0) (nI (T + 1)) np mo gb wr nr (upd (su) T (sv)) (upd (pr) T (pv)) (upd (ob) T (ov)) ki fi se ta nd ii sp qu rF rT rD), rfl, Or.inr (Or.inr (Or.inr ⟨⟨c_9, c_16, c_26⟩, (fun q => q.elim (fun j q => hex j q.1 q.2)), by omega, rfl, rfl⟩)), cB_of ht hP⟩, hS.F ht⟩) hS.2.2 dX4_triple_145
          · have c_95 := (nI_eq (a := T) (b := 150) (by omega) (by omega)).mp c_95
            refine lv_bipush (v := (-4)) hx hb dX4_triple_98 (by decide) ?_
            exact W.iret (v := (-4)) hx hb hr (fun t ht hW => ⟨⟨_, (mW g w h (nI 0) (nI T) np mo gb wr nr su pr ob ki fi se ta nd ii sp qu rF rT rD), rfl, Or.inr (Or.inr (Or.inl ⟨⟨c_9, c_16, c_26⟩, (fun q => q.elim (fun j q => hex j q.1 q.2)), c_95, rfl, rfl⟩)), cB_of ht hP⟩, hS.F ht⟩) hS.2.2 dX4_triple_100
      · have c_26 := zB_0.mp c_26
        refine lv_bipush (v := (-2)) hx hb dX4_triple_29 (by decide) ?_
        exact W.iret (v := (-2)) hx hb hr (fun t ht hW => ⟨⟨_, (mW g w h (nI 0) (nI T) np mo gb wr nr su pr ob ki fi se ta nd ii sp qu rF rT rD), rfl, Or.inl ⟨by clear hts hP hK hx hb hr hown hS hRm hcs hl hlocks; grind, rfl, rfl⟩, cB_of ht hP⟩, hS.F ht⟩) hS.2.2 dX4_triple_31

def fn1 (nd : Nat → Int32) (u : Nat) : Nat → Nat → Int32
  | 0 => nd
  | k + 1 => upd (fn1 nd u k) (k + 1) (zB (k + 1 = u))
/-- a step down of findNeeded at the PATH q -/
def fn_a (ki : Nat → Int32) (A : Nat → Nat) (N : Nat → Int32) (q : Nat) : Nat → Int32 := if ¬ N q = 0 ∧ (nI 1 ≤ ki q ∧ ki q ≤ nI 6) then upd N (A q) (nI 1) else N
def fn_b (ki : Nat → Int32) (B : Nat → Nat) (N : Nat → Int32) (q : Nat) : Nat → Int32 := if ¬ N q = 0 ∧ (nI 2 ≤ ki q ∧ ki q ≤ nI 3) then upd N (B q) (nI 1) else N
def fn2 (ki : Nat → Int32) (A B : Nat → Nat) (u : Nat) (N : Nat → Int32) : Nat → Nat → Int32
  | 0 => N
  | t + 1 => fn_b ki B (fn_a ki A (fn2 ki A B u N t) (u - t)) (u - t)
set_option maxHeartbeats 4000000 in
set_option maxRecDepth 100000 in
theorem lp_fn1 {p : Program} {l : Launch} {e : Env} {R : Room} {s : State} {m : MethodId} {args : Array Value} {below : List Frame} {meth : Method} {c : Code} {Q : State → Prop} {H0 : Heap} {cells slots : Nat} (g : gX) (s0 : Nat) (w : wd_M) (h : Nat) (hs0 : s0 ≤ h) (rf nt mo gb wr nr : Int32) (su pr ob ki fi se ta nd ii sp qu rF rT rD : Nat → Int32) (P : Nat) (hP4 : P ≤ 40) (u : Nat) (hu : u ≤ P) (hx : p.tables.exec = Jvm.exec) (hb : c.code = cX4_findNeeded) (hml : c.maxLocals = 3) (hown : s.vm.findClass RX4 = some m.cls) (hts : ∀ w ∈ Cond.code yX4_findNeeded cX4_findNeeded 3 (none) :: tg, w.before args s = true) (hK : gK g s) (h0s : s0 ≤ H0.size) (hRm : 1 ≤ R.frames ∧ 22 ≤ R.locals) (hcs : cells + 0 ≤ R.cells ∧ slots + 0 ≤ R.slots)  (kx : ∀ (H : Heap) (locs : List Loc) (ls : Array Slot), gP g (mW g w h rf nt (nI P) mo gb wr nr su pr ob ki fi se ta (fn1 nd u P) ii sp qu rF rT rD) H → gS s0 H0 H locs → lv_has ls 3 [(0, .ref h), (1, .int (nI u)), (2, .int (nI (P + 1)))] → W p l e R s m args below meth c H locs cells slots Q (F0 m 32 ls [])) :
    ∀ (n k : Nat), k ≤ P → P + 1 ≤ k + n → ∀ (H : Heap) (locs : List Loc) (ls : Array Slot), gP g (mW g w h rf nt (nI P) mo gb wr nr su pr ob ki fi se ta (fn1 nd u k) ii sp qu rF rT rD) H → gS s0 H0 H locs → lv_has ls 3 [(0, .ref h), (1, .int (nI u)), (2, .int (nI (k + 1)))] → W p l e R s m args below meth c H locs cells slots Q (F0 m 2 ls []) := by
  intro n
  induction n with
  | zero =>
    intro k h1 h2
    exact absurd h2 (by omega)
  | succ n ih =>
    intro k hi hin H locs ls hP hS hl
    refine lv_iload_n hx hb dX4_findNeeded_2 rfl (lv_at hl 2 rfl) ?_
    refine lv_aload_n hx hb dX4_findNeeded_3 rfl (lv_at hl 0 rfl) ?_
    refine wd_get (ci := 5) (v := .int (nI P)) (C := RX4) (T := TX4) (N := 21) hx hb hts iwX4 hown hK.1 hP (mW_0) rfl 8 (by decide) (hts _ (tg_tail _ tw_434)) (fun _ h9 => h9) rfl dX4_findNeeded_4 ?_
    refine lv_icmp_gt (tgt := 32) hx hb dX4_findNeeded_7 (by decide) (fun c_7 => ?_) (fun c_7 => ?_)
    · have c_7 := (nI_ltI (a := P) (b := (k + 1)) (by omega) (by omega)).mp c_7
      have e9 : k = P := by omega
      try rw [e9] at hP
      try rw [e9] at hl
      exact kx H locs ls hP hS (lv_sub hl [0, 1, 2] rfl)
    · have c_7 := mt (nI_ltI (a := P) (b := (k + 1)) (by omega) (by omega)).mpr c_7
      refine lv_aload_n hx hb dX4_findNeeded_10 rfl (lv_at hl 0 rfl) ?_
      refine wd_get (ci := 5) (v := .ref (h + 8)) (C := RX4) (T := TX4) (N := 21) hx hb hts iwX4 hown hK.1 hP (mW_0) rfl 11 (by decide) (hts _ (tg_tail _ tw_437)) (fun _ h9 => h9) rfl dX4_findNeeded_11 ?_
      refine lv_iload_n hx hb dX4_findNeeded_14 rfl (lv_at hl 2 rfl) ?_
      refine lv_iload_n hx hb dX4_findNeeded_15 rfl (lv_at hl 2 rfl) ?_
      refine lv_iload_n hx hb dX4_findNeeded_16 rfl (lv_at hl 1 rfl) ?_
      refine lv_icmp_ne (tgt := 24) hx hb dX4_findNeeded_17 (by decide) (fun c_17 => ?_) (fun c_17 => ?_)
      · have c_17 := mt (nI_eq (a := (k + 1)) (b := u) (by omega) (by omega)).mpr c_17
        refine lv_iconst (v := nI 0) hx hb dX4_findNeeded_24 (by decide) ?_
        refine wd_zstN hx hb hK.1 hP hS (by omega) 1 (k := (k + 1)) (mW_8) rfl (by decide) (by omega) (by decide) dX4_findNeeded_25 (fun H locs hP hS hz => ?_)
        have hP : gP g (mW g w h rf nt (nI P) mo gb wr nr su pr ob ki fi se ta (upd (fn1 nd u k) (k + 1) (nI 0)) ii sp qu rF rT rD) H := by have h9 : gP g (wd_up (mW g w h rf nt (nI P) mo gb wr nr su pr ob ki fi se ta (fn1 nd u k) ii sp qu rF rT rD) (h + 8) (wd_iA (g.2 1) 41 (upd (fn1 nd u k) (k + 1) (nI 0)))) H := hP; rw [mW_s8] at h9; exact h9
        refine lv_iinc (v := nI (k + 1 + 1)) (lv' := [(2, .int (nI (k + 1 + 1))), (0, .ref h), (1, .int (nI u))]) hx hb dX4_findNeeded_26 hl (k := 2) rfl (nI_1 _) (by decide) rfl (fun ls hl => ?_)
        refine lv_goto (tgt := 2) hx hb dX4_findNeeded_29 (by decide) ?_
        have e8 : (mW g w h rf nt (nI P) mo gb wr nr su pr ob ki fi se ta (upd (fn1 nd u k) (k + 1) (nI 0)) ii sp qu rF rT rD) = (mW g w h rf nt (nI P) mo gb wr nr su pr ob ki fi se ta (fn1 nd u (k + 1)) ii sp qu rF rT rD) := by rw [fn1, zB_f c_17]
        rw [e8] at hP
        have hl : lv_has ls 3 [(0, .ref h), (1, .int (nI u)), (2, .int (nI (k + 1 + 1)))] := lv_sub hl [1, 2, 0] rfl
        have e8 : ([(0, .ref h), (1, .int (nI u)), (2, .int (nI (k + 1 + 1)))] : List (Nat × Value)) = [(0, .ref h), (1, .int (nI u)), (2, .int (nI ((k + 1) + 1)))] := by rfl
        rw [e8] at hl
        exact ih (k + 1) (by omega) (by omega) _ _ ls hP hS hl
      · have c_17 := (nI_eq (a := (k + 1)) (b := u) (by omega) (by omega)).mp c_17
        refine lv_iconst (v := nI 1) hx hb dX4_findNeeded_20 (by decide) ?_
        refine lv_goto (tgt := 25) hx hb dX4_findNeeded_21 (by decide) ?_
        refine wd_zstN hx hb hK.1 hP hS (by omega) 1 (k := (k + 1)) (mW_8) rfl (by decide) (by omega) (by decide) dX4_findNeeded_25 (fun H locs hP hS hz => ?_)
        have hP : gP g (mW g w h rf nt (nI P) mo gb wr nr su pr ob ki fi se ta (upd (fn1 nd u k) (k + 1) (nI 1)) ii sp qu rF rT rD) H := by have h9 : gP g (wd_up (mW g w h rf nt (nI P) mo gb wr nr su pr ob ki fi se ta (fn1 nd u k) ii sp qu rF rT rD) (h + 8) (wd_iA (g.2 1) 41 (upd (fn1 nd u k) (k + 1) (nI 1)))) H := hP; rw [mW_s8] at h9; exact h9
        refine lv_iinc (v := nI (k + 1 + 1)) (lv' := [(2, .int (nI (k + 1 + 1))), (0, .ref h), (1, .int (nI u))]) hx hb dX4_findNeeded_26 hl (k := 2) rfl (nI_1 _) (by decide) rfl (fun ls hl => ?_)
        refine lv_goto (tgt := 2) hx hb dX4_findNeeded_29 (by decide) ?_
        have e8 : (mW g w h rf nt (nI P) mo gb wr nr su pr ob ki fi se ta (upd (fn1 nd u k) (k + 1) (nI 1)) ii sp qu rF rT rD) = (mW g w h rf nt (nI P) mo gb wr nr su pr ob ki fi se ta (fn1 nd u (k + 1)) ii sp qu rF rT rD) := by rw [fn1, zB_t c_17]
        rw [e8] at hP
        have hl : lv_has ls 3 [(0, .ref h), (1, .int (nI u)), (2, .int (nI (k + 1 + 1)))] := lv_sub hl [1, 2, 0] rfl
        have e8 : ([(0, .ref h), (1, .int (nI u)), (2, .int (nI (k + 1 + 1)))] : List (Nat × Value)) = [(0, .ref h), (1, .int (nI u)), (2, .int (nI ((k + 1) + 1)))] := by rfl
        rw [e8] at hl
        exact ih (k + 1) (by omega) (by omega) _ _ ls hP hS hl

set_option maxHeartbeats 4000000 in
set_option maxRecDepth 100000 in
theorem lp_fn2 {p : Program} {l : Launch} {e : Env} {R : Room} {s : State} {m : MethodId} {args : Array Value} {below : List Frame} {meth : Method} {c : Code} {Q : State → Prop} {H0 : Heap} {cells slots : Nat} (g : gX) (s0 : Nat) (w : wd_M) (h : Nat) (hs0 : s0 ≤ h) (rf nt mo gb wr nr : Int32) (su pr ob ki fi se ta nd ii sp qu rF rT rD : Nat → Int32) (P : Nat) (hP4 : P ≤ 40) (u : Nat) (hu : u ≤ P) (A B : Nat → Nat) (hA9 : ∀ q, 1 ≤ q → q ≤ P → (nI 1 ≤ ki q ∧ ki q ≤ nI 6) → fi q = nI (A q) ∧ A q ≤ 40) (hB9 : ∀ q, 1 ≤ q → q ≤ P → (nI 2 ≤ ki q ∧ ki q ≤ nI 3) → se q = nI (B q) ∧ B q ≤ 40)  (hx : p.tables.exec = Jvm.exec) (hb : c.code = cX4_findNeeded) (hml : c.maxLocals = 3) (hown : s.vm.findClass RX4 = some m.cls) (hts : ∀ w ∈ Cond.code yX4_findNeeded cX4_findNeeded 3 (none) :: tg, w.before args s = true) (hK : gK g s) (h0s : s0 ≤ H0.size) (hRm : 1 ≤ R.frames ∧ 22 ≤ R.locals) (hcs : cells + 0 ≤ R.cells ∧ slots + 0 ≤ R.slots)  (kx : ∀ (H : Heap) (locs : List Loc) (ls : Array Slot), gP g (mW g w h rf nt (nI P) mo gb wr nr su pr ob ki fi se ta (fn2 ki A B u nd u) ii sp qu rF rT rD) H → gS s0 H0 H locs → lv_has ls 3 [(0, .ref h), (1, .int (nI u)), (2, .int (nI (u - u)))] → W p l e R s m args below meth c H locs cells slots Q (F0 m 115 ls [])) :
    ∀ (n t : Nat), t ≤ u → u + 1 ≤ t + n → ∀ (H : Heap) (locs : List Loc) (ls : Array Slot), gP g (mW g w h rf nt (nI P) mo gb wr nr su pr ob ki fi se ta (fn2 ki A B u nd t) ii sp qu rF rT rD) H → gS s0 H0 H locs → lv_has ls 3 [(0, .ref h), (1, .int (nI u)), (2, .int (nI (u - t)))] → W p l e R s m args below meth c H locs cells slots Q (F0 m 34 ls []) := by
  intro n
  induction n with
  | zero =>
    intro t h1 h2
    exact absurd h2 (by omega)
  | succ n ih =>
    intro t hi hin H locs ls hP hS hl
    refine lv_iload_n hx hb dX4_findNeeded_34 rfl (lv_at hl 2 rfl) ?_
    refine lv_if_le (tgt := 115) hx hb dX4_findNeeded_35 (by decide) (fun c_35 => ?_) (fun c_35 => ?_)
    · have c_35 := (nI_leI (a := (u - t)) (b := 0) (by omega) (by omega)).mp (show nI (u - t) ≤ nI 0 from c_35)
      have e9 : t = u := by omega
      try rw [e9] at hP
      try rw [e9] at hl
      exact kx H locs ls hP hS (lv_sub hl [0, 1, 2] rfl)
    · have c_35 := mt (nI_leI (a := (u - t)) (b := 0) (by omega) (by omega)).mpr (show ¬ (nI (u - t) ≤ nI 0) from c_35)
      refine lv_aload_n hx hb dX4_findNeeded_38 rfl (lv_at hl 0 rfl) ?_
      refine wd_get (ci := 5) (v := .ref (h + 8)) (C := RX4) (T := TX4) (N := 21) hx hb hts iwX4 hown hK.1 hP (mW_0) rfl 11 (by decide) (hts _ (tg_tail _ tw_437)) (fun _ h9 => h9) rfl dX4_findNeeded_39 ?_
      refine lv_iload_n hx hb dX4_findNeeded_42 rfl (lv_at hl 2 rfl) ?_
      refine wd_zldN hx hb hK.1 hP 1 (k := (u - t)) (mW_8) rfl (by omega) (by decide) dX4_findNeeded_43 ?_
      refine lv_if_eq (tgt := 74) hx hb dX4_findNeeded_44 (by decide) (fun c_44 => ?_) (fun c_44 => ?_)
      · have f1 : fn_a ki A (fn2 ki A B u nd t) (u - t) = fn2 ki A B u nd t := by rw [fn_a, if_neg (fun q => q.1 c_44)]
        rw [← f1] at hP
        refine lv_aload_n hx hb dX4_findNeeded_74 rfl (lv_at hl 0 rfl) ?_
        refine wd_get (ci := 5) (v := .ref (h + 8)) (C := RX4) (T := TX4) (N := 21) hx hb hts iwX4 hown hK.1 hP (mW_0) rfl 11 (by decide) (hts _ (tg_tail _ tw_437)) (fun _ h9 => h9) rfl dX4_findNeeded_75 ?_
        refine lv_iload_n hx hb dX4_findNeeded_78 rfl (lv_at hl 2 rfl) ?_
        refine wd_zldN hx hb hK.1 hP 1 (k := (u - t)) (mW_8) rfl (by omega) (by decide) dX4_findNeeded_79 ?_
        refine lv_if_eq (tgt := 109) hx hb dX4_findNeeded_80 (by decide) (fun c_80 => ?_) (fun c_80 => ?_)
        · refine lv_iinc (v := nI (u - (t + 1))) (lv' := [(2, .int (nI (u - (t + 1)))), (0, .ref h), (1, .int (nI u))]) hx hb dX4_findNeeded_109 hl (k := 2) rfl (by rw [show u - t = (u - (t + 1)) + 1 by omega]; exact pk_m1 _) (by decide) rfl (fun ls hl => ?_)
          refine lv_goto (tgt := 34) hx hb dX4_findNeeded_112 (by decide) ?_
          have e8 : (mW g w h rf nt (nI P) mo gb wr nr su pr ob ki fi se ta (fn_a ki A (fn2 ki A B u nd t) (u - t)) ii sp qu rF rT rD) = (mW g w h rf nt (nI P) mo gb wr nr su pr ob ki fi se ta (fn2 ki A B u nd (t + 1)) ii sp qu rF rT rD) := by rw [fn2, fn_b, if_neg (fun q => q.1 c_80)]
          rw [e8] at hP
          have hl : lv_has ls 3 [(0, .ref h), (1, .int (nI u)), (2, .int (nI (u - (t + 1))))] := lv_sub hl [1, 2, 0] rfl
          exact ih (t + 1) (by omega) (by omega) _ _ ls hP hS hl
        · refine lv_aload_n hx hb dX4_findNeeded_83 rfl (lv_at hl 0 rfl) ?_
          refine wd_get (ci := 5) (v := .ref (h + 4)) (C := RX4) (T := TX4) (N := 21) hx hb hts iwX4 hown hK.1 hP (mW_0) rfl 5 (by decide) (hts _ (tg_tail _ tw_431)) (fun _ h9 => h9) rfl dX4_findNeeded_84 ?_
          refine lv_iload_n hx hb dX4_findNeeded_87 rfl (lv_at hl 2 rfl) ?_
          refine wd_ildN hx hb hK.1 hP 0 (k := (u - t)) (mW_4) rfl (by omega) (by decide) dX4_findNeeded_88 ?_
          refine lv_iconst (v := nI 2) hx hb dX4_findNeeded_89 (by decide) ?_
          refine lv_iconst (v := nI 3) hx hb dX4_findNeeded_90 (by decide) ?_
          refine cr_Si (As := [.int (ki (u - t)), .int (nI 2), .int (nI 3)]) (rest := []) ⟨hx, hb, hml, hown, hts⟩ (c_X4_isBetween l g s0 (mW g w h rf nt (nI P) mo gb wr nr su pr ob ki fi se ta (fn_a ki A (fn2 ki A B u nd t) (u - t)) ii sp qu rF rT rD) (ki (u - t)) (nI 2) (nI 3)) (cw_S 3 hts tg_tail tw_502 tw_503 tw_4 tw_504 rfl rfl (by decide +kernel) ⟨Nat.le_trans (by decide) hRm.1, Nat.le_trans (by decide) hRm.2⟩) hK hP h0s hS rfl hl.1 rfl (Nat.le_of_ble_eq_true rfl) dX4_findNeeded_91 hcs (fun r9 w9 H locs hw hP hS => ?_)
          obtain ⟨e_r9, hw9⟩ := hw
          rw [hw9] at hP
          subst e_r9
          refine lv_if_eq (tgt := 109) hx hb dX4_findNeeded_94 (by decide) (fun c_94 => ?_) (fun c_94 => ?_)
          · have c_94 := zB_0.mp c_94
            refine lv_iinc (v := nI (u - (t + 1))) (lv' := [(2, .int (nI (u - (t + 1)))), (0, .ref h), (1, .int (nI u))]) hx hb dX4_findNeeded_109 hl (k := 2) rfl (by rw [show u - t = (u - (t + 1)) + 1 by omega]; exact pk_m1 _) (by decide) rfl (fun ls hl => ?_)
            refine lv_goto (tgt := 34) hx hb dX4_findNeeded_112 (by decide) ?_
            have e8 : (mW g w h rf nt (nI P) mo gb wr nr su pr ob ki fi se ta (fn_a ki A (fn2 ki A B u nd t) (u - t)) ii sp qu rF rT rD) = (mW g w h rf nt (nI P) mo gb wr nr su pr ob ki fi se ta (fn2 ki A B u nd (t + 1)) ii sp qu rF rT rD) := by rw [fn2, fn_b, if_neg (fun q => c_94 q.2)]
            rw [e8] at hP
            have hl : lv_has ls 3 [(0, .ref h), (1, .int (nI u)), (2, .int (nI (u - (t + 1))))] := lv_sub hl [1, 2, 0] rfl
            exact ih (t + 1) (by omega) (by omega) _ _ ls hP hS hl
          · have c_94 := zB_1.mp c_94
            refine lv_aload_n hx hb dX4_findNeeded_97 rfl (lv_at hl 0 rfl) ?_
            refine wd_get (ci := 5) (v := .ref (h + 8)) (C := RX4) (T := TX4) (N := 21) hx hb hts iwX4 hown hK.1 hP (mW_0) rfl 11 (by decide) (hts _ (tg_tail _ tw_437)) (fun _ h9 => h9) rfl dX4_findNeeded_98 ?_
            refine lv_aload_n hx hb dX4_findNeeded_101 rfl (lv_at hl 0 rfl) ?_
            refine wd_get (ci := 5) (v := .ref (h + 6)) (C := RX4) (T := TX4) (N := 21) hx hb hts iwX4 hown hK.1 hP (mW_0) rfl 7 (by decide) (hts _ (tg_tail _ tw_433)) (fun _ h9 => h9) rfl dX4_findNeeded_102 ?_
            refine lv_iload_n hx hb dX4_findNeeded_105 rfl (lv_at hl 2 rfl) ?_
            refine wd_ildN hx hb hK.1 hP 0 (k := (u - t)) (mW_6) rfl (by omega) (by decide) dX4_findNeeded_106 ?_
            refine wd_ti (x' := nI (B (u - t))) ((hB9 (u - t) (by omega) (by omega) c_94).1) ?_
            refine lv_iconst (v := nI 1) hx hb dX4_findNeeded_107 (by decide) ?_
            refine wd_zstN hx hb hK.1 hP hS (by omega) 1 (k := (B (u - t))) (mW_8) rfl (by decide) (by have := (hB9 (u - t) (by omega) (by omega) c_94).2; omega) (by decide) dX4_findNeeded_108 (fun H locs hP hS hz => ?_)
            have hP : gP g (mW g w h rf nt (nI P) mo gb wr nr su pr ob ki fi se ta (upd (fn_a ki A (fn2 ki A B u nd t) (u - t)) (B (u - t)) (nI 1)) ii sp qu rF rT rD) H := by have h9 : gP g (wd_up (mW g w h rf nt (nI P) mo gb wr nr su pr ob ki fi se ta (fn_a ki A (fn2 ki A B u nd t) (u - t)) ii sp qu rF rT rD) (h + 8) (wd_iA (g.2 1) 41 (upd (fn_a ki A (fn2 ki A B u nd t) (u - t)) (B (u - t)) (nI 1)))) H := hP; rw [mW_s8] at h9; exact h9
            refine lv_iinc (v := nI (u - (t + 1))) (lv' := [(2, .int (nI (u - (t + 1)))), (0, .ref h), (1, .int (nI u))]) hx hb dX4_findNeeded_109 hl (k := 2) rfl (by rw [show u - t = (u - (t + 1)) + 1 by omega]; exact pk_m1 _) (by decide) rfl (fun ls hl => ?_)
            refine lv_goto (tgt := 34) hx hb dX4_findNeeded_112 (by decide) ?_
            have e8 : (mW g w h rf nt (nI P) mo gb wr nr su pr ob ki fi se ta (upd (fn_a ki A (fn2 ki A B u nd t) (u - t)) (B (u - t)) (nI 1)) ii sp qu rF rT rD) = (mW g w h rf nt (nI P) mo gb wr nr su pr ob ki fi se ta (fn2 ki A B u nd (t + 1)) ii sp qu rF rT rD) := by rw [fn2, fn_b, if_pos ⟨c_80, c_94⟩]
            rw [e8] at hP
            have hl : lv_has ls 3 [(0, .ref h), (1, .int (nI u)), (2, .int (nI (u - (t + 1))))] := lv_sub hl [1, 2, 0] rfl
            exact ih (t + 1) (by omega) (by omega) _ _ ls hP hS hl
      · refine lv_aload_n hx hb dX4_findNeeded_47 rfl (lv_at hl 0 rfl) ?_
        refine wd_get (ci := 5) (v := .ref (h + 4)) (C := RX4) (T := TX4) (N := 21) hx hb hts iwX4 hown hK.1 hP (mW_0) rfl 5 (by decide) (hts _ (tg_tail _ tw_431)) (fun _ h9 => h9) rfl dX4_findNeeded_48 ?_
        refine lv_iload_n hx hb dX4_findNeeded_51 rfl (lv_at hl 2 rfl) ?_
        refine wd_ildN hx hb hK.1 hP 0 (k := (u - t)) (mW_4) rfl (by omega) (by decide) dX4_findNeeded_52 ?_
        refine lv_iconst (v := nI 1) hx hb dX4_findNeeded_53 (by decide) ?_
        refine lv_bipush (v := nI 6) hx hb dX4_findNeeded_54 (by decide) ?_
        refine cr_Si (As := [.int (ki (u - t)), .int (nI 1), .int (nI 6)]) (rest := []) ⟨hx, hb, hml, hown, hts⟩ (c_X4_isBetween l g s0 (mW g w h rf nt (nI P) mo gb wr nr su pr ob ki fi se ta (fn2 ki A B u nd t) ii sp qu rF rT rD) (ki (u - t)) (nI 1) (nI 6)) (cw_S 3 hts tg_tail tw_502 tw_503 tw_4 tw_504 rfl rfl (by decide +kernel) ⟨Nat.le_trans (by decide) hRm.1, Nat.le_trans (by decide) hRm.2⟩) hK hP h0s hS rfl hl.1 rfl (Nat.le_of_ble_eq_true rfl) dX4_findNeeded_56 hcs (fun r9 w9 H locs hw hP hS => ?_)
        obtain ⟨e_r9, hw9⟩ := hw
        rw [hw9] at hP
        subst e_r9
        refine lv_if_eq (tgt := 74) hx hb dX4_findNeeded_59 (by decide) (fun c_59 => ?_) (fun c_59 => ?_)
        · have c_59 := zB_0.mp c_59
          have f1 : fn_a ki A (fn2 ki A B u nd t) (u - t) = fn2 ki A B u nd t := by rw [fn_a, if_neg (fun q => c_59 q.2)]
          rw [← f1] at hP
          refine lv_aload_n hx hb dX4_findNeeded_74 rfl (lv_at hl 0 rfl) ?_
          refine wd_get (ci := 5) (v := .ref (h + 8)) (C := RX4) (T := TX4) (N := 21) hx hb hts iwX4 hown hK.1 hP (mW_0) rfl 11 (by decide) (hts _ (tg_tail _ tw_437)) (fun _ h9 => h9) rfl dX4_findNeeded_75 ?_
          refine lv_iload_n hx hb dX4_findNeeded_78 rfl (lv_at hl 2 rfl) ?_
          refine wd_zldN hx hb hK.1 hP 1 (k := (u - t)) (mW_8) rfl (by omega) (by decide) dX4_findNeeded_79 ?_
          refine lv_if_eq (tgt := 109) hx hb dX4_findNeeded_80 (by decide) (fun c_80 => ?_) (fun c_80 => ?_)
          · refine lv_iinc (v := nI (u - (t + 1))) (lv' := [(2, .int (nI (u - (t + 1)))), (0, .ref h), (1, .int (nI u))]) hx hb dX4_findNeeded_109 hl (k := 2) rfl (by rw [show u - t = (u - (t + 1)) + 1 by omega]; exact pk_m1 _) (by decide) rfl (fun ls hl => ?_)
            refine lv_goto (tgt := 34) hx hb dX4_findNeeded_112 (by decide) ?_
            have e8 : (mW g w h rf nt (nI P) mo gb wr nr su pr ob ki fi se ta (fn_a ki A (fn2 ki A B u nd t) (u - t)) ii sp qu rF rT rD) = (mW g w h rf nt (nI P) mo gb wr nr su pr ob ki fi se ta (fn2 ki A B u nd (t + 1)) ii sp qu rF rT rD) := by rw [fn2, fn_b, if_neg (fun q => q.1 c_80)]
            rw [e8] at hP
            have hl : lv_has ls 3 [(0, .ref h), (1, .int (nI u)), (2, .int (nI (u - (t + 1))))] := lv_sub hl [1, 2, 0] rfl
            exact ih (t + 1) (by omega) (by omega) _ _ ls hP hS hl
          · refine lv_aload_n hx hb dX4_findNeeded_83 rfl (lv_at hl 0 rfl) ?_
            refine wd_get (ci := 5) (v := .ref (h + 4)) (C := RX4) (T := TX4) (N := 21) hx hb hts iwX4 hown hK.1 hP (mW_0) rfl 5 (by decide) (hts _ (tg_tail _ tw_431)) (fun _ h9 => h9) rfl dX4_findNeeded_84 ?_
            refine lv_iload_n hx hb dX4_findNeeded_87 rfl (lv_at hl 2 rfl) ?_
            refine wd_ildN hx hb hK.1 hP 0 (k := (u - t)) (mW_4) rfl (by omega) (by decide) dX4_findNeeded_88 ?_
            refine lv_iconst (v := nI 2) hx hb dX4_findNeeded_89 (by decide) ?_
            refine lv_iconst (v := nI 3) hx hb dX4_findNeeded_90 (by decide) ?_
            refine cr_Si (As := [.int (ki (u - t)), .int (nI 2), .int (nI 3)]) (rest := []) ⟨hx, hb, hml, hown, hts⟩ (c_X4_isBetween l g s0 (mW g w h rf nt (nI P) mo gb wr nr su pr ob ki fi se ta (fn_a ki A (fn2 ki A B u nd t) (u - t)) ii sp qu rF rT rD) (ki (u - t)) (nI 2) (nI 3)) (cw_S 3 hts tg_tail tw_502 tw_503 tw_4 tw_504 rfl rfl (by decide +kernel) ⟨Nat.le_trans (by decide) hRm.1, Nat.le_trans (by decide) hRm.2⟩) hK hP h0s hS rfl hl.1 rfl (Nat.le_of_ble_eq_true rfl) dX4_findNeeded_91 hcs (fun r9 w9 H locs hw hP hS => ?_)
            obtain ⟨e_r9, hw9⟩ := hw
            rw [hw9] at hP
            subst e_r9
            refine lv_if_eq (tgt := 109) hx hb dX4_findNeeded_94 (by decide) (fun c_94 => ?_) (fun c_94 => ?_)
            · have c_94 := zB_0.mp c_94
              refine lv_iinc (v := nI (u - (t + 1))) (lv' := [(2, .int (nI (u - (t + 1)))), (0, .ref h), (1, .int (nI u))]) hx hb dX4_findNeeded_109 hl (k := 2) rfl (by rw [show u - t = (u - (t + 1)) + 1 by omega]; exact pk_m1 _) (by decide) rfl (fun ls hl => ?_)
              refine lv_goto (tgt := 34) hx hb dX4_findNeeded_112 (by decide) ?_
              have e8 : (mW g w h rf nt (nI P) mo gb wr nr su pr ob ki fi se ta (fn_a ki A (fn2 ki A B u nd t) (u - t)) ii sp qu rF rT rD) = (mW g w h rf nt (nI P) mo gb wr nr su pr ob ki fi se ta (fn2 ki A B u nd (t + 1)) ii sp qu rF rT rD) := by rw [fn2, fn_b, if_neg (fun q => c_94 q.2)]
              rw [e8] at hP
              have hl : lv_has ls 3 [(0, .ref h), (1, .int (nI u)), (2, .int (nI (u - (t + 1))))] := lv_sub hl [1, 2, 0] rfl
              exact ih (t + 1) (by omega) (by omega) _ _ ls hP hS hl
            · have c_94 := zB_1.mp c_94
              refine lv_aload_n hx hb dX4_findNeeded_97 rfl (lv_at hl 0 rfl) ?_
              refine wd_get (ci := 5) (v := .ref (h + 8)) (C := RX4) (T := TX4) (N := 21) hx hb hts iwX4 hown hK.1 hP (mW_0) rfl 11 (by decide) (hts _ (tg_tail _ tw_437)) (fun _ h9 => h9) rfl dX4_findNeeded_98 ?_
              refine lv_aload_n hx hb dX4_findNeeded_101 rfl (lv_at hl 0 rfl) ?_
              refine wd_get (ci := 5) (v := .ref (h + 6)) (C := RX4) (T := TX4) (N := 21) hx hb hts iwX4 hown hK.1 hP (mW_0) rfl 7 (by decide) (hts _ (tg_tail _ tw_433)) (fun _ h9 => h9) rfl dX4_findNeeded_102 ?_
              refine lv_iload_n hx hb dX4_findNeeded_105 rfl (lv_at hl 2 rfl) ?_
              refine wd_ildN hx hb hK.1 hP 0 (k := (u - t)) (mW_6) rfl (by omega) (by decide) dX4_findNeeded_106 ?_
              refine wd_ti (x' := nI (B (u - t))) ((hB9 (u - t) (by omega) (by omega) c_94).1) ?_
              refine lv_iconst (v := nI 1) hx hb dX4_findNeeded_107 (by decide) ?_
              refine wd_zstN hx hb hK.1 hP hS (by omega) 1 (k := (B (u - t))) (mW_8) rfl (by decide) (by have := (hB9 (u - t) (by omega) (by omega) c_94).2; omega) (by decide) dX4_findNeeded_108 (fun H locs hP hS hz => ?_)
              have hP : gP g (mW g w h rf nt (nI P) mo gb wr nr su pr ob ki fi se ta (upd (fn_a ki A (fn2 ki A B u nd t) (u - t)) (B (u - t)) (nI 1)) ii sp qu rF rT rD) H := by have h9 : gP g (wd_up (mW g w h rf nt (nI P) mo gb wr nr su pr ob ki fi se ta (fn_a ki A (fn2 ki A B u nd t) (u - t)) ii sp qu rF rT rD) (h + 8) (wd_iA (g.2 1) 41 (upd (fn_a ki A (fn2 ki A B u nd t) (u - t)) (B (u - t)) (nI 1)))) H := hP; rw [mW_s8] at h9; exact h9
              refine lv_iinc (v := nI (u - (t + 1))) (lv' := [(2, .int (nI (u - (t + 1)))), (0, .ref h), (1, .int (nI u))]) hx hb dX4_findNeeded_109 hl (k := 2) rfl (by rw [show u - t = (u - (t + 1)) + 1 by omega]; exact pk_m1 _) (by decide) rfl (fun ls hl => ?_)
              refine lv_goto (tgt := 34) hx hb dX4_findNeeded_112 (by decide) ?_
              have e8 : (mW g w h rf nt (nI P) mo gb wr nr su pr ob ki fi se ta (upd (fn_a ki A (fn2 ki A B u nd t) (u - t)) (B (u - t)) (nI 1)) ii sp qu rF rT rD) = (mW g w h rf nt (nI P) mo gb wr nr su pr ob ki fi se ta (fn2 ki A B u nd (t + 1)) ii sp qu rF rT rD) := by rw [fn2, fn_b, if_pos ⟨c_80, c_94⟩]
              rw [e8] at hP
              have hl : lv_has ls 3 [(0, .ref h), (1, .int (nI u)), (2, .int (nI (u - (t + 1))))] := lv_sub hl [1, 2, 0] rfl
              exact ih (t + 1) (by omega) (by omega) _ _ ls hP hS hl
        · have c_59 := zB_1.mp c_59
          refine lv_aload_n hx hb dX4_findNeeded_62 rfl (lv_at hl 0 rfl) ?_
          refine wd_get (ci := 5) (v := .ref (h + 8)) (C := RX4) (T := TX4) (N := 21) hx hb hts iwX4 hown hK.1 hP (mW_0) rfl 11 (by decide) (hts _ (tg_tail _ tw_437)) (fun _ h9 => h9) rfl dX4_findNeeded_63 ?_
          refine lv_aload_n hx hb dX4_findNeeded_66 rfl (lv_at hl 0 rfl) ?_
          refine wd_get (ci := 5) (v := .ref (h + 5)) (C := RX4) (T := TX4) (N := 21) hx hb hts iwX4 hown hK.1 hP (mW_0) rfl 6 (by decide) (hts _ (tg_tail _ tw_432)) (fun _ h9 => h9) rfl dX4_findNeeded_67 ?_
          refine lv_iload_n hx hb dX4_findNeeded_70 rfl (lv_at hl 2 rfl) ?_
          refine wd_ildN hx hb hK.1 hP 0 (k := (u - t)) (mW_5) rfl (by omega) (by decide) dX4_findNeeded_71 ?_
          refine wd_ti (x' := nI (A (u - t))) ((hA9 (u - t) (by omega) (by omega) c_59).1) ?_
          refine lv_iconst (v := nI 1) hx hb dX4_findNeeded_72 (by decide) ?_
          refine wd_zstN hx hb hK.1 hP hS (by omega) 1 (k := (A (u - t))) (mW_8) rfl (by decide) (by have := (hA9 (u - t) (by omega) (by omega) c_59).2; omega) (by decide) dX4_findNeeded_73 (fun H locs hP hS hz => ?_)
          have hP : gP g (mW g w h rf nt (nI P) mo gb wr nr su pr ob ki fi se ta (upd (fn2 ki A B u nd t) (A (u - t)) (nI 1)) ii sp qu rF rT rD) H := by have h9 : gP g (wd_up (mW g w h rf nt (nI P) mo gb wr nr su pr ob ki fi se ta (fn2 ki A B u nd t) ii sp qu rF rT rD) (h + 8) (wd_iA (g.2 1) 41 (upd (fn2 ki A B u nd t) (A (u - t)) (nI 1)))) H := hP; rw [mW_s8] at h9; exact h9
          have f1 : fn_a ki A (fn2 ki A B u nd t) (u - t) = upd (fn2 ki A B u nd t) (A (u - t)) (nI 1) := by rw [fn_a, if_pos ⟨c_44, c_59⟩]
          rw [← f1] at hP
          refine lv_aload_n hx hb dX4_findNeeded_74 rfl (lv_at hl 0 rfl) ?_
          refine wd_get (ci := 5) (v := .ref (h + 8)) (C := RX4) (T := TX4) (N := 21) hx hb hts iwX4 hown hK.1 hP (mW_0) rfl 11 (by decide) (hts _ (tg_tail _ tw_437)) (fun _ h9 => h9) rfl dX4_findNeeded_75 ?_
          refine lv_iload_n hx hb dX4_findNeeded_78 rfl (lv_at hl 2 rfl) ?_
          refine wd_zldN hx hb hK.1 hP 1 (k := (u - t)) (mW_8) rfl (by omega) (by decide) dX4_findNeeded_79 ?_
          refine lv_if_eq (tgt := 109) hx hb dX4_findNeeded_80 (by decide) (fun c_80 => ?_) (fun c_80 => ?_)
          · refine lv_iinc (v := nI (u - (t + 1))) (lv' := [(2, .int (nI (u - (t + 1)))), (0, .ref h), (1, .int (nI u))]) hx hb dX4_findNeeded_109 hl (k := 2) rfl (by rw [show u - t = (u - (t + 1)) + 1 by omega]; exact pk_m1 _) (by decide) rfl (fun ls hl => ?_)
            refine lv_goto (tgt := 34) hx hb dX4_findNeeded_112 (by decide) ?_
            have e8 : (mW g w h rf nt (nI P) mo gb wr nr su pr ob ki fi se ta (fn_a ki A (fn2 ki A B u nd t) (u - t)) ii sp qu rF rT rD) = (mW g w h rf nt (nI P) mo gb wr nr su pr ob ki fi se ta (fn2 ki A B u nd (t + 1)) ii sp qu rF rT rD) := by rw [fn2, fn_b, if_neg (fun q => q.1 c_80)]
            rw [e8] at hP
            have hl : lv_has ls 3 [(0, .ref h), (1, .int (nI u)), (2, .int (nI (u - (t + 1))))] := lv_sub hl [1, 2, 0] rfl
            exact ih (t + 1) (by omega) (by omega) _ _ ls hP hS hl
          · refine lv_aload_n hx hb dX4_findNeeded_83 rfl (lv_at hl 0 rfl) ?_
            refine wd_get (ci := 5) (v := .ref (h + 4)) (C := RX4) (T := TX4) (N := 21) hx hb hts iwX4 hown hK.1 hP (mW_0) rfl 5 (by decide) (hts _ (tg_tail _ tw_431)) (fun _ h9 => h9) rfl dX4_findNeeded_84 ?_
            refine lv_iload_n hx hb dX4_findNeeded_87 rfl (lv_at hl 2 rfl) ?_
            refine wd_ildN hx hb hK.1 hP 0 (k := (u - t)) (mW_4) rfl (by omega) (by decide) dX4_findNeeded_88 ?_
            refine lv_iconst (v := nI 2) hx hb dX4_findNeeded_89 (by decide) ?_
            refine lv_iconst (v := nI 3) hx hb dX4_findNeeded_90 (by decide) ?_
            refine cr_Si (As := [.int (ki (u - t)), .int (nI 2), .int (nI 3)]) (rest := []) ⟨hx, hb, hml, hown, hts⟩ (c_X4_isBetween l g s0 (mW g w h rf nt (nI P) mo gb wr nr su pr ob ki fi se ta (fn_a ki A (fn2 ki A B u nd t) (u - t)) ii sp qu rF rT rD) (ki (u - t)) (nI 2) (nI 3)) (cw_S 3 hts tg_tail tw_502 tw_503 tw_4 tw_504 rfl rfl (by decide +kernel) ⟨Nat.le_trans (by decide) hRm.1, Nat.le_trans (by decide) hRm.2⟩) hK hP h0s hS rfl hl.1 rfl (Nat.le_of_ble_eq_true rfl) dX4_findNeeded_91 hcs (fun r9 w9 H locs hw hP hS => ?_)
            obtain ⟨e_r9, hw9⟩ := hw
            rw [hw9] at hP
            subst e_r9
            refine lv_if_eq (tgt := 109) hx hb dX4_findNeeded_94 (by decide) (fun c_94 => ?_) (fun c_94 => ?_)
            · have c_94 := zB_0.mp c_94
              refine lv_iinc (v := nI (u - (t + 1))) (lv' := [(2, .int (nI (u - (t + 1)))), (0, .ref h), (1, .int (nI u))]) hx hb dX4_findNeeded_109 hl (k := 2) rfl (by rw [show u - t = (u - (t + 1)) + 1 by omega]; exact pk_m1 _) (by decide) rfl (fun ls hl => ?_)
              refine lv_goto (tgt := 34) hx hb dX4_findNeeded_112 (by decide) ?_
              have e8 : (mW g w h rf nt (nI P) mo gb wr nr su pr ob ki fi se ta (fn_a ki A (fn2 ki A B u nd t) (u - t)) ii sp qu rF rT rD) = (mW g w h rf nt (nI P) mo gb wr nr su pr ob ki fi se ta (fn2 ki A B u nd (t + 1)) ii sp qu rF rT rD) := by rw [fn2, fn_b, if_neg (fun q => c_94 q.2)]
              rw [e8] at hP
              have hl : lv_has ls 3 [(0, .ref h), (1, .int (nI u)), (2, .int (nI (u - (t + 1))))] := lv_sub hl [1, 2, 0] rfl
              exact ih (t + 1) (by omega) (by omega) _ _ ls hP hS hl
            · have c_94 := zB_1.mp c_94
              refine lv_aload_n hx hb dX4_findNeeded_97 rfl (lv_at hl 0 rfl) ?_
              refine wd_get (ci := 5) (v := .ref (h + 8)) (C := RX4) (T := TX4) (N := 21) hx hb hts iwX4 hown hK.1 hP (mW_0) rfl 11 (by decide) (hts _ (tg_tail _ tw_437)) (fun _ h9 => h9) rfl dX4_findNeeded_98 ?_
              refine lv_aload_n hx hb dX4_findNeeded_101 rfl (lv_at hl 0 rfl) ?_
              refine wd_get (ci := 5) (v := .ref (h + 6)) (C := RX4) (T := TX4) (N := 21) hx hb hts iwX4 hown hK.1 hP (mW_0) rfl 7 (by decide) (hts _ (tg_tail _ tw_433)) (fun _ h9 => h9) rfl dX4_findNeeded_102 ?_
              refine lv_iload_n hx hb dX4_findNeeded_105 rfl (lv_at hl 2 rfl) ?_
              refine wd_ildN hx hb hK.1 hP 0 (k := (u - t)) (mW_6) rfl (by omega) (by decide) dX4_findNeeded_106 ?_
              refine wd_ti (x' := nI (B (u - t))) ((hB9 (u - t) (by omega) (by omega) c_94).1) ?_
              refine lv_iconst (v := nI 1) hx hb dX4_findNeeded_107 (by decide) ?_
              refine wd_zstN hx hb hK.1 hP hS (by omega) 1 (k := (B (u - t))) (mW_8) rfl (by decide) (by have := (hB9 (u - t) (by omega) (by omega) c_94).2; omega) (by decide) dX4_findNeeded_108 (fun H locs hP hS hz => ?_)
              have hP : gP g (mW g w h rf nt (nI P) mo gb wr nr su pr ob ki fi se ta (upd (fn_a ki A (fn2 ki A B u nd t) (u - t)) (B (u - t)) (nI 1)) ii sp qu rF rT rD) H := by have h9 : gP g (wd_up (mW g w h rf nt (nI P) mo gb wr nr su pr ob ki fi se ta (fn_a ki A (fn2 ki A B u nd t) (u - t)) ii sp qu rF rT rD) (h + 8) (wd_iA (g.2 1) 41 (upd (fn_a ki A (fn2 ki A B u nd t) (u - t)) (B (u - t)) (nI 1)))) H := hP; rw [mW_s8] at h9; exact h9
              refine lv_iinc (v := nI (u - (t + 1))) (lv' := [(2, .int (nI (u - (t + 1)))), (0, .ref h), (1, .int (nI u))]) hx hb dX4_findNeeded_109 hl (k := 2) rfl (by rw [show u - t = (u - (t + 1)) + 1 by omega]; exact pk_m1 _) (by decide) rfl (fun ls hl => ?_)
              refine lv_goto (tgt := 34) hx hb dX4_findNeeded_112 (by decide) ?_
              have e8 : (mW g w h rf nt (nI P) mo gb wr nr su pr ob ki fi se ta (upd (fn_a ki A (fn2 ki A B u nd t) (u - t)) (B (u - t)) (nI 1)) ii sp qu rF rT rD) = (mW g w h rf nt (nI P) mo gb wr nr su pr ob ki fi se ta (fn2 ki A B u nd (t + 1)) ii sp qu rF rT rD) := by rw [fn2, fn_b, if_pos ⟨c_80, c_94⟩]
              rw [e8] at hP
              have hl : lv_has ls 3 [(0, .ref h), (1, .int (nI u)), (2, .int (nI (u - (t + 1))))] := lv_sub hl [1, 2, 0] rfl
              exact ih (t + 1) (by omega) (by omega) _ _ ls hP hS hl

set_option maxHeartbeats 4000000 in
set_option maxRecDepth 100000 in
theorem c_X4_findNeeded (l : Launch) (g : gX) (s0 : Nat) (w : wd_M) (h : Nat) (hs0 : s0 ≤ h) (rf nt mo gb wr nr : Int32) (su pr ob ki fi se ta nd ii sp qu rF rT rD : Nat → Int32) (P : Nat) (hP4 : P ≤ 40) (u : Nat) (hu : u ≤ P) (A B : Nat → Nat) (hA9 : ∀ q, 1 ≤ q → q ≤ P → (nI 1 ≤ ki q ∧ ki q ≤ nI 6) → fi q = nI (A q) ∧ A q ≤ 40) (hB9 : ∀ q, 1 ≤ q → q ≤ P → (nI 2 ≤ ki q ∧ ki q ≤ nI 3) → se q = nI (B q) ∧ B q ≤ 40)  : Met l yX4_findNeeded (Cond.code yX4_findNeeded cX4_findNeeded 3 (none) :: tg) ({ frames := 1, cells := 0, slots := 0, locals := 22 }) (cP g s0 (mW g w h rf nt (nI P) mo gb wr nr su pr ob ki fi se ta nd ii sp qu rF rT rD) [.ref h, .int (nI u)]) (cV g s0 (fun w' => w' = (mW g w h rf nt (nI P) mo gb wr nr su pr ob ki fi se ta (fn2 ki A B u (fn1 nd u P) u) ii sp qu rF rT rD))) 0 0 (cA s0) := by
  refine Met.ofW (cc := cX4_findNeeded) (maxL := 3) (ret := none) (by decide) rfl ?_
  intro p e s m args below meth c s₁ B9 hml hv
  obtain ⟨rfl, h0s, hP, hK⟩ := hv
  have hx := B9.exec
  have hb := B9.bytes
  have hr := B9.returns
  have hts := atoms_spec (ws := Cond.code yX4_findNeeded cX4_findNeeded 3 (none) :: tg) B9.pre
  have hown : s.vm.findClass RX4 = some m.cls := findClass_of_methodNamed B9.named
  have hlocks := B9.notSynchronized
  have hS : gS s0 s.heap s.heap [] := va_S.rf
  have hRm : 1 ≤ (headSpec (Cond.code yX4_findNeeded cX4_findNeeded 3 (none) :: tg) ({ frames := 1, cells := 0, slots := 0, locals := 22 })).room.frames ∧ 22 ≤ (headSpec (Cond.code yX4_findNeeded cX4_findNeeded 3 (none) :: tg) ({ frames := 1, cells := 0, slots := 0, locals := 22 })).room.locals := ⟨Nat.le_refl _, Nat.le_refl _⟩
  have hcs : 0 + 0 ≤ (headSpec (Cond.code yX4_findNeeded cX4_findNeeded 3 (none) :: tg) ({ frames := 1, cells := 0, slots := 0, locals := 22 })).room.cells ∧ 0 + 0 ≤ (headSpec (Cond.code yX4_findNeeded cX4_findNeeded 3 (none) :: tg) ({ frames := 1, cells := 0, slots := 0, locals := 22 })).room.slots := ⟨Nat.zero_le _, Nat.zero_le _⟩
  have hl := lv_entry ([.ref h, .int (nI u)]) (n := 3) (Nat.le_of_ble_eq_true rfl)
  rw [lg_entry_eq]
  generalize (lg_sl ([.ref h, .int (nI u)]) ++ List.replicate (3 - (lg_sl ([.ref h, .int (nI u)])).length) Slot.unset).toArray = ls at hl ⊢
  have hl : lv_has ls 3 [(0, .ref h), (1, .int (nI u))] := hl
  refine lv_iconst (v := nI 1) hx hb dX4_findNeeded_0 (by decide) ?_
  refine lv_istore_n (lv' := [(2, .int (nI 1)), (0, .ref h), (1, .int (nI u))]) hx hb dX4_findNeeded_1 rfl hl (by decide) rfl (fun ls hl => ?_)
  have e8 : (mW g w h rf nt (nI P) mo gb wr nr su pr ob ki fi se ta nd ii sp qu rF rT rD) = (mW g w h rf nt (nI P) mo gb wr nr su pr ob ki fi se ta (fn1 nd u 0) ii sp qu rF rT rD) := by rfl
  rw [e8] at hP
  have hl : lv_has ls 3 [(0, .ref h), (1, .int (nI u)), (2, .int (nI 1))] := lv_sub hl [1, 2, 0] rfl
  have e8 : ([(0, .ref h), (1, .int (nI u)), (2, .int (nI 1))] : List (Nat × Value)) = [(0, .ref h), (1, .int (nI u)), (2, .int (nI (0 + 1)))] := by rfl
  rw [e8] at hl
  refine lp_fn1 g s0 w h hs0 rf nt mo gb wr nr su pr ob ki fi se ta nd ii sp qu rF rT rD P hP4 u hu hx hb hml hown hts hK h0s hRm hcs  ?_ (P + 1) 0 (by omega) (by omega) _ _ ls hP hS hl
  intro H locs ls hP hS hl
  refine lv_iload_n hx hb dX4_findNeeded_32 rfl (lv_at hl 1 rfl) ?_
  refine lv_istore_n (lv' := [(2, .int (nI u)), (0, .ref h), (1, .int (nI u))]) hx hb dX4_findNeeded_33 rfl hl (by decide) rfl (fun ls hl => ?_)
  have e8 : (mW g w h rf nt (nI P) mo gb wr nr su pr ob ki fi se ta (fn1 nd u P) ii sp qu rF rT rD) = (mW g w h rf nt (nI P) mo gb wr nr su pr ob ki fi se ta (fn2 ki A B u (fn1 nd u P) 0) ii sp qu rF rT rD) := by rfl
  rw [e8] at hP
  have hl : lv_has ls 3 [(0, .ref h), (1, .int (nI u)), (2, .int (nI u))] := lv_sub hl [1, 2, 0] rfl
  have e8 : ([(0, .ref h), (1, .int (nI u)), (2, .int (nI u))] : List (Nat × Value)) = [(0, .ref h), (1, .int (nI u)), (2, .int (nI (u - 0)))] := by rfl
  rw [e8] at hl
  refine lp_fn2 g s0 w h hs0 rf nt mo gb wr nr su pr ob ki fi se ta (fn1 nd u P) ii sp qu rF rT rD P hP4 u hu A B hA9 hB9 hx hb hml hown hts hK h0s hRm hcs  ?_ (u + 1) 0 (by omega) (by omega) _ _ ls hP hS hl
  intro H locs ls hP hS hl
  exact W.vret hx hb hr (fun t ht hW => ⟨⟨(mW g w h rf nt (nI P) mo gb wr nr su pr ob ki fi se ta (fn2 ki A B u (fn1 nd u P) u) ii sp qu rF rT rD), rfl, rfl, cB_of ht hP⟩, hS.F ht⟩) hS.2.2 dX4_findNeeded_115
end
section
/-! THE REFERENCE: makeLinks, joined -/
/-- a row of numbers as a row of ints -/
def tN (M : Nat → Nat) : Nat → Int32 := fun j => nI (M j)
theorem tN_up {M : Nat → Nat} {i v : Nat} : upd (tN M) i (nI v) = tN (va_up M i v) := by
  funext j
  unfold upd tN va_up
  by_cases h : j = i
  · rw [if_pos h, if_pos h]
  · rw [if_neg h, if_neg h]
abbrev mx : Nat := 1000000
def mB (M : Nat → Nat) : Prop := ∀ j, M j ≤ 1000000
theorem mB_up {M : Nat → Nat} {i v : Nat} (h : mB M) : mB (va_up M i (min v 1000000)) := by
  intro j
  unfold va_up
  by_cases hj : j = i
  · rw [if_pos hj]; omega
  · rw [if_neg hj]; exact h j
abbrev jx (u x y : Nat) : Nat := 1024 * u + 32 * x + y
def gd (ki fi se pr : Nat → Int32) (u k : Nat) : Prop := if ki u = 0 then pr k = fi u else ¬ pr k = fi u ∧ ¬ pr k = se u
def ml (ki fi se pr : Nat → Int32) (S O : Nat → Nat) (u : Nat) (M : Nat → Nat) : Nat → Nat → Nat
  | 0 => M
  | k + 1 => if (if ki u = 0 then pr k = fi u else ¬ pr k = fi u ∧ ¬ pr k = se u) then va_up (ml ki fi se pr S O u M k) (1024 * u + 32 * S k + O k) (min (ml ki fi se pr S O u M k (1024 * u + 32 * S k + O k) + 1) 1000000) else ml ki fi se pr S O u M k
theorem ml_le {ki fi se pr : Nat → Int32} {S O : Nat → Nat} {u : Nat} {M : Nat → Nat} (h : mB M) : ∀ k, mB (ml ki fi se pr S O u M k) := by
  intro k
  induction k with
  | zero => exact h
  | succ k ih =>
    rw [ml]
    split
    · split
      · exact mB_up ih
      · exact ih
    · split
      · exact mB_up ih
      · exact ih
def jn2 (M : Nat → Nat) (a b x y : Nat) : Nat → Nat
  | 0 => 0
  | z + 1 => jn2 M a b x y z + M (1024 * a + 32 * x + z) * M (1024 * b + 32 * z + y)
theorem jn2_le {M : Nat → Nat} {a b x y : Nat} (h : mB M) : ∀ z, jn2 M a b x y z ≤ z * 1000000000000 := by
  intro z
  induction z with
  | zero => exact Nat.zero_le _
  | succ z ih =>
    have h1 : M (1024 * a + 32 * x + z) * M (1024 * b + 32 * z + y) ≤ 1000000 * 1000000 := Nat.mul_le_mul (h _) (h _)
    rw [jn2]
    omega
def jn (kd : Nat) (M : Nat → Nat) (ii : Nat → Int32) (a b x y : Nat) : Nat := if kd = 1 then M (1024 * a + 32 * y + x) else if kd = 3 then M (1024 * a + 32 * x + y) + M (1024 * b + 32 * x + y) else if kd = 6 then (if (x = y ∧ ¬ ii x = 0) ∨ 0 < M (1024 * a + 32 * x + y) then 1 else 0) else jn2 M a b x y 32
theorem jn_le {kd : Nat} {M : Nat → Nat} {ii : Nat → Int32} {a b x y : Nat} (h : mB M) : jn kd M ii a b x y < 2 ^ 62 := by
  unfold jn
  have h1 := h (1024 * a + 32 * y + x)
  have h2 := h (1024 * a + 32 * x + y)
  have h3 := h (1024 * b + 32 * x + y)
  have h4 := jn2_le (a := a) (b := b) (x := x) (y := y) h 32
  split
  · omega
  · split
    · omega
    · split
      · split <;> omega
      · omega
set_option maxHeartbeats 4000000 in
set_option maxRecDepth 100000 in
theorem lp_ml {p : Program} {l : Launch} {e : Env} {R : Room} {s : State} {m : MethodId} {args : Array Value} {below : List Frame} {meth : Method} {c : Code} {Q : State → Prop} {H0 : Heap} {cells slots : Nat} (g : gX) (s0 : Nat) (w : wd_M) (h : Nat) (hs0 : s0 ≤ h) (rf np mo gb wr nr : Int32) (su pr ob ki fi se nd ii sp qu rF rT rD : Nat → Int32) (T : Nat) (hT : T ≤ 150) (S O : Nat → Nat) (hS9 : ∀ k, k < T → su k = nI (S k) ∧ S k < 32) (hO9 : ∀ k, k < T → ob k = nI (O k) ∧ O k < 32) (M : Nat → Nat) (hM9 : mB M) (u : Nat) (hu : u ≤ 40) (hx : p.tables.exec = Jvm.exec) (hb : c.code = cX4_makeLinks) (hml : c.maxLocals = 5) (hown : s.vm.findClass RX4 = some m.cls) (hts : ∀ w ∈ Cond.code yX4_makeLinks cX4_makeLinks 5 (none) :: tg, w.before args s = true) (hK : gK g s) (h0s : s0 ≤ H0.size) (hRm : 1 ≤ R.frames ∧ 25 ≤ R.locals) (hcs : cells + 0 ≤ R.cells ∧ slots + 0 ≤ R.slots)  (kx : ∀ (H : Heap) (locs : List Loc) (ls : Array Slot), gP g (mW g w h rf (nI T) np mo gb wr nr su pr ob ki fi se (tN (ml ki fi se pr S O u M T)) nd ii sp qu rF rT rD) H → gS s0 H0 H locs → lv_has ls 5 [(0, .ref h), (1, .int (nI u)), (2, .int (nI T))] → W p l e R s m args below meth c H locs cells slots Q (F0 m 119 ls [])) :
    ∀ (n k : Nat), k ≤ T → T + 1 ≤ k + n → ∀ (H : Heap) (locs : List Loc) (ls : Array Slot), gP g (mW g w h rf (nI T) np mo gb wr nr su pr ob ki fi se (tN (ml ki fi se pr S O u M k)) nd ii sp qu rF rT rD) H → gS s0 H0 H locs → lv_has ls 5 [(0, .ref h), (1, .int (nI u)), (2, .int (nI k))] → W p l e R s m args below meth c H locs cells slots Q (F0 m 2 ls []) := by
  intro n
  induction n with
  | zero =>
    intro k h1 h2
    exact absurd h2 (by omega)
  | succ n ih =>
    intro k hi hin H locs ls hP hS hl
    refine lv_iload_n hx hb dX4_makeLinks_2 rfl (lv_at hl 2 rfl) ?_
    refine lv_aload_n hx hb dX4_makeLinks_3 rfl (lv_at hl 0 rfl) ?_
    refine wd_get (ci := 5) (v := .int (nI T)) (C := RX4) (T := TX4) (N := 21) hx hb hts iwX4 hown hK.1 hP (mW_0) rfl 4 (by decide) (hts _ (tg_tail _ tw_430)) (fun _ h9 => h9) rfl dX4_makeLinks_4 ?_
    refine lv_icmp_ge (tgt := 119) hx hb dX4_makeLinks_7 (by decide) (fun c_7 => ?_) (fun c_7 => ?_)
    · have c_7 := (nI_leI (a := T) (b := k) (by omega) (by omega)).mp c_7
      have e9 : k = T := by omega
      try rw [e9] at hP
      try rw [e9] at hl
      exact kx H locs ls hP hS (lv_sub hl [0, 1, 2] rfl)
    · have c_7 := mt (nI_leI (a := T) (b := k) (by omega) (by omega)).mpr c_7
      refine lv_aload_n hx hb dX4_makeLinks_10 rfl (lv_at hl 0 rfl) ?_
      refine wd_get (ci := 5) (v := .ref (h + 2)) (C := RX4) (T := TX4) (N := 21) hx hb hts iwX4 hown hK.1 hP (mW_0) rfl 2 (by decide) (hts _ (tg_tail _ tw_428)) (fun _ h9 => h9) rfl dX4_makeLinks_11 ?_
      refine lv_iload_n hx hb dX4_makeLinks_14 rfl (lv_at hl 2 rfl) ?_
      refine wd_ildN hx hb hK.1 hP 0 (k := k) (mW_2) rfl (by omega) (by decide) dX4_makeLinks_15 ?_
      refine lv_istore_n (lv' := [(3, .int (pr k)), (0, .ref h), (1, .int (nI u)), (2, .int (nI k))]) hx hb dX4_makeLinks_16 rfl hl (by decide) rfl (fun ls hl => ?_)
      refine lv_aload_n hx hb dX4_makeLinks_17 rfl (lv_at hl 1 rfl) ?_
      refine wd_get (ci := 5) (v := .ref (h + 4)) (C := RX4) (T := TX4) (N := 21) hx hb hts iwX4 hown hK.1 hP (mW_0) rfl 5 (by decide) (hts _ (tg_tail _ tw_431)) (fun _ h9 => h9) rfl dX4_makeLinks_18 ?_
      refine lv_iload_n hx hb dX4_makeLinks_21 rfl (lv_at hl 2 rfl) ?_
      refine wd_ildN hx hb hK.1 hP 0 (k := u) (mW_4) rfl (by omega) (by decide) dX4_makeLinks_22 ?_
      refine lv_if_ne (tgt := 44) hx hb dX4_makeLinks_23 (by decide) (fun c_23 => ?_) (fun c_23 => ?_)
      · refine lv_iload_n hx hb dX4_makeLinks_44 rfl (lv_at hl 0 rfl) ?_
        refine lv_aload_n hx hb dX4_makeLinks_45 rfl (lv_at hl 1 rfl) ?_
        refine wd_get (ci := 5) (v := .ref (h + 5)) (C := RX4) (T := TX4) (N := 21) hx hb hts iwX4 hown hK.1 hP (mW_0) rfl 6 (by decide) (hts _ (tg_tail _ tw_432)) (fun _ h9 => h9) rfl dX4_makeLinks_46 ?_
        refine lv_iload_n hx hb dX4_makeLinks_49 rfl (lv_at hl 2 rfl) ?_
        refine wd_ildN hx hb hK.1 hP 0 (k := u) (mW_5) rfl (by omega) (by decide) dX4_makeLinks_50 ?_
        refine lv_icmp_eq (tgt := 68) hx hb dX4_makeLinks_51 (by decide) (fun c_51 => ?_) (fun c_51 => ?_)
        · refine lv_iconst (v := nI 0) hx hb dX4_makeLinks_68 (by decide) ?_
          refine lv_istore (lv' := [(4, .int (nI 0)), (3, .int (pr k)), (0, .ref h), (1, .int (nI u)), (2, .int (nI k))]) hx hb dX4_makeLinks_69 hl (by decide) rfl (fun ls hl => ?_)
          refine lv_iload hx hb dX4_makeLinks_71 (lv_at hl 0 rfl) ?_
          refine lv_if_eq (tgt := 113) hx hb dX4_makeLinks_73 (by decide) (fun c_73 => ?_) (fun c_73 => ?_)
          · have c_73 := (nI_eq (a := 0) (b := 0) (by omega) (by omega)).mp (show nI 0 = nI 0 from c_73)
            refine lv_iinc (v := nI (k + 1)) (lv' := [(2, .int (nI (k + 1))), (4, .int (nI 0)), (3, .int (pr k)), (0, .ref h), (1, .int (nI u))]) hx hb dX4_makeLinks_113 hl (k := 4) rfl (nI_1 _) (by decide) rfl (fun ls hl => ?_)
            refine lv_goto (tgt := 2) hx hb dX4_makeLinks_116 (by decide) ?_
            have e8 : (mW g w h rf (nI T) np mo gb wr nr su pr ob ki fi se (tN (ml ki fi se pr S O u M k)) nd ii sp qu rF rT rD) = (mW g w h rf (nI T) np mo gb wr nr su pr ob ki fi se (tN (ml ki fi se pr S O u M (k + 1))) nd ii sp qu rF rT rD) := by rw [ml, if_neg (by clear hts hP hK hx hb hown hS hRm hcs hl ih; grind)]
            rw [e8] at hP
            have hl : lv_has ls 5 [(0, .ref h), (1, .int (nI u)), (2, .int (nI (k + 1)))] := lv_sub hl [3, 4, 0] rfl
            exact ih (k + 1) (by omega) (by omega) _ _ ls hP hS hl
          · have c_73 := mt (nI_eq (a := 0) (b := 0) (by omega) (by omega)).mpr (show ¬ (nI 0 = nI 0) from c_73)
            exact absurd c_73 (by decide)
        · refine lv_iload_n hx hb dX4_makeLinks_54 rfl (lv_at hl 0 rfl) ?_
          refine lv_aload_n hx hb dX4_makeLinks_55 rfl (lv_at hl 1 rfl) ?_
          refine wd_get (ci := 5) (v := .ref (h + 6)) (C := RX4) (T := TX4) (N := 21) hx hb hts iwX4 hown hK.1 hP (mW_0) rfl 7 (by decide) (hts _ (tg_tail _ tw_433)) (fun _ h9 => h9) rfl dX4_makeLinks_56 ?_
          refine lv_iload_n hx hb dX4_makeLinks_59 rfl (lv_at hl 2 rfl) ?_
          refine wd_ildN hx hb hK.1 hP 0 (k := u) (mW_6) rfl (by omega) (by decide) dX4_makeLinks_60 ?_
          refine lv_icmp_eq (tgt := 68) hx hb dX4_makeLinks_61 (by decide) (fun c_61 => ?_) (fun c_61 => ?_)
          · refine lv_iconst (v := nI 0) hx hb dX4_makeLinks_68 (by decide) ?_
            refine lv_istore (lv' := [(4, .int (nI 0)), (3, .int (pr k)), (0, .ref h), (1, .int (nI u)), (2, .int (nI k))]) hx hb dX4_makeLinks_69 hl (by decide) rfl (fun ls hl => ?_)
            refine lv_iload hx hb dX4_makeLinks_71 (lv_at hl 0 rfl) ?_
            refine lv_if_eq (tgt := 113) hx hb dX4_makeLinks_73 (by decide) (fun c_73 => ?_) (fun c_73 => ?_)
            · have c_73 := (nI_eq (a := 0) (b := 0) (by omega) (by omega)).mp (show nI 0 = nI 0 from c_73)
              refine lv_iinc (v := nI (k + 1)) (lv' := [(2, .int (nI (k + 1))), (4, .int (nI 0)), (3, .int (pr k)), (0, .ref h), (1, .int (nI u))]) hx hb dX4_makeLinks_113 hl (k := 4) rfl (nI_1 _) (by decide) rfl (fun ls hl => ?_)
              refine lv_goto (tgt := 2) hx hb dX4_makeLinks_116 (by decide) ?_
              have e8 : (mW g w h rf (nI T) np mo gb wr nr su pr ob ki fi se (tN (ml ki fi se pr S O u M k)) nd ii sp qu rF rT rD) = (mW g w h rf (nI T) np mo gb wr nr su pr ob ki fi se (tN (ml ki fi se pr S O u M (k + 1))) nd ii sp qu rF rT rD) := by rw [ml, if_neg (by clear hts hP hK hx hb hown hS hRm hcs hl ih; grind)]
              rw [e8] at hP
              have hl : lv_has ls 5 [(0, .ref h), (1, .int (nI u)), (2, .int (nI (k + 1)))] := lv_sub hl [3, 4, 0] rfl
              exact ih (k + 1) (by omega) (by omega) _ _ ls hP hS hl
            · have c_73 := mt (nI_eq (a := 0) (b := 0) (by omega) (by omega)).mpr (show ¬ (nI 0 = nI 0) from c_73)
              exact absurd c_73 (by decide)
          · refine lv_iconst (v := nI 1) hx hb dX4_makeLinks_64 (by decide) ?_
            refine lv_goto (tgt := 69) hx hb dX4_makeLinks_65 (by decide) ?_
            refine lv_istore (lv' := [(4, .int (nI 1)), (3, .int (pr k)), (0, .ref h), (1, .int (nI u)), (2, .int (nI k))]) hx hb dX4_makeLinks_69 hl (by decide) rfl (fun ls hl => ?_)
            refine lv_iload hx hb dX4_makeLinks_71 (lv_at hl 0 rfl) ?_
            refine lv_if_eq (tgt := 113) hx hb dX4_makeLinks_73 (by decide) (fun c_73 => ?_) (fun c_73 => ?_)
            · have c_73 := (nI_eq (a := 1) (b := 0) (by omega) (by omega)).mp (show nI 1 = nI 0 from c_73)
              exact absurd c_73 (by decide)
            · have c_73 := mt (nI_eq (a := 1) (b := 0) (by omega) (by omega)).mpr (show ¬ (nI 1 = nI 0) from c_73)
              refine lv_aload_n hx hb dX4_makeLinks_76 rfl (lv_at hl 2 rfl) ?_
              refine lv_iload_n hx hb dX4_makeLinks_77 rfl (lv_at hl 3 rfl) ?_
              refine lv_aload_n hx hb dX4_makeLinks_78 rfl (lv_at hl 2 rfl) ?_
              refine wd_get (ci := 5) (v := .ref (h + 1)) (C := RX4) (T := TX4) (N := 21) hx hb hts iwX4 hown hK.1 hP (mW_0) rfl 1 (by decide) (hts _ (tg_tail _ tw_427)) (fun _ h9 => h9) rfl dX4_makeLinks_79 ?_
              refine lv_iload_n hx hb dX4_makeLinks_82 rfl (lv_at hl 4 rfl) ?_
              refine wd_ildN hx hb hK.1 hP 0 (k := k) (mW_1) rfl (by omega) (by decide) dX4_makeLinks_83 ?_
              refine wd_ti (x' := nI (S k)) ((hS9 k (by omega)).1) ?_
              refine lv_aload_n hx hb dX4_makeLinks_84 rfl (lv_at hl 2 rfl) ?_
              refine wd_get (ci := 5) (v := .ref (h + 3)) (C := RX4) (T := TX4) (N := 21) hx hb hts iwX4 hown hK.1 hP (mW_0) rfl 3 (by decide) (hts _ (tg_tail _ tw_429)) (fun _ h9 => h9) rfl dX4_makeLinks_85 ?_
              refine lv_iload_n hx hb dX4_makeLinks_88 rfl (lv_at hl 4 rfl) ?_
              refine wd_ildN hx hb hK.1 hP 0 (k := k) (mW_3) rfl (by omega) (by decide) dX4_makeLinks_89 ?_
              refine wd_ti (x' := nI (O k)) ((hO9 k (by omega)).1) ?_
              refine lv_aload_n hx hb dX4_makeLinks_90 rfl (lv_at hl 2 rfl) ?_
              refine lv_iload_n hx hb dX4_makeLinks_91 rfl (lv_at hl 3 rfl) ?_
              refine lv_aload_n hx hb dX4_makeLinks_92 rfl (lv_at hl 2 rfl) ?_
              refine wd_get (ci := 5) (v := .ref (h + 1)) (C := RX4) (T := TX4) (N := 21) hx hb hts iwX4 hown hK.1 hP (mW_0) rfl 1 (by decide) (hts _ (tg_tail _ tw_427)) (fun _ h9 => h9) rfl dX4_makeLinks_93 ?_
              refine lv_iload_n hx hb dX4_makeLinks_96 rfl (lv_at hl 4 rfl) ?_
              refine wd_ildN hx hb hK.1 hP 0 (k := k) (mW_1) rfl (by omega) (by decide) dX4_makeLinks_97 ?_
              refine wd_ti (x' := nI (S k)) ((hS9 k (by omega)).1) ?_
              refine lv_aload_n hx hb dX4_makeLinks_98 rfl (lv_at hl 2 rfl) ?_
              refine wd_get (ci := 5) (v := .ref (h + 3)) (C := RX4) (T := TX4) (N := 21) hx hb hts iwX4 hown hK.1 hP (mW_0) rfl 3 (by decide) (hts _ (tg_tail _ tw_429)) (fun _ h9 => h9) rfl dX4_makeLinks_99 ?_
              refine lv_iload_n hx hb dX4_makeLinks_102 rfl (lv_at hl 4 rfl) ?_
              refine wd_ildN hx hb hK.1 hP 0 (k := k) (mW_3) rfl (by omega) (by decide) dX4_makeLinks_103 ?_
              refine wd_ti (x' := nI (O k)) ((hO9 k (by omega)).1) ?_
              have hs9 := (hS9 k (by omega)).2
              have ho9 := (hO9 k (by omega)).2
              refine cr_Vi (As := [.int (nI u), .int (nI (S k)), .int (nI (O k))]) (rest := [.int (nI (O k)), .int (nI (S k)), .int (nI u), .ref h]) ⟨hx, hb, hml, hown, hts⟩ (c_X4_cell l g s0  w h hs0 rf (nI T) np mo gb wr nr su pr ob ki fi se (tN (ml ki fi se pr S O u M k)) nd ii sp qu rF rT rD (u) (S k) (O k) (by omega) (by omega) (by omega)) (cw_V 3 hts tg_tail tw_560 tw_562 tp_28 tw_4 tw_563 rfl rfl (by decide +kernel) ⟨Nat.le_trans (by decide) hRm.1, Nat.le_trans (by decide) hRm.2⟩) hK hP h0s hS (mW_0) rfl rfl rfl hl.1 rfl (Nat.le_of_ble_eq_true rfl) dX4_makeLinks_104 hcs (fun r9 w9 H locs hw hP hS => ?_)
              obtain ⟨e_r9, hw9⟩ := hw
              rw [hw9] at hP
              subst e_r9
              refine wd_ti (x' := nI ((ml ki fi se pr S O u M k) (1024 * u + 32 * S k + O k))) (rfl) ?_
              refine lv_i2l (v := lN (ml ki fi se pr S O u M k (1024 * u + 32 * S k + O k))) hx hb dX4_makeLinks_107 (nI_l (by have := ml_le (ki := ki) (fi := fi) (se := se) (pr := pr) (S := S) (O := O) (u := u) hM9 k (1024 * u + 32 * S k + O k); omega)) ?_
              refine lv_lconst (v := lN 1) hx hb dX4_makeLinks_108 (by decide) ?_
              refine lv_ladd hx hb dX4_makeLinks_109 ?_
              refine wd_tl (x' := lN ((ml ki fi se pr S O u M k (1024 * u + 32 * S k + O k)) + 1)) (lN_add _ _) ?_
              refine cr_Vv (As := [.int (nI u), .int (nI (S k)), .int (nI (O k)), .long (lN ((ml ki fi se pr S O u M k (1024 * u + 32 * S k + O k)) + 1))]) (rest := []) ⟨hx, hb, hml, hown, hts⟩ (c_X4_put l g s0  w h hs0 rf (nI T) np mo gb wr nr su pr ob ki fi se (tN (ml ki fi se pr S O u M k)) nd ii sp qu rF rT rD (u) (S k) (O k) ((ml ki fi se pr S O u M k (1024 * u + 32 * S k + O k)) + 1) (by omega) (by omega) (by omega) (by have := ml_le (ki := ki) (fi := fi) (se := se) (pr := pr) (S := S) (O := O) (u := u) hM9 k (1024 * u + 32 * S k + O k); omega)) (cw_V 4 hts tg_tail tw_564 tw_566 tp_29 tw_4 tw_567 rfl rfl (by decide +kernel) ⟨Nat.le_trans (by decide) hRm.1, Nat.le_trans (by decide) hRm.2⟩) hK hP h0s hS (mW_0) rfl rfl rfl hl.1 rfl (Nat.le_of_ble_eq_true rfl) dX4_makeLinks_110 hcs (fun w9 H locs hw hP hS => ?_)
              rw [hw, tN_up] at hP
              refine lv_iinc (v := nI (k + 1)) (lv' := [(2, .int (nI (k + 1))), (4, .int (nI 1)), (3, .int (pr k)), (0, .ref h), (1, .int (nI u))]) hx hb dX4_makeLinks_113 hl (k := 4) rfl (nI_1 _) (by decide) rfl (fun ls hl => ?_)
              refine lv_goto (tgt := 2) hx hb dX4_makeLinks_116 (by decide) ?_
              have e8 : (mW g w h rf (nI T) np mo gb wr nr su pr ob ki fi se (tN (va_up (ml ki fi se pr S O u M k) (1024 * u + 32 * S k + O k) (min ((ml ki fi se pr S O u M k (1024 * u + 32 * S k + O k)) + 1) 1000000))) nd ii sp qu rF rT rD) = (mW g w h rf (nI T) np mo gb wr nr su pr ob ki fi se (tN (ml ki fi se pr S O u M (k + 1))) nd ii sp qu rF rT rD) := by rw [ml, if_pos (by clear hts hP hK hx hb hown hS hRm hcs hl ih; grind)]
              rw [e8] at hP
              have hl : lv_has ls 5 [(0, .ref h), (1, .int (nI u)), (2, .int (nI (k + 1)))] := lv_sub hl [3, 4, 0] rfl
              exact ih (k + 1) (by omega) (by omega) _ _ ls hP hS hl
      · refine lv_iload_n hx hb dX4_makeLinks_26 rfl (lv_at hl 0 rfl) ?_
        refine lv_aload_n hx hb dX4_makeLinks_27 rfl (lv_at hl 1 rfl) ?_
        refine wd_get (ci := 5) (v := .ref (h + 5)) (C := RX4) (T := TX4) (N := 21) hx hb hts iwX4 hown hK.1 hP (mW_0) rfl 6 (by decide) (hts _ (tg_tail _ tw_432)) (fun _ h9 => h9) rfl dX4_makeLinks_28 ?_
        refine lv_iload_n hx hb dX4_makeLinks_31 rfl (lv_at hl 2 rfl) ?_
        refine wd_ildN hx hb hK.1 hP 0 (k := u) (mW_5) rfl (by omega) (by decide) dX4_makeLinks_32 ?_
        refine lv_icmp_ne (tgt := 40) hx hb dX4_makeLinks_33 (by decide) (fun c_33 => ?_) (fun c_33 => ?_)
        · refine lv_iconst (v := nI 0) hx hb dX4_makeLinks_40 (by decide) ?_
          refine lv_goto (tgt := 69) hx hb dX4_makeLinks_41 (by decide) ?_
          refine lv_istore (lv' := [(4, .int (nI 0)), (3, .int (pr k)), (0, .ref h), (1, .int (nI u)), (2, .int (nI k))]) hx hb dX4_makeLinks_69 hl (by decide) rfl (fun ls hl => ?_)
          refine lv_iload hx hb dX4_makeLinks_71 (lv_at hl 0 rfl) ?_
          refine lv_if_eq (tgt := 113) hx hb dX4_makeLinks_73 (by decide) (fun c_73 => ?_) (fun c_73 => ?_)
          · have c_73 := (nI_eq (a := 0) (b := 0) (by omega) (by omega)).mp (show nI 0 = nI 0 from c_73)
            refine lv_iinc (v := nI (k + 1)) (lv' := [(2, .int (nI (k + 1))), (4, .int (nI 0)), (3, .int (pr k)), (0, .ref h), (1, .int (nI u))]) hx hb dX4_makeLinks_113 hl (k := 4) rfl (nI_1 _) (by decide) rfl (fun ls hl => ?_)
            refine lv_goto (tgt := 2) hx hb dX4_makeLinks_116 (by decide) ?_
            have e8 : (mW g w h rf (nI T) np mo gb wr nr su pr ob ki fi se (tN (ml ki fi se pr S O u M k)) nd ii sp qu rF rT rD) = (mW g w h rf (nI T) np mo gb wr nr su pr ob ki fi se (tN (ml ki fi se pr S O u M (k + 1))) nd ii sp qu rF rT rD) := by rw [ml, if_neg (by clear hts hP hK hx hb hown hS hRm hcs hl ih; grind)]
            rw [e8] at hP
            have hl : lv_has ls 5 [(0, .ref h), (1, .int (nI u)), (2, .int (nI (k + 1)))] := lv_sub hl [3, 4, 0] rfl
            exact ih (k + 1) (by omega) (by omega) _ _ ls hP hS hl
          · have c_73 := mt (nI_eq (a := 0) (b := 0) (by omega) (by omega)).mpr (show ¬ (nI 0 = nI 0) from c_73)
            exact absurd c_73 (by decide)
        · refine lv_iconst (v := nI 1) hx hb dX4_makeLinks_36 (by decide) ?_
          refine lv_goto (tgt := 69) hx hb dX4_makeLinks_37 (by decide) ?_
          refine lv_istore (lv' := [(4, .int (nI 1)), (3, .int (pr k)), (0, .ref h), (1, .int (nI u)), (2, .int (nI k))]) hx hb dX4_makeLinks_69 hl (by decide) rfl (fun ls hl => ?_)
          refine lv_iload hx hb dX4_makeLinks_71 (lv_at hl 0 rfl) ?_
          refine lv_if_eq (tgt := 113) hx hb dX4_makeLinks_73 (by decide) (fun c_73 => ?_) (fun c_73 => ?_)
          · have c_73 := (nI_eq (a := 1) (b := 0) (by omega) (by omega)).mp (show nI 1 = nI 0 from c_73)
            exact absurd c_73 (by decide)
          · have c_73 := mt (nI_eq (a := 1) (b := 0) (by omega) (by omega)).mpr (show ¬ (nI 1 = nI 0) from c_73)
            refine lv_aload_n hx hb dX4_makeLinks_76 rfl (lv_at hl 2 rfl) ?_
            refine lv_iload_n hx hb dX4_makeLinks_77 rfl (lv_at hl 3 rfl) ?_
            refine lv_aload_n hx hb dX4_makeLinks_78 rfl (lv_at hl 2 rfl) ?_
            refine wd_get (ci := 5) (v := .ref (h + 1)) (C := RX4) (T := TX4) (N := 21) hx hb hts iwX4 hown hK.1 hP (mW_0) rfl 1 (by decide) (hts _ (tg_tail _ tw_427)) (fun _ h9 => h9) rfl dX4_makeLinks_79 ?_
            refine lv_iload_n hx hb dX4_makeLinks_82 rfl (lv_at hl 4 rfl) ?_
            refine wd_ildN hx hb hK.1 hP 0 (k := k) (mW_1) rfl (by omega) (by decide) dX4_makeLinks_83 ?_
            refine wd_ti (x' := nI (S k)) ((hS9 k (by omega)).1) ?_
            refine lv_aload_n hx hb dX4_makeLinks_84 rfl (lv_at hl 2 rfl) ?_
            refine wd_get (ci := 5) (v := .ref (h + 3)) (C := RX4) (T := TX4) (N := 21) hx hb hts iwX4 hown hK.1 hP (mW_0) rfl 3 (by decide) (hts _ (tg_tail _ tw_429)) (fun _ h9 => h9) rfl dX4_makeLinks_85 ?_
            refine lv_iload_n hx hb dX4_makeLinks_88 rfl (lv_at hl 4 rfl) ?_
            refine wd_ildN hx hb hK.1 hP 0 (k := k) (mW_3) rfl (by omega) (by decide) dX4_makeLinks_89 ?_
            refine wd_ti (x' := nI (O k)) ((hO9 k (by omega)).1) ?_
            refine lv_aload_n hx hb dX4_makeLinks_90 rfl (lv_at hl 2 rfl) ?_
            refine lv_iload_n hx hb dX4_makeLinks_91 rfl (lv_at hl 3 rfl) ?_
            refine lv_aload_n hx hb dX4_makeLinks_92 rfl (lv_at hl 2 rfl) ?_
            refine wd_get (ci := 5) (v := .ref (h + 1)) (C := RX4) (T := TX4) (N := 21) hx hb hts iwX4 hown hK.1 hP (mW_0) rfl 1 (by decide) (hts _ (tg_tail _ tw_427)) (fun _ h9 => h9) rfl dX4_makeLinks_93 ?_
            refine lv_iload_n hx hb dX4_makeLinks_96 rfl (lv_at hl 4 rfl) ?_
            refine wd_ildN hx hb hK.1 hP 0 (k := k) (mW_1) rfl (by omega) (by decide) dX4_makeLinks_97 ?_
            refine wd_ti (x' := nI (S k)) ((hS9 k (by omega)).1) ?_
            refine lv_aload_n hx hb dX4_makeLinks_98 rfl (lv_at hl 2 rfl) ?_
            refine wd_get (ci := 5) (v := .ref (h + 3)) (C := RX4) (T := TX4) (N := 21) hx hb hts iwX4 hown hK.1 hP (mW_0) rfl 3 (by decide) (hts _ (tg_tail _ tw_429)) (fun _ h9 => h9) rfl dX4_makeLinks_99 ?_
            refine lv_iload_n hx hb dX4_makeLinks_102 rfl (lv_at hl 4 rfl) ?_
            refine wd_ildN hx hb hK.1 hP 0 (k := k) (mW_3) rfl (by omega) (by decide) dX4_makeLinks_103 ?_
            refine wd_ti (x' := nI (O k)) ((hO9 k (by omega)).1) ?_
            have hs9 := (hS9 k (by omega)).2
            have ho9 := (hO9 k (by omega)).2
            refine cr_Vi (As := [.int (nI u), .int (nI (S k)), .int (nI (O k))]) (rest := [.int (nI (O k)), .int (nI (S k)), .int (nI u), .ref h]) ⟨hx, hb, hml, hown, hts⟩ (c_X4_cell l g s0  w h hs0 rf (nI T) np mo gb wr nr su pr ob ki fi se (tN (ml ki fi se pr S O u M k)) nd ii sp qu rF rT rD (u) (S k) (O k) (by omega) (by omega) (by omega)) (cw_V 3 hts tg_tail tw_560 tw_562 tp_28 tw_4 tw_563 rfl rfl (by decide +kernel) ⟨Nat.le_trans (by decide) hRm.1, Nat.le_trans (by decide) hRm.2⟩) hK hP h0s hS (mW_0) rfl rfl rfl hl.1 rfl (Nat.le_of_ble_eq_true rfl) dX4_makeLinks_104 hcs (fun r9 w9 H locs hw hP hS => ?_)
            obtain ⟨e_r9, hw9⟩ := hw
            rw [hw9] at hP
            subst e_r9
            refine wd_ti (x' := nI ((ml ki fi se pr S O u M k) (1024 * u + 32 * S k + O k))) (rfl) ?_
            refine lv_i2l (v := lN (ml ki fi se pr S O u M k (1024 * u + 32 * S k + O k))) hx hb dX4_makeLinks_107 (nI_l (by have := ml_le (ki := ki) (fi := fi) (se := se) (pr := pr) (S := S) (O := O) (u := u) hM9 k (1024 * u + 32 * S k + O k); omega)) ?_
            refine lv_lconst (v := lN 1) hx hb dX4_makeLinks_108 (by decide) ?_
            refine lv_ladd hx hb dX4_makeLinks_109 ?_
            refine wd_tl (x' := lN ((ml ki fi se pr S O u M k (1024 * u + 32 * S k + O k)) + 1)) (lN_add _ _) ?_
            refine cr_Vv (As := [.int (nI u), .int (nI (S k)), .int (nI (O k)), .long (lN ((ml ki fi se pr S O u M k (1024 * u + 32 * S k + O k)) + 1))]) (rest := []) ⟨hx, hb, hml, hown, hts⟩ (c_X4_put l g s0  w h hs0 rf (nI T) np mo gb wr nr su pr ob ki fi se (tN (ml ki fi se pr S O u M k)) nd ii sp qu rF rT rD (u) (S k) (O k) ((ml ki fi se pr S O u M k (1024 * u + 32 * S k + O k)) + 1) (by omega) (by omega) (by omega) (by have := ml_le (ki := ki) (fi := fi) (se := se) (pr := pr) (S := S) (O := O) (u := u) hM9 k (1024 * u + 32 * S k + O k); omega)) (cw_V 4 hts tg_tail tw_564 tw_566 tp_29 tw_4 tw_567 rfl rfl (by decide +kernel) ⟨Nat.le_trans (by decide) hRm.1, Nat.le_trans (by decide) hRm.2⟩) hK hP h0s hS (mW_0) rfl rfl rfl hl.1 rfl (Nat.le_of_ble_eq_true rfl) dX4_makeLinks_110 hcs (fun w9 H locs hw hP hS => ?_)
            rw [hw, tN_up] at hP
            refine lv_iinc (v := nI (k + 1)) (lv' := [(2, .int (nI (k + 1))), (4, .int (nI 1)), (3, .int (pr k)), (0, .ref h), (1, .int (nI u))]) hx hb dX4_makeLinks_113 hl (k := 4) rfl (nI_1 _) (by decide) rfl (fun ls hl => ?_)
            refine lv_goto (tgt := 2) hx hb dX4_makeLinks_116 (by decide) ?_
            have e8 : (mW g w h rf (nI T) np mo gb wr nr su pr ob ki fi se (tN (va_up (ml ki fi se pr S O u M k) (1024 * u + 32 * S k + O k) (min ((ml ki fi se pr S O u M k (1024 * u + 32 * S k + O k)) + 1) 1000000))) nd ii sp qu rF rT rD) = (mW g w h rf (nI T) np mo gb wr nr su pr ob ki fi se (tN (ml ki fi se pr S O u M (k + 1))) nd ii sp qu rF rT rD) := by rw [ml, if_pos (by clear hts hP hK hx hb hown hS hRm hcs hl ih; grind)]
            rw [e8] at hP
            have hl : lv_has ls 5 [(0, .ref h), (1, .int (nI u)), (2, .int (nI (k + 1)))] := lv_sub hl [3, 4, 0] rfl
            exact ih (k + 1) (by omega) (by omega) _ _ ls hP hS hl

set_option maxHeartbeats 4000000 in
set_option maxRecDepth 100000 in
theorem c_X4_makeLinks (l : Launch) (g : gX) (s0 : Nat) (w : wd_M) (h : Nat) (hs0 : s0 ≤ h) (rf np mo gb wr nr : Int32) (su pr ob ki fi se nd ii sp qu rF rT rD : Nat → Int32) (T : Nat) (hT : T ≤ 150) (S O : Nat → Nat) (hS9 : ∀ k, k < T → su k = nI (S k) ∧ S k < 32) (hO9 : ∀ k, k < T → ob k = nI (O k) ∧ O k < 32) (M : Nat → Nat) (hM9 : mB M) (u : Nat) (hu : u ≤ 40) : Met l yX4_makeLinks (Cond.code yX4_makeLinks cX4_makeLinks 5 (none) :: tg) ({ frames := 1, cells := 0, slots := 0, locals := 25 }) (cP g s0 (mW g w h rf (nI T) np mo gb wr nr su pr ob ki fi se (tN M) nd ii sp qu rF rT rD) [.ref h, .int (nI u)]) (cV g s0 (fun w' => w' = (mW g w h rf (nI T) np mo gb wr nr su pr ob ki fi se (tN (ml ki fi se pr S O u M T)) nd ii sp qu rF rT rD))) 0 0 (cA s0) := by
  refine Met.ofW (cc := cX4_makeLinks) (maxL := 5) (ret := none) (by decide) rfl ?_
  intro p e s m args below meth c s₁ B9 hml hv
  obtain ⟨rfl, h0s, hP, hK⟩ := hv
  have hx := B9.exec
  have hb := B9.bytes
  have hr := B9.returns
  have hts := atoms_spec (ws := Cond.code yX4_makeLinks cX4_makeLinks 5 (none) :: tg) B9.pre
  have hown : s.vm.findClass RX4 = some m.cls := findClass_of_methodNamed B9.named
  have hlocks := B9.notSynchronized
  have hS : gS s0 s.heap s.heap [] := va_S.rf
  have hRm : 1 ≤ (headSpec (Cond.code yX4_makeLinks cX4_makeLinks 5 (none) :: tg) ({ frames := 1, cells := 0, slots := 0, locals := 25 })).room.frames ∧ 25 ≤ (headSpec (Cond.code yX4_makeLinks cX4_makeLinks 5 (none) :: tg) ({ frames := 1, cells := 0, slots := 0, locals := 25 })).room.locals := ⟨Nat.le_refl _, Nat.le_refl _⟩
  have hcs : 0 + 0 ≤ (headSpec (Cond.code yX4_makeLinks cX4_makeLinks 5 (none) :: tg) ({ frames := 1, cells := 0, slots := 0, locals := 25 })).room.cells ∧ 0 + 0 ≤ (headSpec (Cond.code yX4_makeLinks cX4_makeLinks 5 (none) :: tg) ({ frames := 1, cells := 0, slots := 0, locals := 25 })).room.slots := ⟨Nat.zero_le _, Nat.zero_le _⟩
  have hl := lv_entry ([.ref h, .int (nI u)]) (n := 5) (Nat.le_of_ble_eq_true rfl)
  rw [lg_entry_eq]
  generalize (lg_sl ([.ref h, .int (nI u)]) ++ List.replicate (5 - (lg_sl ([.ref h, .int (nI u)])).length) Slot.unset).toArray = ls at hl ⊢
  have hl : lv_has ls 5 [(0, .ref h), (1, .int (nI u))] := hl
  refine lv_iconst (v := nI 0) hx hb dX4_makeLinks_0 (by decide) ?_
  refine lv_istore_n (lv' := [(2, .int (nI 0)), (0, .ref h), (1, .int (nI u))]) hx hb dX4_makeLinks_1 rfl hl (by decide) rfl (fun ls hl => ?_)
  have e8 : (mW g w h rf (nI T) np mo gb wr nr su pr ob ki fi se (tN M) nd ii sp qu rF rT rD) = (mW g w h rf (nI T) np mo gb wr nr su pr ob ki fi se (tN (ml ki fi se pr S O u M 0)) nd ii sp qu rF rT rD) := by rfl
  rw [e8] at hP
  have hl : lv_has ls 5 [(0, .ref h), (1, .int (nI u)), (2, .int (nI 0))] := lv_sub hl [1, 2, 0] rfl
  refine lp_ml g s0 w h hs0 rf np mo gb wr nr su pr ob ki fi se nd ii sp qu rF rT rD T hT S O hS9 hO9 M hM9 u hu hx hb hml hown hts hK h0s hRm hcs  ?_ (T + 1) 0 (by omega) (by omega) _ _ ls hP hS hl
  intro H locs ls hP hS hl
  exact W.vret hx hb hr (fun t ht hW => ⟨⟨(mW g w h rf (nI T) np mo gb wr nr su pr ob ki fi se (tN (ml ki fi se pr S O u M T)) nd ii sp qu rF rT rD), rfl, rfl, cB_of ht hP⟩, hS.F ht⟩) hS.2.2 dX4_makeLinks_119

set_option maxHeartbeats 4000000 in
set_option maxRecDepth 100000 in
theorem lp_jn {p : Program} {l : Launch} {e : Env} {R : Room} {s : State} {m : MethodId} {args : Array Value} {below : List Frame} {meth : Method} {c : Code} {Q : State → Prop} {H0 : Heap} {cells slots : Nat} (g : gX) (s0 : Nat) (w : wd_M) (h : Nat) (hs0 : s0 ≤ h) (rf nt np mo gb wr nr : Int32) (su pr ob ki fi se nd ii sp qu rF rT rD : Nat → Int32) (M : Nat → Nat) (hM9 : mB M) (u a b x y : Nat) (hx1 : x < 32) (hy1 : y < 32) (ha9 : a ≤ 40) (hb9 : b ≤ 40) (hx : p.tables.exec = Jvm.exec) (hb : c.code = cX4_joined) (hml : c.maxLocals = 9) (hown : s.vm.findClass RX4 = some m.cls) (hts : ∀ w ∈ Cond.code yX4_joined cX4_joined 9 (some .long) :: tg, w.before args s = true) (hK : gK g s) (h0s : s0 ≤ H0.size) (hRm : 1 ≤ R.frames ∧ 23 ≤ R.locals) (hcs : cells + 0 ≤ R.cells ∧ slots + 0 ≤ R.slots)  (kx : ∀ (H : Heap) (locs : List Loc) (ls : Array Slot), gP g (mW g w h rf nt np mo gb wr nr su pr ob ki fi se (tN M) nd ii sp qu rF rT rD) H → gS s0 H0 H locs → lv_has ls 9 [(0, .ref h), (1, .int (nI u)), (2, .int (nI x)), (3, .int (nI y)), (4, .int (nI a)), (5, .int (nI b)), (6, .long (lN (jn2 M a b x y 32))), (8, .int (nI 32))] → W p l e R s m args below meth c H locs cells slots Q (F0 m 153 ls [])) :
    ∀ (n z : Nat), z ≤ 32 → 32 + 1 ≤ z + n → ∀ (H : Heap) (locs : List Loc) (ls : Array Slot), gP g (mW g w h rf nt np mo gb wr nr su pr ob ki fi se (tN M) nd ii sp qu rF rT rD) H → gS s0 H0 H locs → lv_has ls 9 [(0, .ref h), (1, .int (nI u)), (2, .int (nI x)), (3, .int (nI y)), (4, .int (nI a)), (5, .int (nI b)), (6, .long (lN (jn2 M a b x y z))), (8, .int (nI z))] → W p l e R s m args below meth c H locs cells slots Q (F0 m 114 ls []) := by
  intro n
  induction n with
  | zero =>
    intro z h1 h2
    exact absurd h2 (by omega)
  | succ n ih =>
    intro z hi hin H locs ls hP hS hl
    refine lv_iload hx hb dX4_joined_114 (lv_at hl 7 rfl) ?_
    refine lv_bipush (v := nI 32) hx hb dX4_joined_116 (by decide) ?_
    refine lv_icmp_ge (tgt := 153) hx hb dX4_joined_118 (by decide) (fun c_118 => ?_) (fun c_118 => ?_)
    · have c_118 := (nI_leI (a := 32) (b := z) (by omega) (by omega)).mp c_118
      have e9 : z = 32 := by omega
      try rw [e9] at hP
      try rw [e9] at hl
      exact kx H locs ls hP hS (lv_sub hl [0, 1, 2, 3, 4, 5, 6, 7] rfl)
    · have c_118 := mt (nI_leI (a := 32) (b := z) (by omega) (by omega)).mpr c_118
      refine lv_lload hx hb dX4_joined_121 (lv_at hl 6 rfl) ?_
      refine lv_aload_n hx hb dX4_joined_123 rfl (lv_at hl 0 rfl) ?_
      refine lv_iload hx hb dX4_joined_124 (lv_at hl 4 rfl) ?_
      refine lv_iload_n hx hb dX4_joined_126 rfl (lv_at hl 2 rfl) ?_
      refine lv_iload hx hb dX4_joined_127 (lv_at hl 7 rfl) ?_
      refine cr_Vi (As := [.int (nI a), .int (nI x), .int (nI z)]) (rest := [.long (lN (jn2 M a b x y z))]) ⟨hx, hb, hml, hown, hts⟩ (c_X4_cell l g s0  w h hs0 rf nt np mo gb wr nr su pr ob ki fi se (tN M) nd ii sp qu rF rT rD (a) (x) (z) (by omega) (by omega) (by omega)) (cw_V 3 hts tg_tail tw_560 tw_562 tp_28 tw_4 tw_563 rfl rfl (by decide +kernel) ⟨Nat.le_trans (by decide) hRm.1, Nat.le_trans (by decide) hRm.2⟩) hK hP h0s hS (mW_0) rfl rfl rfl hl.1 rfl (Nat.le_of_ble_eq_true rfl) dX4_joined_129 hcs (fun r9 w9 H locs hw hP hS => ?_)
      obtain ⟨e_r9, hw9⟩ := hw
      rw [hw9] at hP
      subst e_r9
      refine wd_ti (x' := nI (M (1024 * a + 32 * x + z))) (rfl) ?_
      refine lv_i2l (v := lN (M (1024 * a + 32 * x + z))) hx hb dX4_joined_132 (nI_l (by have := hM9 (1024 * a + 32 * x + z); omega)) ?_
      refine lv_aload_n hx hb dX4_joined_133 rfl (lv_at hl 0 rfl) ?_
      refine lv_iload hx hb dX4_joined_134 (lv_at hl 5 rfl) ?_
      refine lv_iload hx hb dX4_joined_136 (lv_at hl 7 rfl) ?_
      refine lv_iload_n hx hb dX4_joined_138 rfl (lv_at hl 3 rfl) ?_
      refine cr_Vi (As := [.int (nI b), .int (nI z), .int (nI y)]) (rest := [.long (lN (M (1024 * a + 32 * x + z))), .long (lN (jn2 M a b x y z))]) ⟨hx, hb, hml, hown, hts⟩ (c_X4_cell l g s0  w h hs0 rf nt np mo gb wr nr su pr ob ki fi se (tN M) nd ii sp qu rF rT rD (b) (z) (y) (by omega) (by omega) (by omega)) (cw_V 3 hts tg_tail tw_560 tw_562 tp_28 tw_4 tw_563 rfl rfl (by decide +kernel) ⟨Nat.le_trans (by decide) hRm.1, Nat.le_trans (by decide) hRm.2⟩) hK hP h0s hS (mW_0) rfl rfl rfl hl.1 rfl (Nat.le_of_ble_eq_true rfl) dX4_joined_139 hcs (fun r9 w9 H locs hw hP hS => ?_)
      obtain ⟨e_r9, hw9⟩ := hw
      rw [hw9] at hP
      subst e_r9
      refine wd_ti (x' := nI (M (1024 * b + 32 * z + y))) (rfl) ?_
      refine lv_i2l (v := lN (M (1024 * b + 32 * z + y))) hx hb dX4_joined_142 (nI_l (by have := hM9 (1024 * b + 32 * z + y); omega)) ?_
      refine lv_lmul hx hb dX4_joined_143 ?_
      refine wd_tl (x' := lN (M (1024 * a + 32 * x + z) * M (1024 * b + 32 * z + y))) (lN_mul _ _) ?_
      refine lv_ladd hx hb dX4_joined_144 ?_
      refine wd_tl (x' := lN (jn2 M a b x y z + M (1024 * a + 32 * x + z) * M (1024 * b + 32 * z + y))) (lN_add _ _) ?_
      refine lv_lstore (lv' := [(6, .long (lN (jn2 M a b x y z + M (1024 * a + 32 * x + z) * M (1024 * b + 32 * z + y)))), (0, .ref h), (1, .int (nI u)), (2, .int (nI x)), (3, .int (nI y)), (4, .int (nI a)), (5, .int (nI b)), (8, .int (nI z))]) hx hb dX4_joined_145 hl (by decide) rfl (fun ls hl => ?_)
      refine lv_iinc (v := nI (z + 1)) (lv' := [(8, .int (nI (z + 1))), (6, .long (lN (jn2 M a b x y z + M (1024 * a + 32 * x + z) * M (1024 * b + 32 * z + y)))), (0, .ref h), (1, .int (nI u)), (2, .int (nI x)), (3, .int (nI y)), (4, .int (nI a)), (5, .int (nI b))]) hx hb dX4_joined_147 hl (k := 7) rfl (nI_1 _) (by decide) rfl (fun ls hl => ?_)
      refine lv_goto (tgt := 114) hx hb dX4_joined_150 (by decide) ?_
      have hl : lv_has ls 9 [(0, .ref h), (1, .int (nI u)), (2, .int (nI x)), (3, .int (nI y)), (4, .int (nI a)), (5, .int (nI b)), (6, .long (lN (jn2 M a b x y z + M (1024 * a + 32 * x + z) * M (1024 * b + 32 * z + y)))), (8, .int (nI (z + 1)))] := lv_sub hl [2, 3, 4, 5, 6, 7, 1, 0] rfl
      have e8 : ([(0, .ref h), (1, .int (nI u)), (2, .int (nI x)), (3, .int (nI y)), (4, .int (nI a)), (5, .int (nI b)), (6, .long (lN (jn2 M a b x y z + M (1024 * a + 32 * x + z) * M (1024 * b + 32 * z + y)))), (8, .int (nI (z + 1)))] : List (Nat × Value)) = [(0, .ref h), (1, .int (nI u)), (2, .int (nI x)), (3, .int (nI y)), (4, .int (nI a)), (5, .int (nI b)), (6, .long (lN (jn2 M a b x y (z + 1)))), (8, .int (nI (z + 1)))] := by rfl
      rw [e8] at hl
      exact ih (z + 1) (by omega) (by omega) _ _ ls hP hS hl

set_option maxHeartbeats 4000000 in
set_option maxRecDepth 100000 in
theorem c_X4_joined (l : Launch) (g : gX) (s0 : Nat) (w : wd_M) (h : Nat) (hs0 : s0 ≤ h) (rf nt np mo gb wr nr : Int32) (su pr ob ki fi se nd ii sp qu rF rT rD : Nat → Int32) (M : Nat → Nat) (hM9 : mB M) (u a b x y kd : Nat) (hu : u ≤ 40) (hx1 : x < 32) (hy1 : y < 32) (hkd : ki u = nI kd) (hk : kd = 1 ∨ kd = 2 ∨ kd = 3 ∨ kd = 6) (hfa : fi u = nI a ∧ a ≤ 40) (hfb : kd = 2 ∨ kd = 3 → se u = nI b ∧ b ≤ 40)  : Met l yX4_joined (Cond.code yX4_joined cX4_joined 9 (some .long) :: tg) ({ frames := 1, cells := 0, slots := 0, locals := 23 }) (cP g s0 (mW g w h rf nt np mo gb wr nr su pr ob ki fi se (tN M) nd ii sp qu rF rT rD) [.ref h, .int (nI u), .int (nI x), .int (nI y)]) (cL g s0 (fun r w' => r = lN (jn kd M ii a b x y) ∧ w' = (mW g w h rf nt np mo gb wr nr su pr ob ki fi se (tN M) nd ii sp qu rF rT rD))) 0 0 (cA s0) := by
  refine Met.ofW (cc := cX4_joined) (maxL := 9) (ret := some .long) (by decide) rfl ?_
  intro p e s m args below meth c s₁ B9 hml hv
  obtain ⟨rfl, h0s, hP, hK⟩ := hv
  have hx := B9.exec
  have hb := B9.bytes
  have hr := B9.returns
  have hts := atoms_spec (ws := Cond.code yX4_joined cX4_joined 9 (some .long) :: tg) B9.pre
  have hown : s.vm.findClass RX4 = some m.cls := findClass_of_methodNamed B9.named
  have hlocks := B9.notSynchronized
  have hS : gS s0 s.heap s.heap [] := va_S.rf
  have hRm : 1 ≤ (headSpec (Cond.code yX4_joined cX4_joined 9 (some .long) :: tg) ({ frames := 1, cells := 0, slots := 0, locals := 23 })).room.frames ∧ 23 ≤ (headSpec (Cond.code yX4_joined cX4_joined 9 (some .long) :: tg) ({ frames := 1, cells := 0, slots := 0, locals := 23 })).room.locals := ⟨Nat.le_refl _, Nat.le_refl _⟩
  have hcs : 0 + 0 ≤ (headSpec (Cond.code yX4_joined cX4_joined 9 (some .long) :: tg) ({ frames := 1, cells := 0, slots := 0, locals := 23 })).room.cells ∧ 0 + 0 ≤ (headSpec (Cond.code yX4_joined cX4_joined 9 (some .long) :: tg) ({ frames := 1, cells := 0, slots := 0, locals := 23 })).room.slots := ⟨Nat.zero_le _, Nat.zero_le _⟩
  have hl := lv_entry ([.ref h, .int (nI u), .int (nI x), .int (nI y)]) (n := 9) (Nat.le_of_ble_eq_true rfl)
  rw [lg_entry_eq]
  generalize (lg_sl ([.ref h, .int (nI u), .int (nI x), .int (nI y)]) ++ List.replicate (9 - (lg_sl ([.ref h, .int (nI u), .int (nI x), .int (nI y)])).length) Slot.unset).toArray = ls at hl ⊢
  have hl : lv_has ls 9 [(0, .ref h), (1, .int (nI u)), (2, .int (nI x)), (3, .int (nI y))] := hl
  refine lv_aload_n hx hb dX4_joined_0 rfl (lv_at hl 0 rfl) ?_
  refine wd_get (ci := 5) (v := .ref (h + 5)) (C := RX4) (T := TX4) (N := 21) hx hb hts iwX4 hown hK.1 hP (mW_0) rfl 6 (by decide) (hts _ (tg_tail _ tw_432)) (fun _ h9 => h9) rfl dX4_joined_1 ?_
  refine lv_iload_n hx hb dX4_joined_4 rfl (lv_at hl 1 rfl) ?_
  refine wd_ildN hx hb hK.1 hP 0 (k := u) (mW_5) rfl (by omega) (by decide) dX4_joined_5 ?_
  refine wd_ti (x' := nI a) (hfa.1) ?_
  refine lv_istore (lv' := [(4, .int (nI a)), (0, .ref h), (1, .int (nI u)), (2, .int (nI x)), (3, .int (nI y))]) hx hb dX4_joined_6 hl (by decide) rfl (fun ls hl => ?_)
  refine lv_aload_n hx hb dX4_joined_8 rfl (lv_at hl 1 rfl) ?_
  refine wd_get (ci := 5) (v := .ref (h + 6)) (C := RX4) (T := TX4) (N := 21) hx hb hts iwX4 hown hK.1 hP (mW_0) rfl 7 (by decide) (hts _ (tg_tail _ tw_433)) (fun _ h9 => h9) rfl dX4_joined_9 ?_
  refine lv_iload_n hx hb dX4_joined_12 rfl (lv_at hl 2 rfl) ?_
  refine wd_ildN hx hb hK.1 hP 0 (k := u) (mW_6) rfl (by omega) (by decide) dX4_joined_13 ?_
  refine lv_istore (lv' := [(5, .int (se u)), (4, .int (nI a)), (0, .ref h), (1, .int (nI u)), (2, .int (nI x)), (3, .int (nI y))]) hx hb dX4_joined_14 hl (by decide) rfl (fun ls hl => ?_)
  refine lv_aload_n hx hb dX4_joined_16 rfl (lv_at hl 2 rfl) ?_
  refine wd_get (ci := 5) (v := .ref (h + 4)) (C := RX4) (T := TX4) (N := 21) hx hb hts iwX4 hown hK.1 hP (mW_0) rfl 5 (by decide) (hts _ (tg_tail _ tw_431)) (fun _ h9 => h9) rfl dX4_joined_17 ?_
  refine lv_iload_n hx hb dX4_joined_20 rfl (lv_at hl 3 rfl) ?_
  refine wd_ildN hx hb hK.1 hP 0 (k := u) (mW_4) rfl (by omega) (by decide) dX4_joined_21 ?_
  refine wd_ti (x' := nI kd) (hkd) ?_
  refine lv_iconst (v := nI 1) hx hb dX4_joined_22 (by decide) ?_
  refine lv_icmp_ne (tgt := 36) hx hb dX4_joined_23 (by decide) (fun c_23 => ?_) (fun c_23 => ?_)
  · have c_23 := mt (nI_eq (a := kd) (b := 1) (by omega) (by omega)).mpr c_23
    refine lv_aload_n hx hb dX4_joined_36 rfl (lv_at hl 2 rfl) ?_
    refine wd_get (ci := 5) (v := .ref (h + 4)) (C := RX4) (T := TX4) (N := 21) hx hb hts iwX4 hown hK.1 hP (mW_0) rfl 5 (by decide) (hts _ (tg_tail _ tw_431)) (fun _ h9 => h9) rfl dX4_joined_37 ?_
    refine lv_iload_n hx hb dX4_joined_40 rfl (lv_at hl 3 rfl) ?_
    refine wd_ildN hx hb hK.1 hP 0 (k := u) (mW_4) rfl (by omega) (by decide) dX4_joined_41 ?_
    refine wd_ti (x' := nI kd) (hkd) ?_
    refine lv_iconst (v := nI 3) hx hb dX4_joined_42 (by decide) ?_
    refine lv_icmp_ne (tgt := 66) hx hb dX4_joined_43 (by decide) (fun c_43 => ?_) (fun c_43 => ?_)
    · have c_43 := mt (nI_eq (a := kd) (b := 3) (by omega) (by omega)).mpr c_43
      refine lv_aload_n hx hb dX4_joined_66 rfl (lv_at hl 2 rfl) ?_
      refine wd_get (ci := 5) (v := .ref (h + 4)) (C := RX4) (T := TX4) (N := 21) hx hb hts iwX4 hown hK.1 hP (mW_0) rfl 5 (by decide) (hts _ (tg_tail _ tw_431)) (fun _ h9 => h9) rfl dX4_joined_67 ?_
      refine lv_iload_n hx hb dX4_joined_70 rfl (lv_at hl 3 rfl) ?_
      refine wd_ildN hx hb hK.1 hP 0 (k := u) (mW_4) rfl (by omega) (by decide) dX4_joined_71 ?_
      refine wd_ti (x' := nI kd) (hkd) ?_
      refine lv_bipush (v := nI 6) hx hb dX4_joined_72 (by decide) ?_
      refine lv_icmp_ne (tgt := 108) hx hb dX4_joined_74 (by decide) (fun c_74 => ?_) (fun c_74 => ?_)
      · have c_74 := mt (nI_eq (a := kd) (b := 6) (by omega) (by omega)).mpr c_74
        refine lv_lconst (v := lN 0) hx hb dX4_joined_108 (by decide) ?_
        refine lv_lstore (lv' := [(6, .long (lN 0)), (5, .int (se u)), (4, .int (nI a)), (0, .ref h), (1, .int (nI u)), (2, .int (nI x)), (3, .int (nI y))]) hx hb dX4_joined_109 hl (by decide) rfl (fun ls hl => ?_)
        refine lv_iconst (v := nI 0) hx hb dX4_joined_111 (by decide) ?_
        refine lv_istore (lv' := [(8, .int (nI 0)), (6, .long (lN 0)), (5, .int (se u)), (4, .int (nI a)), (0, .ref h), (1, .int (nI u)), (2, .int (nI x)), (3, .int (nI y))]) hx hb dX4_joined_112 hl (by decide) rfl (fun ls hl => ?_)
        have kd2 : kd = 2 := by omega
        have hl : lv_has ls 9 [(8, .int (nI 0)), (6, .long (lN 0)), (5, .int (nI b)), (4, .int (nI a)), (0, .ref h), (1, .int (nI u)), (2, .int (nI x)), (3, .int (nI y))] := by have h9 := hl; rw [(hfb (Or.inl kd2)).1] at h9; exact h9
        have hl : lv_has ls 9 [(0, .ref h), (1, .int (nI u)), (2, .int (nI x)), (3, .int (nI y)), (4, .int (nI a)), (5, .int (nI b)), (6, .long (lN 0)), (8, .int (nI 0))] := lv_sub hl [4, 5, 6, 7, 3, 2, 1, 0] rfl
        have e8 : ([(0, .ref h), (1, .int (nI u)), (2, .int (nI x)), (3, .int (nI y)), (4, .int (nI a)), (5, .int (nI b)), (6, .long (lN 0)), (8, .int (nI 0))] : List (Nat × Value)) = [(0, .ref h), (1, .int (nI u)), (2, .int (nI x)), (3, .int (nI y)), (4, .int (nI a)), (5, .int (nI b)), (6, .long (lN (jn2 M a b x y 0))), (8, .int (nI 0))] := by rfl
        rw [e8] at hl
        refine lp_jn g s0 w h hs0 rf nt np mo gb wr nr su pr ob ki fi se nd ii sp qu rF rT rD M hM9 u a b x y hx1 hy1 hfa.2 (hfb (Or.inl kd2)).2 hx hb hml hown hts hK h0s hRm hcs  ?_ (32 + 1) 0 (by omega) (by omega) _ _ ls hP hS hl
        intro H locs ls hP hS hl
        refine lv_lload hx hb dX4_joined_153 (lv_at hl 6 rfl) ?_
        exact W.lret (v := lN (jn2 M a b x y 32)) hx hb hr (fun t ht hW => ⟨⟨_, (mW g w h rf nt np mo gb wr nr su pr ob ki fi se (tN M) nd ii sp qu rF rT rD), rfl, ⟨by unfold jn; rw [if_neg c_23, if_neg c_43, if_neg c_74], rfl⟩, cB_of ht hP⟩, hS.F ht⟩) hS.2.2 dX4_joined_155
      · have c_74 := (nI_eq (a := kd) (b := 6) (by omega) (by omega)).mp c_74
        refine lv_iload_n hx hb dX4_joined_77 rfl (lv_at hl 4 rfl) ?_
        refine lv_iload_n hx hb dX4_joined_78 rfl (lv_at hl 5 rfl) ?_
        refine lv_icmp_ne (tgt := 91) hx hb dX4_joined_79 (by decide) (fun c_79 => ?_) (fun c_79 => ?_)
        · have c_79 := mt (nI_eq (a := x) (b := y) (by omega) (by omega)).mpr c_79
          refine lv_aload_n hx hb dX4_joined_91 rfl (lv_at hl 2 rfl) ?_
          refine lv_iload hx hb dX4_joined_92 (lv_at hl 1 rfl) ?_
          refine lv_iload_n hx hb dX4_joined_94 rfl (lv_at hl 4 rfl) ?_
          refine lv_iload_n hx hb dX4_joined_95 rfl (lv_at hl 5 rfl) ?_
          have ha9 := hfa.2
          have hm9 := hM9 (1024 * a + 32 * x + y)
          refine cr_Vi (As := [.int (nI a), .int (nI x), .int (nI y)]) (rest := []) ⟨hx, hb, hml, hown, hts⟩ (c_X4_cell l g s0  w h hs0 rf nt np mo gb wr nr su pr ob ki fi se (tN M) nd ii sp qu rF rT rD (a) (x) (y) (by omega) (by omega) (by omega)) (cw_V 3 hts tg_tail tw_560 tw_562 tp_28 tw_4 tw_563 rfl rfl (by decide +kernel) ⟨Nat.le_trans (by decide) hRm.1, Nat.le_trans (by decide) hRm.2⟩) hK hP h0s hS (mW_0) rfl rfl rfl hl.1 rfl (Nat.le_of_ble_eq_true rfl) dX4_joined_96 hcs (fun r9 w9 H locs hw hP hS => ?_)
          obtain ⟨e_r9, hw9⟩ := hw
          rw [hw9] at hP
          subst e_r9
          refine wd_ti (x' := nI (M (1024 * a + 32 * x + y))) (rfl) ?_
          refine lv_if_le (tgt := 106) hx hb dX4_joined_99 (by decide) (fun c_99 => ?_) (fun c_99 => ?_)
          · have c_99 := (nI_leI (a := (M (1024 * a + 32 * x + y))) (b := 0) (by omega) (by omega)).mp (show nI (M (1024 * a + 32 * x + y)) ≤ nI 0 from c_99)
            refine lv_lconst (v := lN 0) hx hb dX4_joined_106 (by decide) ?_
            exact W.lret (v := lN 0) hx hb hr (fun t ht hW => ⟨⟨_, (mW g w h rf nt np mo gb wr nr su pr ob ki fi se (tN M) nd ii sp qu rF rT rD), rfl, ⟨by unfold jn; rw [if_neg c_23, if_neg c_43, if_pos c_74]; rw [if_neg (by clear hts hP hK hx hb hr hown hS hRm hcs hl hlocks; grind)], rfl⟩, cB_of ht hP⟩, hS.F ht⟩) hS.2.2 dX4_joined_107
          · have c_99 := mt (nI_leI (a := (M (1024 * a + 32 * x + y))) (b := 0) (by omega) (by omega)).mpr (show ¬ (nI (M (1024 * a + 32 * x + y)) ≤ nI 0) from c_99)
            refine lv_lconst (v := lN 1) hx hb dX4_joined_102 (by decide) ?_
            refine lv_goto (tgt := 107) hx hb dX4_joined_103 (by decide) ?_
            exact W.lret (v := lN 1) hx hb hr (fun t ht hW => ⟨⟨_, (mW g w h rf nt np mo gb wr nr su pr ob ki fi se (tN M) nd ii sp qu rF rT rD), rfl, ⟨by unfold jn; rw [if_neg c_23, if_neg c_43, if_pos c_74]; rw [if_pos (by clear hts hP hK hx hb hr hown hS hRm hcs hl hlocks; grind)], rfl⟩, cB_of ht hP⟩, hS.F ht⟩) hS.2.2 dX4_joined_107
        · have c_79 := (nI_eq (a := x) (b := y) (by omega) (by omega)).mp c_79
          refine lv_aload_n hx hb dX4_joined_82 rfl (lv_at hl 2 rfl) ?_
          refine wd_get (ci := 5) (v := .ref (h + 9)) (C := RX4) (T := TX4) (N := 21) hx hb hts iwX4 hown hK.1 hP (mW_0) rfl 12 (by decide) (hts _ (tg_tail _ tw_438)) (fun _ h9 => h9) rfl dX4_joined_83 ?_
          refine lv_iload_n hx hb dX4_joined_86 rfl (lv_at hl 4 rfl) ?_
          refine wd_zldN hx hb hK.1 hP 1 (k := x) (mW_9) rfl (by omega) (by decide) dX4_joined_87 ?_
          refine lv_if_ne (tgt := 102) hx hb dX4_joined_88 (by decide) (fun c_88 => ?_) (fun c_88 => ?_)
          · refine lv_lconst (v := lN 1) hx hb dX4_joined_102 (by decide) ?_
            refine lv_goto (tgt := 107) hx hb dX4_joined_103 (by decide) ?_
            exact W.lret (v := lN 1) hx hb hr (fun t ht hW => ⟨⟨_, (mW g w h rf nt np mo gb wr nr su pr ob ki fi se (tN M) nd ii sp qu rF rT rD), rfl, ⟨by unfold jn; rw [if_neg c_23, if_neg c_43, if_pos c_74]; rw [if_pos (by clear hts hP hK hx hb hr hown hS hRm hcs hl hlocks; grind)], rfl⟩, cB_of ht hP⟩, hS.F ht⟩) hS.2.2 dX4_joined_107
          · refine lv_aload_n hx hb dX4_joined_91 rfl (lv_at hl 2 rfl) ?_
            refine lv_iload hx hb dX4_joined_92 (lv_at hl 1 rfl) ?_
            refine lv_iload_n hx hb dX4_joined_94 rfl (lv_at hl 4 rfl) ?_
            refine lv_iload_n hx hb dX4_joined_95 rfl (lv_at hl 5 rfl) ?_
            have ha9 := hfa.2
            have hm9 := hM9 (1024 * a + 32 * x + y)
            refine cr_Vi (As := [.int (nI a), .int (nI x), .int (nI y)]) (rest := []) ⟨hx, hb, hml, hown, hts⟩ (c_X4_cell l g s0  w h hs0 rf nt np mo gb wr nr su pr ob ki fi se (tN M) nd ii sp qu rF rT rD (a) (x) (y) (by omega) (by omega) (by omega)) (cw_V 3 hts tg_tail tw_560 tw_562 tp_28 tw_4 tw_563 rfl rfl (by decide +kernel) ⟨Nat.le_trans (by decide) hRm.1, Nat.le_trans (by decide) hRm.2⟩) hK hP h0s hS (mW_0) rfl rfl rfl hl.1 rfl (Nat.le_of_ble_eq_true rfl) dX4_joined_96 hcs (fun r9 w9 H locs hw hP hS => ?_)
            obtain ⟨e_r9, hw9⟩ := hw
            rw [hw9] at hP
            subst e_r9
            refine wd_ti (x' := nI (M (1024 * a + 32 * x + y))) (rfl) ?_
            refine lv_if_le (tgt := 106) hx hb dX4_joined_99 (by decide) (fun c_99 => ?_) (fun c_99 => ?_)
            · have c_99 := (nI_leI (a := (M (1024 * a + 32 * x + y))) (b := 0) (by omega) (by omega)).mp (show nI (M (1024 * a + 32 * x + y)) ≤ nI 0 from c_99)
              refine lv_lconst (v := lN 0) hx hb dX4_joined_106 (by decide) ?_
              exact W.lret (v := lN 0) hx hb hr (fun t ht hW => ⟨⟨_, (mW g w h rf nt np mo gb wr nr su pr ob ki fi se (tN M) nd ii sp qu rF rT rD), rfl, ⟨by unfold jn; rw [if_neg c_23, if_neg c_43, if_pos c_74]; rw [if_neg (by clear hts hP hK hx hb hr hown hS hRm hcs hl hlocks; grind)], rfl⟩, cB_of ht hP⟩, hS.F ht⟩) hS.2.2 dX4_joined_107
            · have c_99 := mt (nI_leI (a := (M (1024 * a + 32 * x + y))) (b := 0) (by omega) (by omega)).mpr (show ¬ (nI (M (1024 * a + 32 * x + y)) ≤ nI 0) from c_99)
              refine lv_lconst (v := lN 1) hx hb dX4_joined_102 (by decide) ?_
              refine lv_goto (tgt := 107) hx hb dX4_joined_103 (by decide) ?_
              exact W.lret (v := lN 1) hx hb hr (fun t ht hW => ⟨⟨_, (mW g w h rf nt np mo gb wr nr su pr ob ki fi se (tN M) nd ii sp qu rF rT rD), rfl, ⟨by unfold jn; rw [if_neg c_23, if_neg c_43, if_pos c_74]; rw [if_pos (by clear hts hP hK hx hb hr hown hS hRm hcs hl hlocks; grind)], rfl⟩, cB_of ht hP⟩, hS.F ht⟩) hS.2.2 dX4_joined_107
    · have c_43 := (nI_eq (a := kd) (b := 3) (by omega) (by omega)).mp c_43
      refine lv_aload_n hx hb dX4_joined_46 rfl (lv_at hl 2 rfl) ?_
      refine lv_iload hx hb dX4_joined_47 (lv_at hl 1 rfl) ?_
      refine lv_iload_n hx hb dX4_joined_49 rfl (lv_at hl 4 rfl) ?_
      refine lv_iload_n hx hb dX4_joined_50 rfl (lv_at hl 5 rfl) ?_
      have ha9 := hfa.2
      refine cr_Vi (As := [.int (nI a), .int (nI x), .int (nI y)]) (rest := []) ⟨hx, hb, hml, hown, hts⟩ (c_X4_cell l g s0  w h hs0 rf nt np mo gb wr nr su pr ob ki fi se (tN M) nd ii sp qu rF rT rD (a) (x) (y) (by omega) (by omega) (by omega)) (cw_V 3 hts tg_tail tw_560 tw_562 tp_28 tw_4 tw_563 rfl rfl (by decide +kernel) ⟨Nat.le_trans (by decide) hRm.1, Nat.le_trans (by decide) hRm.2⟩) hK hP h0s hS (mW_0) rfl rfl rfl hl.1 rfl (Nat.le_of_ble_eq_true rfl) dX4_joined_51 hcs (fun r9 w9 H locs hw hP hS => ?_)
      obtain ⟨e_r9, hw9⟩ := hw
      rw [hw9] at hP
      subst e_r9
      refine wd_ti (x' := nI (M (1024 * a + 32 * x + y))) (rfl) ?_
      refine lv_i2l (v := lN (M (1024 * a + 32 * x + y))) hx hb dX4_joined_54 (nI_l (by have := hM9 (1024 * a + 32 * x + y); omega)) ?_
      refine lv_aload_n hx hb dX4_joined_55 rfl (lv_at hl 2 rfl) ?_
      refine lv_iload hx hb dX4_joined_56 (lv_at hl 0 rfl) ?_
      refine wd_ti (x' := nI b) ((hfb (Or.inr c_43)).1) ?_
      refine lv_iload_n hx hb dX4_joined_58 rfl (lv_at hl 4 rfl) ?_
      refine lv_iload_n hx hb dX4_joined_59 rfl (lv_at hl 5 rfl) ?_
      have hb9 := (hfb (Or.inr c_43)).2
      refine cr_Vi (As := [.int (nI b), .int (nI x), .int (nI y)]) (rest := [.long (lN (M (1024 * a + 32 * x + y)))]) ⟨hx, hb, hml, hown, hts⟩ (c_X4_cell l g s0  w h hs0 rf nt np mo gb wr nr su pr ob ki fi se (tN M) nd ii sp qu rF rT rD (b) (x) (y) (by omega) (by omega) (by omega)) (cw_V 3 hts tg_tail tw_560 tw_562 tp_28 tw_4 tw_563 rfl rfl (by decide +kernel) ⟨Nat.le_trans (by decide) hRm.1, Nat.le_trans (by decide) hRm.2⟩) hK hP h0s hS (mW_0) rfl rfl rfl hl.1 rfl (Nat.le_of_ble_eq_true rfl) dX4_joined_60 hcs (fun r9 w9 H locs hw hP hS => ?_)
      obtain ⟨e_r9, hw9⟩ := hw
      rw [hw9] at hP
      subst e_r9
      refine wd_ti (x' := nI (M (1024 * b + 32 * x + y))) (rfl) ?_
      refine lv_i2l (v := lN (M (1024 * b + 32 * x + y))) hx hb dX4_joined_63 (nI_l (by have := hM9 (1024 * b + 32 * x + y); omega)) ?_
      refine lv_ladd hx hb dX4_joined_64 ?_
      refine wd_tl (x' := lN (M (1024 * a + 32 * x + y) + M (1024 * b + 32 * x + y))) (lN_add _ _) ?_
      exact W.lret (v := lN (M (1024 * a + 32 * x + y) + M (1024 * b + 32 * x + y))) hx hb hr (fun t ht hW => ⟨⟨_, (mW g w h rf nt np mo gb wr nr su pr ob ki fi se (tN M) nd ii sp qu rF rT rD), rfl, ⟨by unfold jn; rw [if_neg c_23, if_pos c_43], rfl⟩, cB_of ht hP⟩, hS.F ht⟩) hS.2.2 dX4_joined_65
  · have c_23 := (nI_eq (a := kd) (b := 1) (by omega) (by omega)).mp c_23
    refine lv_aload_n hx hb dX4_joined_26 rfl (lv_at hl 2 rfl) ?_
    refine lv_iload hx hb dX4_joined_27 (lv_at hl 1 rfl) ?_
    refine lv_iload_n hx hb dX4_joined_29 rfl (lv_at hl 5 rfl) ?_
    refine lv_iload_n hx hb dX4_joined_30 rfl (lv_at hl 4 rfl) ?_
    have ha9 := hfa.2
    refine cr_Vi (As := [.int (nI a), .int (nI y), .int (nI x)]) (rest := []) ⟨hx, hb, hml, hown, hts⟩ (c_X4_cell l g s0  w h hs0 rf nt np mo gb wr nr su pr ob ki fi se (tN M) nd ii sp qu rF rT rD (a) (y) (x) (by omega) (by omega) (by omega)) (cw_V 3 hts tg_tail tw_560 tw_562 tp_28 tw_4 tw_563 rfl rfl (by decide +kernel) ⟨Nat.le_trans (by decide) hRm.1, Nat.le_trans (by decide) hRm.2⟩) hK hP h0s hS (mW_0) rfl rfl rfl hl.1 rfl (Nat.le_of_ble_eq_true rfl) dX4_joined_31 hcs (fun r9 w9 H locs hw hP hS => ?_)
    obtain ⟨e_r9, hw9⟩ := hw
    rw [hw9] at hP
    subst e_r9
    refine wd_ti (x' := nI (M (1024 * a + 32 * y + x))) (rfl) ?_
    refine lv_i2l (v := lN (M (1024 * a + 32 * y + x))) hx hb dX4_joined_34 (nI_l (by have := hM9 (1024 * a + 32 * y + x); omega)) ?_
    exact W.lret (v := lN (M (1024 * a + 32 * y + x))) hx hb hr (fun t ht hW => ⟨⟨_, (mW g w h rf nt np mo gb wr nr su pr ob ki fi se (tN M) nd ii sp qu rF rT rD), rfl, ⟨by unfold jn; rw [if_pos c_23], rfl⟩, cB_of ht hP⟩, hS.F ht⟩) hS.2.2 dX4_joined_35
end
section
/-! THE REFERENCE: walk -/
abbrev wT : Type := (Nat → Int32) × (Nat → Int32) × Nat
def wk1 (M : Nat → Nat) (a x : Nat) (sp qu : Nat → Int32) : Nat → wT
  | 0 => (sp, qu, 0)
  | y + 1 => if M (1024 * a + 32 * x + y) ≤ 0 then (upd (wk1 M a x sp qu y).1 y (-1), (wk1 M a x sp qu y).2.1, (wk1 M a x sp qu y).2.2) else (upd (upd (wk1 M a x sp qu y).1 y (-1)) y (nI 1), upd (wk1 M a x sp qu y).2.1 (wk1 M a x sp qu y).2.2 (nI y), (wk1 M a x sp qu y).2.2 + 1)
termination_by y => y
def wk2 (M : Nat → Nat) (a z : Nat) (st : wT) : Nat → wT
  | 0 => st
  | y + 1 => if 0 ≤ (wk2 M a z st y).1 y ∨ M (1024 * a + 32 * z + y) ≤ 0 then wk2 M a z st y else (upd (wk2 M a z st y).1 y ((wk2 M a z st y).1 z + nI 1), upd (wk2 M a z st y).2.1 (wk2 M a z st y).2.2 (nI y), (wk2 M a z st y).2.2 + 1)
termination_by y => y
def wk3 (M : Nat → Nat) (a : Nat) (st : wT) : Nat → wT
  | 0 => st
  | k + 1 => if (wk3 M a st k).2.2 ≤ k then wk3 M a st k else wk2 M a ((wk3 M a st k).2.1 k).toNatClampNeg (wk3 M a st k) 32
termination_by k => k
def wkF (M : Nat → Nat) (a x : Nat) (sp qu : Nat → Int32) : wT := wk3 M a (wk1 M a x sp qu 32) 32
/-- how many of the first m places don't hold -1 -/
def cn (f : Nat → Int32) : Nat → Nat
  | 0 => 0
  | y + 1 => cn f y + if f y = -1 then 0 else 1
theorem cn_le (f : Nat → Int32) : ∀ m, cn f m ≤ m := by
  intro m
  induction m with
  | zero => exact Nat.le_refl _
  | succ m ih => rw [cn]; split <;> omega
theorem cn_lt {f : Nat → Int32} {y : Nat} (h : f y = -1) : ∀ m, y < m → cn f m < m := by
  intro m
  induction m with
  | zero => intro q; omega
  | succ m ih =>
    intro q
    rw [cn]
    rcases Nat.lt_or_ge y m with r | r
    · have := ih r
      split <;> omega
    · have e9 : m = y := by omega
      subst e9
      rw [if_pos h]
      have := cn_le f m
      omega
theorem cn_ge {f : Nat → Int32} {y : Nat} {v : Int32} : ∀ m, m ≤ y → cn (upd f y v) m = cn f m := by
  intro m
  induction m with
  | zero => intro _; rfl
  | succ m ih =>
    intro q
    rw [cn, cn, ih (by omega), pk_un (by omega)]
theorem cn_up {f : Nat → Int32} {y : Nat} {v : Int32} (h : f y = -1) (hv : ¬ v = -1) : ∀ m, y < m → cn (upd f y v) m = cn f m + 1 := by
  intro m
  induction m with
  | zero => intro q; omega
  | succ m ih =>
    intro q
    rcases Nat.lt_or_ge y m with r | r
    · rw [cn, cn, ih r, pk_un (by omega)]
      omega
    · have e9 : m = y := by omega
      subst e9
      rw [cn, cn, cn_ge m (Nat.le_refl _), pk_us, if_pos h, if_neg hv]
theorem nI_nm {d : Nat} (h : d < 2 ^ 31) : ¬ nI d = -1 := by
  intro q
  have h1 := nI_toInt h
  rw [q] at h1
  have h2 : (-1 : Int32).toInt = -1 := by decide
  omega
theorem nm_lt : (-1 : Int32) < 0 := by decide
theorem wk1_ok {M : Nat → Nat} {a x : Nat} {sp qu : Nat → Int32} : ∀ y, (wk1 M a x sp qu y).2.2 = cn (wk1 M a x sp qu y).1 y ∧ (∀ v, v < y → (wk1 M a x sp qu y).1 v = -1 ∨ (wk1 M a x sp qu y).1 v = nI 1) ∧ (∀ i, i < (wk1 M a x sp qu y).2.2 → ∃ z, z < y ∧ (wk1 M a x sp qu y).2.1 i = nI z ∧ (wk1 M a x sp qu y).1 z = nI 1) := by
  intro y
  induction y with
  | zero => rw [wk1]; exact ⟨rfl, fun v h => absurd h (Nat.not_lt_zero v), fun i h => absurd h (Nat.not_lt_zero i)⟩
  | succ y ih =>
    obtain ⟨h1, h2, h3⟩ := ih
    rw [wk1]
    split
    · refine ⟨?_, ?_, ?_⟩
      · show (wk1 M a x sp qu y).2.2 = cn (upd (wk1 M a x sp qu y).1 y (-1)) (y + 1)
        rw [cn, cn_ge y (Nat.le_refl _), pk_us, if_pos rfl, h1]
        omega
      · intro v hv
        show upd _ _ _ v = -1 ∨ upd _ _ _ v = nI 1
        by_cases e9 : v = y
        · subst e9; left; exact pk_us
        · rw [pk_un e9]; exact h2 v (by omega)
      · intro i hi
        obtain ⟨z, q1, q2, q3⟩ := h3 i hi
        exact ⟨z, by omega, q2, by show upd _ _ _ z = _; rw [pk_un (by omega)]; exact q3⟩
    · refine ⟨?_, ?_, ?_⟩
      · show (wk1 M a x sp qu y).2.2 + 1 = cn (upd (upd (wk1 M a x sp qu y).1 y (-1)) y (nI 1)) (y + 1)
        rw [cn, cn_ge y (Nat.le_refl _), cn_ge y (Nat.le_refl _), pk_us, if_neg (nI_nm (by decide)), h1]
      · intro v hv
        show upd _ _ _ v = -1 ∨ upd _ _ _ v = nI 1
        by_cases e9 : v = y
        · subst e9; right; exact pk_us
        · rw [pk_un e9, pk_un e9]; exact h2 v (by omega)
      · intro i hi
        have hi : i < (wk1 M a x sp qu y).2.2 + 1 := hi
        by_cases e9 : i = (wk1 M a x sp qu y).2.2
        · exact ⟨y, by omega, by show upd _ _ _ i = _; rw [e9]; exact pk_us, pk_us⟩
        · obtain ⟨z, q1, q2, q3⟩ := h3 i (by omega)
          exact ⟨z, by omega, by show upd _ _ _ i = _; rw [pk_un e9]; exact q2, by show upd _ _ _ z = _; rw [pk_un (by omega), pk_un (by omega)]; exact q3⟩
/-- what keeps walk's rows within their bounds -/
def wI (t : wT) : Prop := t.2.2 = cn t.1 32 ∧ (∀ v, v < 32 → t.1 v = -1 ∨ ∃ d, 1 ≤ d ∧ d ≤ t.2.2 ∧ t.1 v = nI d) ∧ (∀ i, i < t.2.2 → ∃ z, z < 32 ∧ t.2.1 i = nI z ∧ ¬ t.1 z = -1)
theorem wI.le {t : wT} (h : wI t) : t.2.2 ≤ 32 := by rw [h.1]; exact cn_le _ _
theorem wI.neg {t : wT} (h : wI t) {v : Nat} (hv : v < 32) : ¬ 0 ≤ t.1 v ↔ t.1 v = -1 := by
  rcases h.2.1 v hv with q | ⟨d, q1, q2, q3⟩
  · rw [q]; decide
  · have := h.le
    rw [q3]
    exact ⟨fun r => absurd (nI_pos' (by omega)) r, fun r => absurd r (nI_nm (by omega))⟩
theorem wI.lt {t : wT} (h : wI t) {v : Nat} (hv : v < 32) (hn : ¬ 0 ≤ t.1 v) : t.2.2 < 32 := by rw [h.1]; exact cn_lt ((h.neg hv).mp hn) 32 hv
theorem wI_1 {M : Nat → Nat} {a x : Nat} {sp qu : Nat → Int32} : wI (wk1 M a x sp qu 32) := by
  obtain ⟨h1, h2, h3⟩ := wk1_ok (M := M) (a := a) (x := x) (sp := sp) (qu := qu) 32
  refine ⟨h1, fun v hv => ?_, fun i hi => ?_⟩
  · rcases h2 v hv with q | q
    · exact Or.inl q
    · refine Or.inr ⟨1, Nat.le_refl _, ?_, q⟩
      rw [h1]
      rcases Nat.eq_zero_or_pos (cn (wk1 M a x sp qu 32).1 32) with r | r
      · exfalso
        have h5 : ∀ m, v < m → 0 < cn (wk1 M a x sp qu 32).1 m := by
          intro m
          induction m with
          | zero => intro z; omega
          | succ m ih =>
            intro z
            rw [cn]
            by_cases e9 : v = m
            · subst e9; rw [q, if_neg (nI_nm (by decide))]; omega
            · have := ih (by omega); omega
        have := h5 32 hv
        omega
      · exact r
  · obtain ⟨z, q1, q2, q3⟩ := h3 i hi
    exact ⟨z, q1, q2, by rw [q3]; exact nI_nm (by decide)⟩
theorem wI_2 {M : Nat → Nat} {a z : Nat} {st : wT} (h : wI st) (hz : z < 32) (hd : ¬ st.1 z = -1) : ∀ y, y ≤ 32 → wI (wk2 M a z st y) ∧ ¬ (wk2 M a z st y).1 z = -1 := by
  intro y
  induction y with
  | zero => intro _; rw [wk2]; exact ⟨h, hd⟩
  | succ y ih =>
    intro hy
    obtain ⟨i1, i2⟩ := ih (by omega)
    rw [wk2]
    split
    · exact ⟨i1, i2⟩
    · rename_i hc
      have hc := not_or.mp hc
      have hm := (i1.neg (v := y) (by omega)).mp hc.1
      have hl := i1.lt (v := y) (by omega) hc.1
      generalize wk2 M a z st y = t at i1 i2 hm hl ⊢
      obtain ⟨d, d1, d2, d3⟩ : ∃ d, 1 ≤ d ∧ d ≤ t.2.2 ∧ t.1 z = nI d := (i1.2.1 z hz).resolve_left i2
      have hv : t.1 z + nI 1 = nI (d + 1) := by rw [d3]; exact nI_add d 1
      have hnm : ¬ t.1 z + nI 1 = -1 := by rw [hv]; exact nI_nm (by omega)
      have hzy : z ≠ y := fun q => i2 (by rw [q]; exact hm)
      refine ⟨⟨?_, ?_, ?_⟩, ?_⟩
      · show t.2.2 + 1 = cn (upd t.1 y (t.1 z + nI 1)) 32
        rw [cn_up hm hnm 32 (by omega), i1.1]
      · intro v hv9
        show upd _ _ _ v = -1 ∨ ∃ d, 1 ≤ d ∧ d ≤ t.2.2 + 1 ∧ upd _ _ _ v = nI d
        by_cases e9 : v = y
        · subst e9
          right
          exact ⟨d + 1, by omega, by omega, by rw [pk_us]; exact hv⟩
        · rw [pk_un e9]
          rcases i1.2.1 v hv9 with q | ⟨d', q1, q2, q3⟩
          · exact Or.inl q
          · exact Or.inr ⟨d', q1, by omega, q3⟩
      · intro i hi
        have hi : i < t.2.2 + 1 := hi
        by_cases e9 : i = t.2.2
        · exact ⟨y, by omega, by show upd _ _ _ i = _; rw [e9]; exact pk_us, by show ¬ upd _ _ _ y = _; rw [pk_us]; exact hnm⟩
        · obtain ⟨z', q1, q2, q3⟩ := i1.2.2 i (by omega)
          refine ⟨z', q1, by show upd _ _ _ i = _; rw [pk_un e9]; exact q2, ?_⟩
          show ¬ upd _ _ _ z' = _
          by_cases e8 : z' = y
          · subst e8; rw [pk_us]; exact hnm
          · rw [pk_un e8]; exact q3
      · show ¬ upd _ _ _ z = _
        rw [pk_un hzy]
        exact i2
theorem wz_ok {t : wT} (h : wI t) {k : Nat} (hk : k < t.2.2) : t.2.1 k = nI (t.2.1 k).toNatClampNeg ∧ (t.2.1 k).toNatClampNeg < 32 ∧ ¬ t.1 (t.2.1 k).toNatClampNeg = -1 := by
  obtain ⟨z, h1, h2, h3⟩ := h.2.2 k hk
  rw [h2, nI_clamp (by omega)]
  exact ⟨rfl, h1, h3⟩
theorem wI_3 {M : Nat → Nat} {a : Nat} {st : wT} (h : wI st) : ∀ k, wI (wk3 M a st k) := by
  intro k
  induction k with
  | zero => rw [wk3]; exact h
  | succ k ih =>
    rw [wk3]
    split
    · exact ih
    · have hz := wz_ok ih (k := k) (by omega)
      exact (wI_2 ih hz.2.1 hz.2.2 32 (Nat.le_refl _)).1
theorem wk3_fix {M : Nat → Nat} {a : Nat} {st : wT} {k : Nat} (h : (wk3 M a st k).2.2 ≤ k) : ∀ j, wk3 M a st (k + j) = wk3 M a st k := by
  intro j
  induction j with
  | zero => rfl
  | succ j ih =>
    show wk3 M a st (k + j + 1) = _
    rw [wk3, ih, if_pos (by omega)]
set_option maxHeartbeats 4000000 in
set_option maxRecDepth 100000 in
theorem lp_wk1 {p : Program} {l : Launch} {e : Env} {R : Room} {s : State} {m : MethodId} {args : Array Value} {below : List Frame} {meth : Method} {c : Code} {Q : State → Prop} {H0 : Heap} {cells slots : Nat} (g : gX) (s0 : Nat) (w : wd_M) (h : Nat) (hs0 : s0 ≤ h) (rf nt np mo gb wr nr : Int32) (su pr ob ki fi se nd ii sp qu rF rT rD : Nat → Int32) (M : Nat → Nat) (hM9 : mB M) (a x : Nat) (ha9 : a ≤ 40) (hx1 : x < 32) (hx : p.tables.exec = Jvm.exec) (hb : c.code = cX4_walk) (hml : c.maxLocals = 7) (hown : s.vm.findClass RX4 = some m.cls) (hts : ∀ w ∈ Cond.code yX4_walk cX4_walk 7 (none) :: tg, w.before args s = true) (hK : gK g s) (h0s : s0 ≤ H0.size) (hRm : 1 ≤ R.frames ∧ 23 ≤ R.locals) (hcs : cells + 0 ≤ R.cells ∧ slots + 0 ≤ R.slots)  (kx : ∀ (H : Heap) (locs : List Loc) (ls : Array Slot), gP g (mW g w h rf nt np mo gb wr nr su pr ob ki fi se (tN M) nd ii ((wk1 M a x sp qu 32).1) ((wk1 M a x sp qu 32).2.1) rF rT rD) H → gS s0 H0 H locs → lv_has ls 7 [(0, .ref h), (1, .int (nI a)), (2, .int (nI x)), (3, .int (nI ((wk1 M a x sp qu 32).2.2))), (4, .int (nI 32))] → W p l e R s m args below meth c H locs cells slots Q (F0 m 56 ls [])) :
    ∀ (n y : Nat), y ≤ 32 → 32 + 1 ≤ y + n → ∀ (H : Heap) (locs : List Loc) (ls : Array Slot), gP g (mW g w h rf nt np mo gb wr nr su pr ob ki fi se (tN M) nd ii ((wk1 M a x sp qu y).1) ((wk1 M a x sp qu y).2.1) rF rT rD) H → gS s0 H0 H locs → lv_has ls 7 [(0, .ref h), (1, .int (nI a)), (2, .int (nI x)), (3, .int (nI ((wk1 M a x sp qu y).2.2))), (4, .int (nI y))] → W p l e R s m args below meth c H locs cells slots Q (F0 m 5 ls []) := by
  intro n
  induction n with
  | zero =>
    intro y h1 h2
    exact absurd h2 (by omega)
  | succ n ih =>
    intro y hi hin H locs ls hP hS hl
    refine lv_iload hx hb dX4_walk_5 (lv_at hl 4 rfl) ?_
    refine lv_bipush (v := nI 32) hx hb dX4_walk_7 (by decide) ?_
    refine lv_icmp_ge (tgt := 56) hx hb dX4_walk_9 (by decide) (fun c_9 => ?_) (fun c_9 => ?_)
    · have c_9 := (nI_leI (a := 32) (b := y) (by omega) (by omega)).mp c_9
      have e9 : y = 32 := by omega
      try rw [e9] at hP
      try rw [e9] at hl
      exact kx H locs ls hP hS (lv_sub hl [0, 1, 2, 3, 4] rfl)
    · have c_9 := mt (nI_leI (a := 32) (b := y) (by omega) (by omega)).mpr c_9
      refine lv_aload_n hx hb dX4_walk_12 rfl (lv_at hl 0 rfl) ?_
      refine wd_get (ci := 5) (v := .ref (h + 10)) (C := RX4) (T := TX4) (N := 21) hx hb hts iwX4 hown hK.1 hP (mW_0) rfl 14 (by decide) (hts _ (tg_tail _ tw_440)) (fun _ h9 => h9) rfl dX4_walk_13 ?_
      refine lv_iload hx hb dX4_walk_16 (lv_at hl 4 rfl) ?_
      refine lv_iconst (v := (-1)) hx hb dX4_walk_18 (by decide) ?_
      refine wd_istN hx hb hK.1 hP hS (by omega) 0 (k := y) (mW_10) rfl (by omega) (by decide) dX4_walk_19 (fun H locs hP hS hz => ?_)
      have hP : gP g (mW g w h rf nt np mo gb wr nr su pr ob ki fi se (tN M) nd ii (upd ((wk1 M a x sp qu y).1) y ((-1))) ((wk1 M a x sp qu y).2.1) rF rT rD) H := by have h9 : gP g (wd_up (mW g w h rf nt np mo gb wr nr su pr ob ki fi se (tN M) nd ii ((wk1 M a x sp qu y).1) ((wk1 M a x sp qu y).2.1) rF rT rD) (h + 10) (wd_iA (g.2 0) 32 (upd ((wk1 M a x sp qu y).1) y ((-1))))) H := hP; rw [mW_s10] at h9; exact h9
      refine lv_aload_n hx hb dX4_walk_20 rfl (lv_at hl 0 rfl) ?_
      refine lv_iload_n hx hb dX4_walk_21 rfl (lv_at hl 1 rfl) ?_
      refine lv_iload_n hx hb dX4_walk_22 rfl (lv_at hl 2 rfl) ?_
      refine lv_iload hx hb dX4_walk_23 (lv_at hl 4 rfl) ?_
      have hm9 := hM9 (1024 * a + 32 * x + y)
      refine cr_Vi (As := [.int (nI a), .int (nI x), .int (nI y)]) (rest := []) ⟨hx, hb, hml, hown, hts⟩ (c_X4_cell l g s0  w h hs0 rf nt np mo gb wr nr su pr ob ki fi se (tN M) nd ii (upd ((wk1 M a x sp qu y).1) y ((-1))) ((wk1 M a x sp qu y).2.1) rF rT rD (a) (x) (y) (by omega) (by omega) (by omega)) (cw_V 3 hts tg_tail tw_560 tw_562 tp_28 tw_4 tw_563 rfl rfl (by decide +kernel) ⟨Nat.le_trans (by decide) hRm.1, Nat.le_trans (by decide) hRm.2⟩) hK hP h0s hS (mW_0) rfl rfl rfl hl.1 rfl (Nat.le_of_ble_eq_true rfl) dX4_walk_25 hcs (fun r9 w9 H locs hw hP hS => ?_)
      obtain ⟨e_r9, hw9⟩ := hw
      rw [hw9] at hP
      subst e_r9
      refine wd_ti (x' := nI (M (1024 * a + 32 * x + y))) (rfl) ?_
      refine lv_if_le (tgt := 50) hx hb dX4_walk_28 (by decide) (fun c_28 => ?_) (fun c_28 => ?_)
      · have c_28 := (nI_leI (a := (M (1024 * a + 32 * x + y))) (b := 0) (by omega) (by omega)).mp (show nI (M (1024 * a + 32 * x + y)) ≤ nI 0 from c_28)
        refine lv_iinc (v := nI (y + 1)) (lv' := [(4, .int (nI (y + 1))), (0, .ref h), (1, .int (nI a)), (2, .int (nI x)), (3, .int (nI ((wk1 M a x sp qu y).2.2)))]) hx hb dX4_walk_50 hl (k := 4) rfl (nI_1 _) (by decide) rfl (fun ls hl => ?_)
        refine lv_goto (tgt := 5) hx hb dX4_walk_53 (by decide) ?_
        have f9 : wk1 M a x sp qu (y + 1) = (upd (wk1 M a x sp qu y).1 y (-1), (wk1 M a x sp qu y).2.1, (wk1 M a x sp qu y).2.2) := by rw [wk1, if_pos c_28]
        have e8 : (mW g w h rf nt np mo gb wr nr su pr ob ki fi se (tN M) nd ii (upd ((wk1 M a x sp qu y).1) y ((-1))) ((wk1 M a x sp qu y).2.1) rF rT rD) = (mW g w h rf nt np mo gb wr nr su pr ob ki fi se (tN M) nd ii ((wk1 M a x sp qu (y + 1)).1) ((wk1 M a x sp qu (y + 1)).2.1) rF rT rD) := by rw [f9]
        rw [e8] at hP
        have hl : lv_has ls 7 [(0, .ref h), (1, .int (nI a)), (2, .int (nI x)), (3, .int (nI ((wk1 M a x sp qu y).2.2))), (4, .int (nI (y + 1)))] := lv_sub hl [1, 2, 3, 4, 0] rfl
        have e8 : ([(0, .ref h), (1, .int (nI a)), (2, .int (nI x)), (3, .int (nI ((wk1 M a x sp qu y).2.2))), (4, .int (nI (y + 1)))] : List (Nat × Value)) = [(0, .ref h), (1, .int (nI a)), (2, .int (nI x)), (3, .int (nI ((wk1 M a x sp qu (y + 1)).2.2))), (4, .int (nI (y + 1)))] := by rw [f9]
        rw [e8] at hl
        exact ih (y + 1) (by omega) (by omega) _ _ ls hP hS hl
      · have c_28 := mt (nI_leI (a := (M (1024 * a + 32 * x + y))) (b := 0) (by omega) (by omega)).mpr (show ¬ (nI (M (1024 * a + 32 * x + y)) ≤ nI 0) from c_28)
        refine lv_aload_n hx hb dX4_walk_31 rfl (lv_at hl 0 rfl) ?_
        refine wd_get (ci := 5) (v := .ref (h + 10)) (C := RX4) (T := TX4) (N := 21) hx hb hts iwX4 hown hK.1 hP (mW_0) rfl 14 (by decide) (hts _ (tg_tail _ tw_440)) (fun _ h9 => h9) rfl dX4_walk_32 ?_
        refine lv_iload hx hb dX4_walk_35 (lv_at hl 4 rfl) ?_
        refine lv_iconst (v := nI 1) hx hb dX4_walk_37 (by decide) ?_
        refine wd_istN hx hb hK.1 hP hS (by omega) 0 (k := y) (mW_10) rfl (by omega) (by decide) dX4_walk_38 (fun H locs hP hS hz => ?_)
        have hP : gP g (mW g w h rf nt np mo gb wr nr su pr ob ki fi se (tN M) nd ii (upd (upd ((wk1 M a x sp qu y).1) y ((-1))) y (nI 1)) ((wk1 M a x sp qu y).2.1) rF rT rD) H := by have h9 : gP g (wd_up (mW g w h rf nt np mo gb wr nr su pr ob ki fi se (tN M) nd ii (upd ((wk1 M a x sp qu y).1) y ((-1))) ((wk1 M a x sp qu y).2.1) rF rT rD) (h + 10) (wd_iA (g.2 0) 32 (upd (upd ((wk1 M a x sp qu y).1) y ((-1))) y (nI 1)))) H := hP; rw [mW_s10] at h9; exact h9
        refine lv_aload_n hx hb dX4_walk_39 rfl (lv_at hl 0 rfl) ?_
        refine wd_get (ci := 5) (v := .ref (h + 11)) (C := RX4) (T := TX4) (N := 21) hx hb hts iwX4 hown hK.1 hP (mW_0) rfl 15 (by decide) (hts _ (tg_tail _ tw_441)) (fun _ h9 => h9) rfl dX4_walk_40 ?_
        refine lv_iload_n hx hb dX4_walk_43 rfl (lv_at hl 3 rfl) ?_
        refine lv_iload hx hb dX4_walk_44 (lv_at hl 4 rfl) ?_
        refine wd_istN hx hb hK.1 hP hS (by omega) 0 (k := ((wk1 M a x sp qu y).2.2)) (mW_11) rfl (by have := (wk1_ok (M := M) (a := a) (x := x) (sp := sp) (qu := qu) y).1; have := cn_le (wk1 M a x sp qu y).1 y; omega) (by decide) dX4_walk_46 (fun H locs hP hS hz => ?_)
        have hP : gP g (mW g w h rf nt np mo gb wr nr su pr ob ki fi se (tN M) nd ii (upd (upd ((wk1 M a x sp qu y).1) y ((-1))) y (nI 1)) (upd ((wk1 M a x sp qu y).2.1) ((wk1 M a x sp qu y).2.2) (nI y)) rF rT rD) H := by have h9 : gP g (wd_up (mW g w h rf nt np mo gb wr nr su pr ob ki fi se (tN M) nd ii (upd (upd ((wk1 M a x sp qu y).1) y ((-1))) y (nI 1)) ((wk1 M a x sp qu y).2.1) rF rT rD) (h + 11) (wd_iA (g.2 0) 32 (upd ((wk1 M a x sp qu y).2.1) ((wk1 M a x sp qu y).2.2) (nI y)))) H := hP; rw [mW_s11] at h9; exact h9
        refine lv_iinc (v := nI ((wk1 M a x sp qu y).2.2 + 1)) (lv' := [(3, .int (nI ((wk1 M a x sp qu y).2.2 + 1))), (0, .ref h), (1, .int (nI a)), (2, .int (nI x)), (4, .int (nI y))]) hx hb dX4_walk_47 hl (k := 3) rfl (nI_1 _) (by decide) rfl (fun ls hl => ?_)
        refine lv_iinc (v := nI (y + 1)) (lv' := [(4, .int (nI (y + 1))), (3, .int (nI ((wk1 M a x sp qu y).2.2 + 1))), (0, .ref h), (1, .int (nI a)), (2, .int (nI x))]) hx hb dX4_walk_50 hl (k := 4) rfl (nI_1 _) (by decide) rfl (fun ls hl => ?_)
        refine lv_goto (tgt := 5) hx hb dX4_walk_53 (by decide) ?_
        have f9 : wk1 M a x sp qu (y + 1) = (upd (upd (wk1 M a x sp qu y).1 y (-1)) y (nI 1), upd (wk1 M a x sp qu y).2.1 (wk1 M a x sp qu y).2.2 (nI y), (wk1 M a x sp qu y).2.2 + 1) := by rw [wk1, if_neg c_28]
        have e8 : (mW g w h rf nt np mo gb wr nr su pr ob ki fi se (tN M) nd ii (upd (upd ((wk1 M a x sp qu y).1) y ((-1))) y (nI 1)) (upd ((wk1 M a x sp qu y).2.1) ((wk1 M a x sp qu y).2.2) (nI y)) rF rT rD) = (mW g w h rf nt np mo gb wr nr su pr ob ki fi se (tN M) nd ii ((wk1 M a x sp qu (y + 1)).1) ((wk1 M a x sp qu (y + 1)).2.1) rF rT rD) := by rw [f9]
        rw [e8] at hP
        have hl : lv_has ls 7 [(0, .ref h), (1, .int (nI a)), (2, .int (nI x)), (3, .int (nI ((wk1 M a x sp qu y).2.2 + 1))), (4, .int (nI (y + 1)))] := lv_sub hl [2, 3, 4, 1, 0] rfl
        have e8 : ([(0, .ref h), (1, .int (nI a)), (2, .int (nI x)), (3, .int (nI ((wk1 M a x sp qu y).2.2 + 1))), (4, .int (nI (y + 1)))] : List (Nat × Value)) = [(0, .ref h), (1, .int (nI a)), (2, .int (nI x)), (3, .int (nI ((wk1 M a x sp qu (y + 1)).2.2))), (4, .int (nI (y + 1)))] := by rw [f9]
        rw [e8] at hl
        exact ih (y + 1) (by omega) (by omega) _ _ ls hP hS hl

set_option maxHeartbeats 4000000 in
set_option maxRecDepth 100000 in
theorem lp_wk2 {p : Program} {l : Launch} {e : Env} {R : Room} {s : State} {m : MethodId} {args : Array Value} {below : List Frame} {meth : Method} {c : Code} {Q : State → Prop} {H0 : Heap} {cells slots : Nat} (g : gX) (s0 : Nat) (w : wd_M) (h : Nat) (hs0 : s0 ≤ h) (rf nt np mo gb wr nr : Int32) (su pr ob ki fi se nd ii rF rT rD : Nat → Int32) (M : Nat → Nat) (hM9 : mB M) (a x z k : Nat) (st : wT) (ha9 : a ≤ 40) (hz9 : z < 32) (hst : ∀ y, y ≤ 32 → wI (wk2 M a z st y)) (hx : p.tables.exec = Jvm.exec) (hb : c.code = cX4_walk) (hml : c.maxLocals = 7) (hown : s.vm.findClass RX4 = some m.cls) (hts : ∀ w ∈ Cond.code yX4_walk cX4_walk 7 (none) :: tg, w.before args s = true) (hK : gK g s) (h0s : s0 ≤ H0.size) (hRm : 1 ≤ R.frames ∧ 23 ≤ R.locals) (hcs : cells + 0 ≤ R.cells ∧ slots + 0 ≤ R.slots)  (kx : ∀ (H : Heap) (locs : List Loc) (ls : Array Slot), gP g (mW g w h rf nt np mo gb wr nr su pr ob ki fi se (tN M) nd ii ((wk2 M a z st 32).1) ((wk2 M a z st 32).2.1) rF rT rD) H → gS s0 H0 H locs → lv_has ls 7 [(0, .ref h), (1, .int (nI a)), (2, .int (nI x)), (3, .int (nI ((wk2 M a z st 32).2.2))), (4, .int (nI k)), (5, .int (nI z)), (6, .int (nI 32))] → W p l e R s m args below meth c H locs cells slots Q (F0 m 139 ls [])) :
    ∀ (n y : Nat), y ≤ 32 → 32 + 1 ≤ y + n → ∀ (H : Heap) (locs : List Loc) (ls : Array Slot), gP g (mW g w h rf nt np mo gb wr nr su pr ob ki fi se (tN M) nd ii ((wk2 M a z st y).1) ((wk2 M a z st y).2.1) rF rT rD) H → gS s0 H0 H locs → lv_has ls 7 [(0, .ref h), (1, .int (nI a)), (2, .int (nI x)), (3, .int (nI ((wk2 M a z st y).2.2))), (4, .int (nI k)), (5, .int (nI z)), (6, .int (nI y))] → W p l e R s m args below meth c H locs cells slots Q (F0 m 77 ls []) := by
  intro n
  induction n with
  | zero =>
    intro y h1 h2
    exact absurd h2 (by omega)
  | succ n ih =>
    intro y hi hin H locs ls hP hS hl
    refine lv_iload hx hb dX4_walk_77 (lv_at hl 6 rfl) ?_
    refine lv_bipush (v := nI 32) hx hb dX4_walk_79 (by decide) ?_
    refine lv_icmp_ge (tgt := 139) hx hb dX4_walk_81 (by decide) (fun c_81 => ?_) (fun c_81 => ?_)
    · have c_81 := (nI_leI (a := 32) (b := y) (by omega) (by omega)).mp c_81
      have e9 : y = 32 := by omega
      try rw [e9] at hP
      try rw [e9] at hl
      exact kx H locs ls hP hS (lv_sub hl [0, 1, 2, 3, 4, 5, 6] rfl)
    · have c_81 := mt (nI_leI (a := 32) (b := y) (by omega) (by omega)).mpr c_81
      refine lv_aload_n hx hb dX4_walk_84 rfl (lv_at hl 0 rfl) ?_
      refine wd_get (ci := 5) (v := .ref (h + 10)) (C := RX4) (T := TX4) (N := 21) hx hb hts iwX4 hown hK.1 hP (mW_0) rfl 14 (by decide) (hts _ (tg_tail _ tw_440)) (fun _ h9 => h9) rfl dX4_walk_85 ?_
      refine lv_iload hx hb dX4_walk_88 (lv_at hl 6 rfl) ?_
      refine wd_ildN hx hb hK.1 hP 0 (k := y) (mW_10) rfl (by omega) (by decide) dX4_walk_90 ?_
      refine lv_if_ge (tgt := 133) hx hb dX4_walk_91 (by decide) (fun c_91 => ?_) (fun c_91 => ?_)
      · refine lv_iinc (v := nI (y + 1)) (lv' := [(6, .int (nI (y + 1))), (0, .ref h), (1, .int (nI a)), (2, .int (nI x)), (3, .int (nI ((wk2 M a z st y).2.2))), (4, .int (nI k)), (5, .int (nI z))]) hx hb dX4_walk_133 hl (k := 6) rfl (nI_1 _) (by decide) rfl (fun ls hl => ?_)
        refine lv_goto (tgt := 77) hx hb dX4_walk_136 (by decide) ?_
        have f9 : wk2 M a z st (y + 1) = wk2 M a z st y := by rw [wk2, if_pos (Or.inl c_91)]
        have e8 : (mW g w h rf nt np mo gb wr nr su pr ob ki fi se (tN M) nd ii ((wk2 M a z st y).1) ((wk2 M a z st y).2.1) rF rT rD) = (mW g w h rf nt np mo gb wr nr su pr ob ki fi se (tN M) nd ii ((wk2 M a z st (y + 1)).1) ((wk2 M a z st (y + 1)).2.1) rF rT rD) := by rw [f9]
        rw [e8] at hP
        have hl : lv_has ls 7 [(0, .ref h), (1, .int (nI a)), (2, .int (nI x)), (3, .int (nI ((wk2 M a z st y).2.2))), (4, .int (nI k)), (5, .int (nI z)), (6, .int (nI (y + 1)))] := lv_sub hl [1, 2, 3, 4, 5, 6, 0] rfl
        have e8 : ([(0, .ref h), (1, .int (nI a)), (2, .int (nI x)), (3, .int (nI ((wk2 M a z st y).2.2))), (4, .int (nI k)), (5, .int (nI z)), (6, .int (nI (y + 1)))] : List (Nat × Value)) = [(0, .ref h), (1, .int (nI a)), (2, .int (nI x)), (3, .int (nI ((wk2 M a z st (y + 1)).2.2))), (4, .int (nI k)), (5, .int (nI z)), (6, .int (nI (y + 1)))] := by rw [f9]
        rw [e8] at hl
        exact ih (y + 1) (by omega) (by omega) _ _ ls hP hS hl
      · refine lv_aload_n hx hb dX4_walk_94 rfl (lv_at hl 0 rfl) ?_
        refine lv_iload_n hx hb dX4_walk_95 rfl (lv_at hl 1 rfl) ?_
        refine lv_iload hx hb dX4_walk_96 (lv_at hl 5 rfl) ?_
        refine lv_iload hx hb dX4_walk_98 (lv_at hl 6 rfl) ?_
        have hm9 := hM9 (1024 * a + 32 * z + y)
        refine cr_Vi (As := [.int (nI a), .int (nI z), .int (nI y)]) (rest := []) ⟨hx, hb, hml, hown, hts⟩ (c_X4_cell l g s0  w h hs0 rf nt np mo gb wr nr su pr ob ki fi se (tN M) nd ii ((wk2 M a z st y).1) ((wk2 M a z st y).2.1) rF rT rD (a) (z) (y) (by omega) (by omega) (by omega)) (cw_V 3 hts tg_tail tw_560 tw_562 tp_28 tw_4 tw_563 rfl rfl (by decide +kernel) ⟨Nat.le_trans (by decide) hRm.1, Nat.le_trans (by decide) hRm.2⟩) hK hP h0s hS (mW_0) rfl rfl rfl hl.1 rfl (Nat.le_of_ble_eq_true rfl) dX4_walk_100 hcs (fun r9 w9 H locs hw hP hS => ?_)
        obtain ⟨e_r9, hw9⟩ := hw
        rw [hw9] at hP
        subst e_r9
        refine wd_ti (x' := nI (M (1024 * a + 32 * z + y))) (rfl) ?_
        refine lv_if_le (tgt := 133) hx hb dX4_walk_103 (by decide) (fun c_103 => ?_) (fun c_103 => ?_)
        · have c_103 := (nI_leI (a := (M (1024 * a + 32 * z + y))) (b := 0) (by omega) (by omega)).mp (show nI (M (1024 * a + 32 * z + y)) ≤ nI 0 from c_103)
          refine lv_iinc (v := nI (y + 1)) (lv' := [(6, .int (nI (y + 1))), (0, .ref h), (1, .int (nI a)), (2, .int (nI x)), (3, .int (nI ((wk2 M a z st y).2.2))), (4, .int (nI k)), (5, .int (nI z))]) hx hb dX4_walk_133 hl (k := 6) rfl (nI_1 _) (by decide) rfl (fun ls hl => ?_)
          refine lv_goto (tgt := 77) hx hb dX4_walk_136 (by decide) ?_
          have f9 : wk2 M a z st (y + 1) = wk2 M a z st y := by rw [wk2, if_pos (Or.inr c_103)]
          have e8 : (mW g w h rf nt np mo gb wr nr su pr ob ki fi se (tN M) nd ii ((wk2 M a z st y).1) ((wk2 M a z st y).2.1) rF rT rD) = (mW g w h rf nt np mo gb wr nr su pr ob ki fi se (tN M) nd ii ((wk2 M a z st (y + 1)).1) ((wk2 M a z st (y + 1)).2.1) rF rT rD) := by rw [f9]
          rw [e8] at hP
          have hl : lv_has ls 7 [(0, .ref h), (1, .int (nI a)), (2, .int (nI x)), (3, .int (nI ((wk2 M a z st y).2.2))), (4, .int (nI k)), (5, .int (nI z)), (6, .int (nI (y + 1)))] := lv_sub hl [1, 2, 3, 4, 5, 6, 0] rfl
          have e8 : ([(0, .ref h), (1, .int (nI a)), (2, .int (nI x)), (3, .int (nI ((wk2 M a z st y).2.2))), (4, .int (nI k)), (5, .int (nI z)), (6, .int (nI (y + 1)))] : List (Nat × Value)) = [(0, .ref h), (1, .int (nI a)), (2, .int (nI x)), (3, .int (nI ((wk2 M a z st (y + 1)).2.2))), (4, .int (nI k)), (5, .int (nI z)), (6, .int (nI (y + 1)))] := by rw [f9]
          rw [e8] at hl
          exact ih (y + 1) (by omega) (by omega) _ _ ls hP hS hl
        · have c_103 := mt (nI_leI (a := (M (1024 * a + 32 * z + y))) (b := 0) (by omega) (by omega)).mpr (show ¬ (nI (M (1024 * a + 32 * z + y)) ≤ nI 0) from c_103)
          refine lv_aload_n hx hb dX4_walk_106 rfl (lv_at hl 0 rfl) ?_
          refine wd_get (ci := 5) (v := .ref (h + 10)) (C := RX4) (T := TX4) (N := 21) hx hb hts iwX4 hown hK.1 hP (mW_0) rfl 14 (by decide) (hts _ (tg_tail _ tw_440)) (fun _ h9 => h9) rfl dX4_walk_107 ?_
          refine lv_iload hx hb dX4_walk_110 (lv_at hl 6 rfl) ?_
          refine lv_aload_n hx hb dX4_walk_112 rfl (lv_at hl 0 rfl) ?_
          refine wd_get (ci := 5) (v := .ref (h + 10)) (C := RX4) (T := TX4) (N := 21) hx hb hts iwX4 hown hK.1 hP (mW_0) rfl 14 (by decide) (hts _ (tg_tail _ tw_440)) (fun _ h9 => h9) rfl dX4_walk_113 ?_
          refine lv_iload hx hb dX4_walk_116 (lv_at hl 5 rfl) ?_
          refine wd_ildN hx hb hK.1 hP 0 (k := z) (mW_10) rfl (by omega) (by decide) dX4_walk_118 ?_
          refine lv_iconst (v := nI 1) hx hb dX4_walk_119 (by decide) ?_
          refine lv_iadd hx hb dX4_walk_120 ?_
          refine wd_ti (x' := (wk2 M a z st y).1 z + nI 1) (rfl) ?_
          refine wd_istN hx hb hK.1 hP hS (by omega) 0 (k := y) (mW_10) rfl (by omega) (by decide) dX4_walk_121 (fun H locs hP hS hz => ?_)
          have hP : gP g (mW g w h rf nt np mo gb wr nr su pr ob ki fi se (tN M) nd ii (upd ((wk2 M a z st y).1) y ((wk2 M a z st y).1 z + nI 1)) ((wk2 M a z st y).2.1) rF rT rD) H := by have h9 : gP g (wd_up (mW g w h rf nt np mo gb wr nr su pr ob ki fi se (tN M) nd ii ((wk2 M a z st y).1) ((wk2 M a z st y).2.1) rF rT rD) (h + 10) (wd_iA (g.2 0) 32 (upd ((wk2 M a z st y).1) y ((wk2 M a z st y).1 z + nI 1)))) H := hP; rw [mW_s10] at h9; exact h9
          refine lv_aload_n hx hb dX4_walk_122 rfl (lv_at hl 0 rfl) ?_
          refine wd_get (ci := 5) (v := .ref (h + 11)) (C := RX4) (T := TX4) (N := 21) hx hb hts iwX4 hown hK.1 hP (mW_0) rfl 15 (by decide) (hts _ (tg_tail _ tw_441)) (fun _ h9 => h9) rfl dX4_walk_123 ?_
          refine lv_iload_n hx hb dX4_walk_126 rfl (lv_at hl 3 rfl) ?_
          refine lv_iload hx hb dX4_walk_127 (lv_at hl 6 rfl) ?_
          refine wd_istN hx hb hK.1 hP hS (by omega) 0 (k := ((wk2 M a z st y).2.2)) (mW_11) rfl ((hst y (by omega)).lt (v := y) (by omega) c_91) (by decide) dX4_walk_129 (fun H locs hP hS hz => ?_)
          have hP : gP g (mW g w h rf nt np mo gb wr nr su pr ob ki fi se (tN M) nd ii (upd ((wk2 M a z st y).1) y ((wk2 M a z st y).1 z + nI 1)) (upd ((wk2 M a z st y).2.1) ((wk2 M a z st y).2.2) (nI y)) rF rT rD) H := by have h9 : gP g (wd_up (mW g w h rf nt np mo gb wr nr su pr ob ki fi se (tN M) nd ii (upd ((wk2 M a z st y).1) y ((wk2 M a z st y).1 z + nI 1)) ((wk2 M a z st y).2.1) rF rT rD) (h + 11) (wd_iA (g.2 0) 32 (upd ((wk2 M a z st y).2.1) ((wk2 M a z st y).2.2) (nI y)))) H := hP; rw [mW_s11] at h9; exact h9
          refine lv_iinc (v := nI ((wk2 M a z st y).2.2 + 1)) (lv' := [(3, .int (nI ((wk2 M a z st y).2.2 + 1))), (0, .ref h), (1, .int (nI a)), (2, .int (nI x)), (4, .int (nI k)), (5, .int (nI z)), (6, .int (nI y))]) hx hb dX4_walk_130 hl (k := 3) rfl (nI_1 _) (by decide) rfl (fun ls hl => ?_)
          refine lv_iinc (v := nI (y + 1)) (lv' := [(6, .int (nI (y + 1))), (3, .int (nI ((wk2 M a z st y).2.2 + 1))), (0, .ref h), (1, .int (nI a)), (2, .int (nI x)), (4, .int (nI k)), (5, .int (nI z))]) hx hb dX4_walk_133 hl (k := 6) rfl (nI_1 _) (by decide) rfl (fun ls hl => ?_)
          refine lv_goto (tgt := 77) hx hb dX4_walk_136 (by decide) ?_
          have f9 : wk2 M a z st (y + 1) = (upd (wk2 M a z st y).1 y ((wk2 M a z st y).1 z + nI 1), upd (wk2 M a z st y).2.1 (wk2 M a z st y).2.2 (nI y), (wk2 M a z st y).2.2 + 1) := by rw [wk2, if_neg (fun q => q.elim c_91 c_103)]
          have e8 : (mW g w h rf nt np mo gb wr nr su pr ob ki fi se (tN M) nd ii (upd ((wk2 M a z st y).1) y ((wk2 M a z st y).1 z + nI 1)) (upd ((wk2 M a z st y).2.1) ((wk2 M a z st y).2.2) (nI y)) rF rT rD) = (mW g w h rf nt np mo gb wr nr su pr ob ki fi se (tN M) nd ii ((wk2 M a z st (y + 1)).1) ((wk2 M a z st (y + 1)).2.1) rF rT rD) := by rw [f9]
          rw [e8] at hP
          have hl : lv_has ls 7 [(0, .ref h), (1, .int (nI a)), (2, .int (nI x)), (3, .int (nI ((wk2 M a z st y).2.2 + 1))), (4, .int (nI k)), (5, .int (nI z)), (6, .int (nI (y + 1)))] := lv_sub hl [2, 3, 4, 1, 5, 6, 0] rfl
          have e8 : ([(0, .ref h), (1, .int (nI a)), (2, .int (nI x)), (3, .int (nI ((wk2 M a z st y).2.2 + 1))), (4, .int (nI k)), (5, .int (nI z)), (6, .int (nI (y + 1)))] : List (Nat × Value)) = [(0, .ref h), (1, .int (nI a)), (2, .int (nI x)), (3, .int (nI ((wk2 M a z st (y + 1)).2.2))), (4, .int (nI k)), (5, .int (nI z)), (6, .int (nI (y + 1)))] := by rw [f9]
          rw [e8] at hl
          exact ih (y + 1) (by omega) (by omega) _ _ ls hP hS hl

set_option maxHeartbeats 4000000 in
set_option maxRecDepth 100000 in
theorem lp_wk3 {p : Program} {l : Launch} {e : Env} {R : Room} {s : State} {m : MethodId} {args : Array Value} {below : List Frame} {meth : Method} {c : Code} {Q : State → Prop} {H0 : Heap} {cells slots : Nat} (g : gX) (s0 : Nat) (w : wd_M) (h : Nat) (hs0 : s0 ≤ h) (rf nt np mo gb wr nr : Int32) (su pr ob ki fi se nd ii rF rT rD : Nat → Int32) (M : Nat → Nat) (hM9 : mB M) (a x : Nat) (st : wT) (ha9 : a ≤ 40) (hst : wI st) (hx : p.tables.exec = Jvm.exec) (hb : c.code = cX4_walk) (hml : c.maxLocals = 7) (hown : s.vm.findClass RX4 = some m.cls) (hts : ∀ w ∈ Cond.code yX4_walk cX4_walk 7 (none) :: tg, w.before args s = true) (hK : gK g s) (h0s : s0 ≤ H0.size) (hRm : 1 ≤ R.frames ∧ 23 ≤ R.locals) (hcs : cells + 0 ≤ R.cells ∧ slots + 0 ≤ R.slots)  (kx : ∀ (H : Heap) (locs : List Loc) (ls : Array Slot), gP g (mW g w h rf nt np mo gb wr nr su pr ob ki fi se (tN M) nd ii ((wk3 M a st 32).1) ((wk3 M a st 32).2.1) rF rT rD) H → gS s0 H0 H locs → lv_has ls 7 [(0, .ref h)] → W p l e R s m args below meth c H locs cells slots Q (F0 m 145 ls [])) :
    ∀ (n k : Nat), k ≤ 32 → 32 + 1 ≤ k + n → ∀ (H : Heap) (locs : List Loc) (ls : Array Slot), gP g (mW g w h rf nt np mo gb wr nr su pr ob ki fi se (tN M) nd ii ((wk3 M a st k).1) ((wk3 M a st k).2.1) rF rT rD) H → gS s0 H0 H locs → lv_has ls 7 [(0, .ref h), (1, .int (nI a)), (2, .int (nI x)), (3, .int (nI ((wk3 M a st k).2.2))), (4, .int (nI k))] → W p l e R s m args below meth c H locs cells slots Q (F0 m 59 ls []) := by
  intro n
  induction n with
  | zero =>
    intro k h1 h2
    exact absurd h2 (by omega)
  | succ n ih =>
    intro k hi hin H locs ls hP hS hl
    have hI := wI_3 (M := M) (a := a) hst k
    have hI3 := hI.le
    refine lv_iload hx hb dX4_walk_59 (lv_at hl 4 rfl) ?_
    refine lv_iload_n hx hb dX4_walk_61 rfl (lv_at hl 3 rfl) ?_
    refine lv_icmp_ge (tgt := 145) hx hb dX4_walk_62 (by decide) (fun c_62 => ?_) (fun c_62 => ?_)
    · have c_62 := (nI_leI (a := ((wk3 M a st k).2.2)) (b := k) (by omega) (by omega)).mp c_62
      have e9 : wk3 M a st 32 = wk3 M a st k := by have h9 := wk3_fix c_62 (32 - k); rw [show k + (32 - k) = 32 by omega] at h9; exact h9
      rw [← e9] at hP
      exact kx H locs ls hP hS (lv_sub hl [0] rfl)
    · have c_62 := mt (nI_leI (a := ((wk3 M a st k).2.2)) (b := k) (by omega) (by omega)).mpr c_62
      refine lv_aload_n hx hb dX4_walk_65 rfl (lv_at hl 0 rfl) ?_
      refine wd_get (ci := 5) (v := .ref (h + 11)) (C := RX4) (T := TX4) (N := 21) hx hb hts iwX4 hown hK.1 hP (mW_0) rfl 15 (by decide) (hts _ (tg_tail _ tw_441)) (fun _ h9 => h9) rfl dX4_walk_66 ?_
      refine lv_iload hx hb dX4_walk_69 (lv_at hl 4 rfl) ?_
      refine wd_ildN hx hb hK.1 hP 0 (k := k) (mW_11) rfl (by omega) (by decide) dX4_walk_71 ?_
      refine wd_ti (x' := nI ((wk3 M a st k).2.1 k).toNatClampNeg) ((wz_ok hI (by omega)).1) ?_
      refine lv_istore (lv' := [(5, .int (nI ((wk3 M a st k).2.1 k).toNatClampNeg)), (0, .ref h), (1, .int (nI a)), (2, .int (nI x)), (3, .int (nI ((wk3 M a st k).2.2))), (4, .int (nI k))]) hx hb dX4_walk_72 hl (by decide) rfl (fun ls hl => ?_)
      refine lv_iconst (v := nI 0) hx hb dX4_walk_74 (by decide) ?_
      refine lv_istore (lv' := [(6, .int (nI 0)), (5, .int (nI ((wk3 M a st k).2.1 k).toNatClampNeg)), (0, .ref h), (1, .int (nI a)), (2, .int (nI x)), (3, .int (nI ((wk3 M a st k).2.2))), (4, .int (nI k))]) hx hb dX4_walk_75 hl (by decide) rfl (fun ls hl => ?_)
      have hz9 := wz_ok hI (k := k) (by omega)
      have e8 : (mW g w h rf nt np mo gb wr nr su pr ob ki fi se (tN M) nd ii ((wk3 M a st k).1) ((wk3 M a st k).2.1) rF rT rD) = (mW g w h rf nt np mo gb wr nr su pr ob ki fi se (tN M) nd ii ((wk2 M a (((wk3 M a st k).2.1 k).toNatClampNeg) (wk3 M a st k) 0).1) ((wk2 M a (((wk3 M a st k).2.1 k).toNatClampNeg) (wk3 M a st k) 0).2.1) rF rT rD) := by rw [wk2]
      rw [e8] at hP
      have hl : lv_has ls 7 [(0, .ref h), (1, .int (nI a)), (2, .int (nI x)), (3, .int (nI ((wk3 M a st k).2.2))), (4, .int (nI k)), (5, .int (nI ((wk3 M a st k).2.1 k).toNatClampNeg)), (6, .int (nI 0))] := lv_sub hl [2, 3, 4, 5, 6, 1, 0] rfl
      have e8 : ([(0, .ref h), (1, .int (nI a)), (2, .int (nI x)), (3, .int (nI ((wk3 M a st k).2.2))), (4, .int (nI k)), (5, .int (nI ((wk3 M a st k).2.1 k).toNatClampNeg)), (6, .int (nI 0))] : List (Nat × Value)) = [(0, .ref h), (1, .int (nI a)), (2, .int (nI x)), (3, .int (nI ((wk2 M a (((wk3 M a st k).2.1 k).toNatClampNeg) (wk3 M a st k) 0).2.2))), (4, .int (nI k)), (5, .int (nI (((wk3 M a st k).2.1 k).toNatClampNeg))), (6, .int (nI 0))] := by rw [wk2]
      rw [e8] at hl
      refine lp_wk2 g s0 w h hs0 rf nt np mo gb wr nr su pr ob ki fi se nd ii rF rT rD M hM9 a x ((wk3 M a st k).2.1 k).toNatClampNeg k (wk3 M a st k) ha9 hz9.2.1 (fun y hy => (wI_2 hI hz9.2.1 hz9.2.2 y hy).1) hx hb hml hown hts hK h0s hRm hcs  ?_ (32 + 1) 0 (by omega) (by omega) _ _ ls hP hS hl
      intro H locs ls hP hS hl
      refine lv_iinc (v := nI (k + 1)) (lv' := [(4, .int (nI (k + 1))), (0, .ref h), (1, .int (nI a)), (2, .int (nI x)), (3, .int (nI ((wk2 M a (((wk3 M a st k).2.1 k).toNatClampNeg) (wk3 M a st k) 32).2.2))), (5, .int (nI (((wk3 M a st k).2.1 k).toNatClampNeg))), (6, .int (nI 32))]) hx hb dX4_walk_139 hl (k := 4) rfl (nI_1 _) (by decide) rfl (fun ls hl => ?_)
      refine lv_goto (tgt := 59) hx hb dX4_walk_142 (by decide) ?_
      have f9 : wk3 M a st (k + 1) = wk2 M a ((wk3 M a st k).2.1 k).toNatClampNeg (wk3 M a st k) 32 := by rw [wk3, if_neg c_62]
      have e8 : (mW g w h rf nt np mo gb wr nr su pr ob ki fi se (tN M) nd ii ((wk2 M a (((wk3 M a st k).2.1 k).toNatClampNeg) (wk3 M a st k) 32).1) ((wk2 M a (((wk3 M a st k).2.1 k).toNatClampNeg) (wk3 M a st k) 32).2.1) rF rT rD) = (mW g w h rf nt np mo gb wr nr su pr ob ki fi se (tN M) nd ii ((wk3 M a st (k + 1)).1) ((wk3 M a st (k + 1)).2.1) rF rT rD) := by rw [f9]
      rw [e8] at hP
      have hl : lv_has ls 7 [(0, .ref h), (1, .int (nI a)), (2, .int (nI x)), (3, .int (nI ((wk2 M a (((wk3 M a st k).2.1 k).toNatClampNeg) (wk3 M a st k) 32).2.2))), (4, .int (nI (k + 1)))] := lv_sub hl [1, 2, 3, 4, 0] rfl
      have e8 : ([(0, .ref h), (1, .int (nI a)), (2, .int (nI x)), (3, .int (nI ((wk2 M a (((wk3 M a st k).2.1 k).toNatClampNeg) (wk3 M a st k) 32).2.2))), (4, .int (nI (k + 1)))] : List (Nat × Value)) = [(0, .ref h), (1, .int (nI a)), (2, .int (nI x)), (3, .int (nI ((wk3 M a st (k + 1)).2.2))), (4, .int (nI (k + 1)))] := by rw [f9]
      rw [e8] at hl
      exact ih (k + 1) (by omega) (by omega) _ _ ls hP hS hl

set_option maxHeartbeats 4000000 in
set_option maxRecDepth 100000 in
theorem c_X4_walk (l : Launch) (g : gX) (s0 : Nat) (w : wd_M) (h : Nat) (hs0 : s0 ≤ h) (rf nt np mo gb wr nr : Int32) (su pr ob ki fi se nd ii sp qu rF rT rD : Nat → Int32) (M : Nat → Nat) (hM9 : mB M) (a x : Nat) (ha9 : a ≤ 40) (hx1 : x < 32) : Met l yX4_walk (Cond.code yX4_walk cX4_walk 7 (none) :: tg) ({ frames := 1, cells := 0, slots := 0, locals := 23 }) (cP g s0 (mW g w h rf nt np mo gb wr nr su pr ob ki fi se (tN M) nd ii sp qu rF rT rD) [.ref h, .int (nI a), .int (nI x)]) (cV g s0 (fun w' => w' = (mW g w h rf nt np mo gb wr nr su pr ob ki fi se (tN M) nd ii ((wkF M a x sp qu).1) ((wkF M a x sp qu).2.1) rF rT rD))) 0 0 (cA s0) := by
  refine Met.ofW (cc := cX4_walk) (maxL := 7) (ret := none) (by decide) rfl ?_
  intro p e s m args below meth c s₁ B9 hml hv
  obtain ⟨rfl, h0s, hP, hK⟩ := hv
  have hx := B9.exec
  have hb := B9.bytes
  have hr := B9.returns
  have hts := atoms_spec (ws := Cond.code yX4_walk cX4_walk 7 (none) :: tg) B9.pre
  have hown : s.vm.findClass RX4 = some m.cls := findClass_of_methodNamed B9.named
  have hlocks := B9.notSynchronized
  have hS : gS s0 s.heap s.heap [] := va_S.rf
  have hRm : 1 ≤ (headSpec (Cond.code yX4_walk cX4_walk 7 (none) :: tg) ({ frames := 1, cells := 0, slots := 0, locals := 23 })).room.frames ∧ 23 ≤ (headSpec (Cond.code yX4_walk cX4_walk 7 (none) :: tg) ({ frames := 1, cells := 0, slots := 0, locals := 23 })).room.locals := ⟨Nat.le_refl _, Nat.le_refl _⟩
  have hcs : 0 + 0 ≤ (headSpec (Cond.code yX4_walk cX4_walk 7 (none) :: tg) ({ frames := 1, cells := 0, slots := 0, locals := 23 })).room.cells ∧ 0 + 0 ≤ (headSpec (Cond.code yX4_walk cX4_walk 7 (none) :: tg) ({ frames := 1, cells := 0, slots := 0, locals := 23 })).room.slots := ⟨Nat.zero_le _, Nat.zero_le _⟩
  have hl := lv_entry ([.ref h, .int (nI a), .int (nI x)]) (n := 7) (Nat.le_of_ble_eq_true rfl)
  rw [lg_entry_eq]
  generalize (lg_sl ([.ref h, .int (nI a), .int (nI x)]) ++ List.replicate (7 - (lg_sl ([.ref h, .int (nI a), .int (nI x)])).length) Slot.unset).toArray = ls at hl ⊢
  have hl : lv_has ls 7 [(0, .ref h), (1, .int (nI a)), (2, .int (nI x))] := hl
  refine lv_iconst (v := nI 0) hx hb dX4_walk_0 (by decide) ?_
  refine lv_istore_n (lv' := [(3, .int (nI 0)), (0, .ref h), (1, .int (nI a)), (2, .int (nI x))]) hx hb dX4_walk_1 rfl hl (by decide) rfl (fun ls hl => ?_)
  refine lv_iconst (v := nI 0) hx hb dX4_walk_2 (by decide) ?_
  refine lv_istore (lv' := [(4, .int (nI 0)), (3, .int (nI 0)), (0, .ref h), (1, .int (nI a)), (2, .int (nI x))]) hx hb dX4_walk_3 hl (by decide) rfl (fun ls hl => ?_)
  have e8 : (mW g w h rf nt np mo gb wr nr su pr ob ki fi se (tN M) nd ii sp qu rF rT rD) = (mW g w h rf nt np mo gb wr nr su pr ob ki fi se (tN M) nd ii ((wk1 M a x sp qu 0).1) ((wk1 M a x sp qu 0).2.1) rF rT rD) := by rw [wk1]
  rw [e8] at hP
  have hl : lv_has ls 7 [(0, .ref h), (1, .int (nI a)), (2, .int (nI x)), (3, .int (nI 0)), (4, .int (nI 0))] := lv_sub hl [2, 3, 4, 1, 0] rfl
  have e8 : ([(0, .ref h), (1, .int (nI a)), (2, .int (nI x)), (3, .int (nI 0)), (4, .int (nI 0))] : List (Nat × Value)) = [(0, .ref h), (1, .int (nI a)), (2, .int (nI x)), (3, .int (nI ((wk1 M a x sp qu 0).2.2))), (4, .int (nI 0))] := by rw [wk1]
  rw [e8] at hl
  refine lp_wk1 g s0 w h hs0 rf nt np mo gb wr nr su pr ob ki fi se nd ii sp qu rF rT rD M hM9 a x ha9 hx1 hx hb hml hown hts hK h0s hRm hcs  ?_ (32 + 1) 0 (by omega) (by omega) _ _ ls hP hS hl
  intro H locs ls hP hS hl
  refine lv_iconst (v := nI 0) hx hb dX4_walk_56 (by decide) ?_
  refine lv_istore (lv' := [(4, .int (nI 0)), (0, .ref h), (1, .int (nI a)), (2, .int (nI x)), (3, .int (nI ((wk1 M a x sp qu 32).2.2)))]) hx hb dX4_walk_57 hl (by decide) rfl (fun ls hl => ?_)
  have e8 : (mW g w h rf nt np mo gb wr nr su pr ob ki fi se (tN M) nd ii ((wk1 M a x sp qu 32).1) ((wk1 M a x sp qu 32).2.1) rF rT rD) = (mW g w h rf nt np mo gb wr nr su pr ob ki fi se (tN M) nd ii ((wk3 M a (wk1 M a x sp qu 32) 0).1) ((wk3 M a (wk1 M a x sp qu 32) 0).2.1) rF rT rD) := by rw [wk3]
  rw [e8] at hP
  have hl : lv_has ls 7 [(0, .ref h), (1, .int (nI a)), (2, .int (nI x)), (3, .int (nI ((wk1 M a x sp qu 32).2.2))), (4, .int (nI 0))] := lv_sub hl [1, 2, 3, 4, 0] rfl
  have e8 : ([(0, .ref h), (1, .int (nI a)), (2, .int (nI x)), (3, .int (nI ((wk1 M a x sp qu 32).2.2))), (4, .int (nI 0))] : List (Nat × Value)) = [(0, .ref h), (1, .int (nI a)), (2, .int (nI x)), (3, .int (nI ((wk3 M a (wk1 M a x sp qu 32) 0).2.2))), (4, .int (nI 0))] := by rw [wk3]
  rw [e8] at hl
  refine lp_wk3 g s0 w h hs0 rf nt np mo gb wr nr su pr ob ki fi se nd ii rF rT rD M hM9 a x (wk1 M a x sp qu 32) ha9 wI_1 hx hb hml hown hts hK h0s hRm hcs  ?_ (32 + 1) 0 (by omega) (by omega) _ _ ls hP hS hl
  intro H locs ls hP hS hl
  exact W.vret hx hb hr (fun t ht hW => ⟨⟨(mW g w h rf nt np mo gb wr nr su pr ob ki fi se (tN M) nd ii ((wk3 M a (wk1 M a x sp qu 32) 32).1) ((wk3 M a (wk1 M a x sp qu 32) 32).2.1) rF rT rD), rfl, by rw [wkF], cB_of ht hP⟩, hS.F ht⟩) hS.2.2 dX4_walk_145
end
section
/-! THE REFERENCE: makeWalks, makeTable -/
def mw2 (ki ii sp : Nat → Int32) (u x : Nat) (t : (Nat → Nat) × Nat) : Nat → (Nat → Nat) × Nat
  | 0 => t
  | y + 1 => if 0 < sp y ∨ (ki u = nI 4 ∧ x = y ∧ ¬ ii x = 0) then (va_up (mw2 ki ii sp u x t y).1 (1024 * u + 32 * x + y) (min 1 1000000), (mw2 ki ii sp u x t y).2 + 1) else (va_up (mw2 ki ii sp u x t y).1 (1024 * u + 32 * x + y) (min 0 1000000), (mw2 ki ii sp u x t y).2)
termination_by y => y
theorem mw2_B {ki ii sp : Nat → Int32} {u x : Nat} {t : (Nat → Nat) × Nat} (h : mB t.1) : ∀ y, mB (mw2 ki ii sp u x t y).1 := by
  intro y
  induction y with
  | zero => rw [mw2]; exact h
  | succ y ih => rw [mw2]; split <;> exact mB_up ih
abbrev mT : Type := (Nat → Nat) × (Nat → Int32) × (Nat → Int32) × Nat
def mwS (ki ii : Nat → Int32) (u a : Nat) (t : mT) (x : Nat) : mT := ((mw2 ki ii (wkF t.1 a x t.2.1 t.2.2.1).1 u x (t.1, t.2.2.2) 32).1, (wkF t.1 a x t.2.1 t.2.2.1).1, (wkF t.1 a x t.2.1 t.2.2.1).2.1, (mw2 ki ii (wkF t.1 a x t.2.1 t.2.2.1).1 u x (t.1, t.2.2.2) 32).2)
def mw1 (ki ii : Nat → Int32) (u a : Nat) (M : Nat → Nat) (sp qu : Nat → Int32) : Nat → mT
  | 0 => (M, sp, qu, 0)
  | x + 1 => mwS ki ii u a (mw1 ki ii u a M sp qu x) x
termination_by x => x
theorem mw1_B {ki ii sp qu : Nat → Int32} {u a : Nat} {M : Nat → Nat} (h : mB M) : ∀ x, mB (mw1 ki ii u a M sp qu x).1 := by
  intro x
  induction x with
  | zero => rw [mw1]; exact h
  | succ x ih => rw [mw1, mwS]; exact mw2_B ih 32
def mt0 (M : Nat → Nat) (u : Nat) : Nat → Nat → Nat
  | 0 => M
  | k + 1 => va_up (mt0 M u k) (1024 * u + k) 0
termination_by k => k
theorem mt0_B {M : Nat → Nat} {u : Nat} (h : mB M) : ∀ k, mB (mt0 M u k) := by
  intro k
  induction k with
  | zero => rw [mt0]; exact h
  | succ k ih => rw [mt0]; exact mB_up (v := 0) ih
def jf2 (kd : Nat) (ii : Nat → Int32) (a b u x : Nat) (M : Nat → Nat) : Nat → Nat → Nat
  | 0 => M
  | y + 1 => va_up (jf2 kd ii a b u x M y) (1024 * u + 32 * x + y) (min (jn kd (jf2 kd ii a b u x M y) ii a b x y) 1000000)
termination_by y => y
theorem jf2_B {kd : Nat} {ii : Nat → Int32} {a b u x : Nat} {M : Nat → Nat} (h : mB M) : ∀ y, mB (jf2 kd ii a b u x M y) := by
  intro y
  induction y with
  | zero => rw [jf2]; exact h
  | succ y ih => rw [jf2]; exact mB_up ih
def jf1 (kd : Nat) (ii : Nat → Int32) (a b u : Nat) (M : Nat → Nat) : Nat → Nat → Nat
  | 0 => M
  | x + 1 => jf2 kd ii a b u x (jf1 kd ii a b u M x) 32
termination_by x => x
theorem jf1_B {kd : Nat} {ii : Nat → Int32} {a b u : Nat} {M : Nat → Nat} (h : mB M) : ∀ x, mB (jf1 kd ii a b u M x) := by
  intro x
  induction x with
  | zero => rw [jf1]; exact h
  | succ x ih => rw [jf1]; exact jf2_B ih 32
abbrev mS : Type := (Nat → Nat) × (Nat → Int32) × (Nat → Int32) × Int32
/-- what makeTable leaves: table, steps, queue, goesBeyond -/
def mkT (ki fi se pr ii : Nat → Int32) (S O : Nat → Nat) (T : Nat) (mo : Int32) (kd u a b : Nat) (t : mS) : mS :=
  if kd = 0 ∨ kd = 7 then (ml ki fi se pr S O u (mt0 t.1 u 1024) T, t.2.1, t.2.2.1, t.2.2.2)
  else if kd = 4 ∨ kd = 5 then ((mw1 ki ii u a (mt0 t.1 u 1024) t.2.1 t.2.2.1 32).1, (mw1 ki ii u a (mt0 t.1 u 1024) t.2.1 t.2.2.1 32).2.1, (mw1 ki ii u a (mt0 t.1 u 1024) t.2.1 t.2.2.1 32).2.2.1, zB (¬ t.2.2.2 = 0 ∨ ¬ nI (mw1 ki ii u a (mt0 t.1 u 1024) t.2.1 t.2.2.1 32).2.2.2 ≤ mo))
  else (jf1 kd ii a b u (mt0 t.1 u 1024) 32, t.2.1, t.2.2.1, t.2.2.2)
theorem pj_1 {α β γ δ : Type} (a : α) (b : β) (c : γ) (d : δ) : ((a, b, c, d) : α × β × γ × δ).1 = a := rfl
theorem pj_2 {α β γ δ : Type} (a : α) (b : β) (c : γ) (d : δ) : ((a, b, c, d) : α × β × γ × δ).2.1 = b := rfl
theorem pj_3 {α β γ δ : Type} (a : α) (b : β) (c : γ) (d : δ) : ((a, b, c, d) : α × β × γ × δ).2.2.1 = c := rfl
theorem pj_4 {α β γ δ : Type} (a : α) (b : β) (c : γ) (d : δ) : ((a, b, c, d) : α × β × γ × δ).2.2.2 = d := rfl
theorem mB_of {X Y : Nat → Nat} (e : X = Y) (h : mB Y) : mB X := e ▸ h
theorem mkT_l {ki fi se pr ii : Nat → Int32} {S O : Nat → Nat} {T : Nat} {mo : Int32} {kd u a b : Nat} {t : mS} (c1 : kd = 0 ∨ kd = 7) : mkT ki fi se pr ii S O T mo kd u a b t = (ml ki fi se pr S O u (mt0 t.1 u 1024) T, t.2.1, t.2.2.1, t.2.2.2) := by
  unfold mkT
  exact if_pos c1
theorem mkT_w {ki fi se pr ii : Nat → Int32} {S O : Nat → Nat} {T : Nat} {mo : Int32} {kd u a b : Nat} {t : mS} (c1 : ¬ (kd = 0 ∨ kd = 7)) (c2 : kd = 4 ∨ kd = 5) : mkT ki fi se pr ii S O T mo kd u a b t = ((mw1 ki ii u a (mt0 t.1 u 1024) t.2.1 t.2.2.1 32).1, (mw1 ki ii u a (mt0 t.1 u 1024) t.2.1 t.2.2.1 32).2.1, (mw1 ki ii u a (mt0 t.1 u 1024) t.2.1 t.2.2.1 32).2.2.1, zB (¬ t.2.2.2 = 0 ∨ ¬ nI (mw1 ki ii u a (mt0 t.1 u 1024) t.2.1 t.2.2.1 32).2.2.2 ≤ mo)) := by
  unfold mkT
  exact (if_neg c1).trans (if_pos c2)
theorem mkT_j {ki fi se pr ii : Nat → Int32} {S O : Nat → Nat} {T : Nat} {mo : Int32} {kd u a b : Nat} {t : mS} (c1 : ¬ (kd = 0 ∨ kd = 7)) (c2 : ¬ (kd = 4 ∨ kd = 5)) : mkT ki fi se pr ii S O T mo kd u a b t = (jf1 kd ii a b u (mt0 t.1 u 1024) 32, t.2.1, t.2.2.1, t.2.2.2) := by
  unfold mkT
  exact (if_neg c1).trans (if_neg c2)
theorem mkT_B {ki fi se pr ii : Nat → Int32} {S O : Nat → Nat} {T : Nat} {mo : Int32} {kd u a b : Nat} {t : mS} (h : mB t.1) : mB (mkT ki fi se pr ii S O T mo kd u a b t).1 := by
  have h1 := mt0_B (u := u) h 1024
  by_cases c1 : kd = 0 ∨ kd = 7
  · exact mB_of ((congrArg Prod.fst (mkT_l c1)).trans (pj_1 _ _ _ _)) (ml_le h1 T)
  · by_cases c2 : kd = 4 ∨ kd = 5
    · exact mB_of ((congrArg Prod.fst (mkT_w c1 c2)).trans (pj_1 _ _ _ _)) (mw1_B h1 32)
    · exact mB_of ((congrArg Prod.fst (mkT_j c1 c2)).trans (pj_1 _ _ _ _)) (jf1_B h1 32)
set_option maxHeartbeats 4000000 in
set_option maxRecDepth 100000 in
theorem lp_mw2 {p : Program} {l : Launch} {e : Env} {R : Room} {s : State} {m : MethodId} {args : Array Value} {below : List Frame} {meth : Method} {c : Code} {Q : State → Prop} {H0 : Heap} {cells slots : Nat} (g : gX) (s0 : Nat) (w : wd_M) (h : Nat) (hs0 : s0 ≤ h) (rf nt np mo gb wr nr : Int32) (su pr ob ki fi se nd ii sp qu rF rT rD : Nat → Int32) (u x : Nat) (hu : u ≤ 40) (hx1 : x < 32) (t : (Nat → Nat) × Nat) (hx : p.tables.exec = Jvm.exec) (hb : c.code = cX4_makeWalks) (hml : c.maxLocals = 6) (hown : s.vm.findClass RX4 = some m.cls) (hts : ∀ w ∈ Cond.code yX4_makeWalks cX4_makeWalks 6 (none) :: tg, w.before args s = true) (hK : gK g s) (h0s : s0 ≤ H0.size) (hRm : 2 ≤ R.frames ∧ 49 ≤ R.locals) (hcs : cells + 0 ≤ R.cells ∧ slots + 0 ≤ R.slots)  (kx : ∀ (H : Heap) (locs : List Loc) (ls : Array Slot), gP g (mW g w h rf nt np mo gb wr nr su pr ob ki fi se (tN (mw2 ki ii sp u x t 32).1) nd ii sp qu rF rT rD) H → gS s0 H0 H locs → lv_has ls 6 [(0, .ref h), (1, .int (nI u)), (2, .int (nI ((mw2 ki ii sp u x t 32).2))), (3, .int (nI x)), (4, .int (nI 32))] → W p l e R s m args below meth c H locs cells slots Q (F0 m 110 ls [])) :
    ∀ (n y : Nat), y ≤ 32 → 32 + 1 ≤ y + n → ∀ (H : Heap) (locs : List Loc) (ls : Array Slot), gP g (mW g w h rf nt np mo gb wr nr su pr ob ki fi se (tN (mw2 ki ii sp u x t y).1) nd ii sp qu rF rT rD) H → gS s0 H0 H locs → lv_has ls 6 [(0, .ref h), (1, .int (nI u)), (2, .int (nI ((mw2 ki ii sp u x t y).2))), (3, .int (nI x)), (4, .int (nI y))] → W p l e R s m args below meth c H locs cells slots Q (F0 m 24 ls []) := by
  intro n
  induction n with
  | zero =>
    intro y h1 h2
    exact absurd h2 (by omega)
  | succ n ih =>
    intro y hi hin H locs ls hP hS hl
    refine lv_iload hx hb dX4_makeWalks_24 (lv_at hl 4 rfl) ?_
    refine lv_bipush (v := nI 32) hx hb dX4_makeWalks_26 (by decide) ?_
    refine lv_icmp_ge (tgt := 110) hx hb dX4_makeWalks_28 (by decide) (fun c_28 => ?_) (fun c_28 => ?_)
    · have c_28 := (nI_leI (a := 32) (b := y) (by omega) (by omega)).mp c_28
      have e9 : y = 32 := by omega
      try rw [e9] at hP
      try rw [e9] at hl
      exact kx H locs ls hP hS (lv_sub hl [0, 1, 2, 3, 4] rfl)
    · have c_28 := mt (nI_leI (a := 32) (b := y) (by omega) (by omega)).mpr c_28
      refine lv_aload_n hx hb dX4_makeWalks_31 rfl (lv_at hl 0 rfl) ?_
      refine wd_get (ci := 5) (v := .ref (h + 10)) (C := RX4) (T := TX4) (N := 21) hx hb hts iwX4 hown hK.1 hP (mW_0) rfl 14 (by decide) (hts _ (tg_tail _ tw_440)) (fun _ h9 => h9) rfl dX4_makeWalks_32 ?_
      refine lv_iload hx hb dX4_makeWalks_35 (lv_at hl 4 rfl) ?_
      refine wd_ildN hx hb hK.1 hP 0 (k := y) (mW_10) rfl (by omega) (by decide) dX4_makeWalks_37 ?_
      refine lv_if_gt (tgt := 66) hx hb dX4_makeWalks_38 (by decide) (fun c_38 => ?_) (fun c_38 => ?_)
      · refine lv_iconst (v := nI 1) hx hb dX4_makeWalks_66 (by decide) ?_
        refine lv_goto (tgt := 71) hx hb dX4_makeWalks_67 (by decide) ?_
        refine lv_istore (lv' := [(5, .int (nI 1)), (0, .ref h), (1, .int (nI u)), (2, .int (nI ((mw2 ki ii sp u x t y).2))), (3, .int (nI x)), (4, .int (nI y))]) hx hb dX4_makeWalks_71 hl (by decide) rfl (fun ls hl => ?_)
        refine lv_aload_n hx hb dX4_makeWalks_73 rfl (lv_at hl 1 rfl) ?_
        refine lv_iload_n hx hb dX4_makeWalks_74 rfl (lv_at hl 2 rfl) ?_
        refine lv_iload_n hx hb dX4_makeWalks_75 rfl (lv_at hl 4 rfl) ?_
        refine lv_iload hx hb dX4_makeWalks_76 (lv_at hl 5 rfl) ?_
        refine lv_iload hx hb dX4_makeWalks_78 (lv_at hl 0 rfl) ?_
        refine lv_if_eq (tgt := 87) hx hb dX4_makeWalks_80 (by decide) (fun c_80 => ?_) (fun c_80 => ?_)
        · have c_80 := (nI_eq (a := 1) (b := 0) (by omega) (by omega)).mp (show nI 1 = nI 0 from c_80)
          exact absurd c_80 (by decide)
        · have c_80 := mt (nI_eq (a := 1) (b := 0) (by omega) (by omega)).mpr (show ¬ (nI 1 = nI 0) from c_80)
          refine lv_lconst (v := lN 1) hx hb dX4_makeWalks_83 (by decide) ?_
          refine lv_goto (tgt := 88) hx hb dX4_makeWalks_84 (by decide) ?_
          refine cr_Vv (As := [.int (nI u), .int (nI x), .int (nI y), .long (lN 1)]) (rest := []) ⟨hx, hb, hml, hown, hts⟩ (c_X4_put l g s0  w h hs0 rf nt np mo gb wr nr su pr ob ki fi se (tN (mw2 ki ii sp u x t y).1) nd ii sp qu rF rT rD (u) (x) (y) (1) (by omega) (by omega) (by omega) (by decide)) (cw_V 4 hts tg_tail tw_564 tw_566 tp_29 tw_4 tw_567 rfl rfl (by decide +kernel) ⟨Nat.le_trans (by decide) hRm.1, Nat.le_trans (by decide) hRm.2⟩) hK hP h0s hS (mW_0) rfl rfl rfl hl.1 rfl (Nat.le_of_ble_eq_true rfl) dX4_makeWalks_88 hcs (fun w9 H locs hw hP hS => ?_)
          rw [hw, tN_up] at hP
          refine lv_iload hx hb dX4_makeWalks_91 (lv_at hl 0 rfl) ?_
          refine lv_if_eq (tgt := 102) hx hb dX4_makeWalks_93 (by decide) (fun c_93 => ?_) (fun c_93 => ?_)
          · have c_93 := (nI_eq (a := 1) (b := 0) (by omega) (by omega)).mp (show nI 1 = nI 0 from c_93)
            exact absurd c_93 (by decide)
          · have c_93 := mt (nI_eq (a := 1) (b := 0) (by omega) (by omega)).mpr (show ¬ (nI 1 = nI 0) from c_93)
            refine lv_iload_n hx hb dX4_makeWalks_96 rfl (lv_at hl 3 rfl) ?_
            refine lv_iconst (v := nI 1) hx hb dX4_makeWalks_97 (by decide) ?_
            refine lv_iadd hx hb dX4_makeWalks_98 ?_
            refine wd_ti (x' := nI (((mw2 ki ii sp u x t y).2) + 1)) (nI_add _ _) ?_
            refine lv_goto (tgt := 103) hx hb dX4_makeWalks_99 (by decide) ?_
            refine lv_istore_n (lv' := [(2, .int (nI (((mw2 ki ii sp u x t y).2) + 1))), (5, .int (nI 1)), (0, .ref h), (1, .int (nI u)), (3, .int (nI x)), (4, .int (nI y))]) hx hb dX4_makeWalks_103 rfl hl (by decide) rfl (fun ls hl => ?_)
            refine lv_iinc (v := nI (y + 1)) (lv' := [(4, .int (nI (y + 1))), (2, .int (nI (((mw2 ki ii sp u x t y).2) + 1))), (5, .int (nI 1)), (0, .ref h), (1, .int (nI u)), (3, .int (nI x))]) hx hb dX4_makeWalks_104 hl (k := 5) rfl (nI_1 _) (by decide) rfl (fun ls hl => ?_)
            refine lv_goto (tgt := 24) hx hb dX4_makeWalks_107 (by decide) ?_
            have f9 : mw2 ki ii sp u x t (y + 1) = (va_up (mw2 ki ii sp u x t y).1 (1024 * u + 32 * x + y) (min 1 1000000), (mw2 ki ii sp u x t y).2 + 1) := by rw [mw2, if_pos (by clear hts hP hK hx hb hown hS hRm hcs hl ih; grind)]
            have e8 : (mW g w h rf nt np mo gb wr nr su pr ob ki fi se (tN (va_up ((mw2 ki ii sp u x t y).1) (1024 * u + 32 * x + y) (min (1) 1000000))) nd ii sp qu rF rT rD) = (mW g w h rf nt np mo gb wr nr su pr ob ki fi se (tN (mw2 ki ii sp u x t (y + 1)).1) nd ii sp qu rF rT rD) := by rw [f9]
            rw [e8] at hP
            have hl : lv_has ls 6 [(0, .ref h), (1, .int (nI u)), (2, .int (nI (((mw2 ki ii sp u x t y).2) + 1))), (3, .int (nI x)), (4, .int (nI (y + 1)))] := lv_sub hl [3, 4, 1, 5, 0] rfl
            have e8 : ([(0, .ref h), (1, .int (nI u)), (2, .int (nI (((mw2 ki ii sp u x t y).2) + 1))), (3, .int (nI x)), (4, .int (nI (y + 1)))] : List (Nat × Value)) = [(0, .ref h), (1, .int (nI u)), (2, .int (nI ((mw2 ki ii sp u x t (y + 1)).2))), (3, .int (nI x)), (4, .int (nI (y + 1)))] := by rw [f9]
            rw [e8] at hl
            exact ih (y + 1) (by omega) (by omega) _ _ ls hP hS hl
      · refine lv_aload_n hx hb dX4_makeWalks_41 rfl (lv_at hl 0 rfl) ?_
        refine wd_get (ci := 5) (v := .ref (h + 4)) (C := RX4) (T := TX4) (N := 21) hx hb hts iwX4 hown hK.1 hP (mW_0) rfl 5 (by decide) (hts _ (tg_tail _ tw_431)) (fun _ h9 => h9) rfl dX4_makeWalks_42 ?_
        refine lv_iload_n hx hb dX4_makeWalks_45 rfl (lv_at hl 1 rfl) ?_
        refine wd_ildN hx hb hK.1 hP 0 (k := u) (mW_4) rfl (by omega) (by decide) dX4_makeWalks_46 ?_
        refine lv_iconst (v := nI 4) hx hb dX4_makeWalks_47 (by decide) ?_
        refine lv_icmp_ne (tgt := 70) hx hb dX4_makeWalks_48 (by decide) (fun c_48 => ?_) (fun c_48 => ?_)
        · refine lv_iconst (v := nI 0) hx hb dX4_makeWalks_70 (by decide) ?_
          refine lv_istore (lv' := [(5, .int (nI 0)), (0, .ref h), (1, .int (nI u)), (2, .int (nI ((mw2 ki ii sp u x t y).2))), (3, .int (nI x)), (4, .int (nI y))]) hx hb dX4_makeWalks_71 hl (by decide) rfl (fun ls hl => ?_)
          refine lv_aload_n hx hb dX4_makeWalks_73 rfl (lv_at hl 1 rfl) ?_
          refine lv_iload_n hx hb dX4_makeWalks_74 rfl (lv_at hl 2 rfl) ?_
          refine lv_iload_n hx hb dX4_makeWalks_75 rfl (lv_at hl 4 rfl) ?_
          refine lv_iload hx hb dX4_makeWalks_76 (lv_at hl 5 rfl) ?_
          refine lv_iload hx hb dX4_makeWalks_78 (lv_at hl 0 rfl) ?_
          refine lv_if_eq (tgt := 87) hx hb dX4_makeWalks_80 (by decide) (fun c_80 => ?_) (fun c_80 => ?_)
          · have c_80 := (nI_eq (a := 0) (b := 0) (by omega) (by omega)).mp (show nI 0 = nI 0 from c_80)
            refine lv_lconst (v := lN 0) hx hb dX4_makeWalks_87 (by decide) ?_
            refine cr_Vv (As := [.int (nI u), .int (nI x), .int (nI y), .long (lN 0)]) (rest := []) ⟨hx, hb, hml, hown, hts⟩ (c_X4_put l g s0  w h hs0 rf nt np mo gb wr nr su pr ob ki fi se (tN (mw2 ki ii sp u x t y).1) nd ii sp qu rF rT rD (u) (x) (y) (0) (by omega) (by omega) (by omega) (by decide)) (cw_V 4 hts tg_tail tw_564 tw_566 tp_29 tw_4 tw_567 rfl rfl (by decide +kernel) ⟨Nat.le_trans (by decide) hRm.1, Nat.le_trans (by decide) hRm.2⟩) hK hP h0s hS (mW_0) rfl rfl rfl hl.1 rfl (Nat.le_of_ble_eq_true rfl) dX4_makeWalks_88 hcs (fun w9 H locs hw hP hS => ?_)
            rw [hw, tN_up] at hP
            refine lv_iload hx hb dX4_makeWalks_91 (lv_at hl 0 rfl) ?_
            refine lv_if_eq (tgt := 102) hx hb dX4_makeWalks_93 (by decide) (fun c_93 => ?_) (fun c_93 => ?_)
            · have c_93 := (nI_eq (a := 0) (b := 0) (by omega) (by omega)).mp (show nI 0 = nI 0 from c_93)
              refine lv_iload_n hx hb dX4_makeWalks_102 rfl (lv_at hl 3 rfl) ?_
              refine lv_istore_n (lv' := [(2, .int (nI ((mw2 ki ii sp u x t y).2))), (5, .int (nI 0)), (0, .ref h), (1, .int (nI u)), (3, .int (nI x)), (4, .int (nI y))]) hx hb dX4_makeWalks_103 rfl hl (by decide) rfl (fun ls hl => ?_)
              refine lv_iinc (v := nI (y + 1)) (lv' := [(4, .int (nI (y + 1))), (2, .int (nI ((mw2 ki ii sp u x t y).2))), (5, .int (nI 0)), (0, .ref h), (1, .int (nI u)), (3, .int (nI x))]) hx hb dX4_makeWalks_104 hl (k := 5) rfl (nI_1 _) (by decide) rfl (fun ls hl => ?_)
              refine lv_goto (tgt := 24) hx hb dX4_makeWalks_107 (by decide) ?_
              have f9 : mw2 ki ii sp u x t (y + 1) = (va_up (mw2 ki ii sp u x t y).1 (1024 * u + 32 * x + y) (min 0 1000000), (mw2 ki ii sp u x t y).2) := by rw [mw2, if_neg (by clear hts hP hK hx hb hown hS hRm hcs hl ih; grind)]
              have e8 : (mW g w h rf nt np mo gb wr nr su pr ob ki fi se (tN (va_up ((mw2 ki ii sp u x t y).1) (1024 * u + 32 * x + y) (min (0) 1000000))) nd ii sp qu rF rT rD) = (mW g w h rf nt np mo gb wr nr su pr ob ki fi se (tN (mw2 ki ii sp u x t (y + 1)).1) nd ii sp qu rF rT rD) := by rw [f9]
              rw [e8] at hP
              have hl : lv_has ls 6 [(0, .ref h), (1, .int (nI u)), (2, .int (nI ((mw2 ki ii sp u x t y).2))), (3, .int (nI x)), (4, .int (nI (y + 1)))] := lv_sub hl [3, 4, 1, 5, 0] rfl
              have e8 : ([(0, .ref h), (1, .int (nI u)), (2, .int (nI ((mw2 ki ii sp u x t y).2))), (3, .int (nI x)), (4, .int (nI (y + 1)))] : List (Nat × Value)) = [(0, .ref h), (1, .int (nI u)), (2, .int (nI ((mw2 ki ii sp u x t (y + 1)).2))), (3, .int (nI x)), (4, .int (nI (y + 1)))] := by rw [f9]
              rw [e8] at hl
              exact ih (y + 1) (by omega) (by omega) _ _ ls hP hS hl
            · have c_93 := mt (nI_eq (a := 0) (b := 0) (by omega) (by omega)).mpr (show ¬ (nI 0 = nI 0) from c_93)
              exact absurd c_93 (by decide)
          · have c_80 := mt (nI_eq (a := 0) (b := 0) (by omega) (by omega)).mpr (show ¬ (nI 0 = nI 0) from c_80)
            exact absurd c_80 (by decide)
        · refine lv_iload_n hx hb dX4_makeWalks_51 rfl (lv_at hl 3 rfl) ?_
          refine lv_iload hx hb dX4_makeWalks_52 (lv_at hl 4 rfl) ?_
          refine lv_icmp_ne (tgt := 70) hx hb dX4_makeWalks_54 (by decide) (fun c_54 => ?_) (fun c_54 => ?_)
          · have c_54 := mt (nI_eq (a := x) (b := y) (by omega) (by omega)).mpr c_54
            refine lv_iconst (v := nI 0) hx hb dX4_makeWalks_70 (by decide) ?_
            refine lv_istore (lv' := [(5, .int (nI 0)), (0, .ref h), (1, .int (nI u)), (2, .int (nI ((mw2 ki ii sp u x t y).2))), (3, .int (nI x)), (4, .int (nI y))]) hx hb dX4_makeWalks_71 hl (by decide) rfl (fun ls hl => ?_)
            refine lv_aload_n hx hb dX4_makeWalks_73 rfl (lv_at hl 1 rfl) ?_
            refine lv_iload_n hx hb dX4_makeWalks_74 rfl (lv_at hl 2 rfl) ?_
            refine lv_iload_n hx hb dX4_makeWalks_75 rfl (lv_at hl 4 rfl) ?_
            refine lv_iload hx hb dX4_makeWalks_76 (lv_at hl 5 rfl) ?_
            refine lv_iload hx hb dX4_makeWalks_78 (lv_at hl 0 rfl) ?_
            refine lv_if_eq (tgt := 87) hx hb dX4_makeWalks_80 (by decide) (fun c_80 => ?_) (fun c_80 => ?_)
            · have c_80 := (nI_eq (a := 0) (b := 0) (by omega) (by omega)).mp (show nI 0 = nI 0 from c_80)
              refine lv_lconst (v := lN 0) hx hb dX4_makeWalks_87 (by decide) ?_
              refine cr_Vv (As := [.int (nI u), .int (nI x), .int (nI y), .long (lN 0)]) (rest := []) ⟨hx, hb, hml, hown, hts⟩ (c_X4_put l g s0  w h hs0 rf nt np mo gb wr nr su pr ob ki fi se (tN (mw2 ki ii sp u x t y).1) nd ii sp qu rF rT rD (u) (x) (y) (0) (by omega) (by omega) (by omega) (by decide)) (cw_V 4 hts tg_tail tw_564 tw_566 tp_29 tw_4 tw_567 rfl rfl (by decide +kernel) ⟨Nat.le_trans (by decide) hRm.1, Nat.le_trans (by decide) hRm.2⟩) hK hP h0s hS (mW_0) rfl rfl rfl hl.1 rfl (Nat.le_of_ble_eq_true rfl) dX4_makeWalks_88 hcs (fun w9 H locs hw hP hS => ?_)
              rw [hw, tN_up] at hP
              refine lv_iload hx hb dX4_makeWalks_91 (lv_at hl 0 rfl) ?_
              refine lv_if_eq (tgt := 102) hx hb dX4_makeWalks_93 (by decide) (fun c_93 => ?_) (fun c_93 => ?_)
              · have c_93 := (nI_eq (a := 0) (b := 0) (by omega) (by omega)).mp (show nI 0 = nI 0 from c_93)
                refine lv_iload_n hx hb dX4_makeWalks_102 rfl (lv_at hl 3 rfl) ?_
                refine lv_istore_n (lv' := [(2, .int (nI ((mw2 ki ii sp u x t y).2))), (5, .int (nI 0)), (0, .ref h), (1, .int (nI u)), (3, .int (nI x)), (4, .int (nI y))]) hx hb dX4_makeWalks_103 rfl hl (by decide) rfl (fun ls hl => ?_)
                refine lv_iinc (v := nI (y + 1)) (lv' := [(4, .int (nI (y + 1))), (2, .int (nI ((mw2 ki ii sp u x t y).2))), (5, .int (nI 0)), (0, .ref h), (1, .int (nI u)), (3, .int (nI x))]) hx hb dX4_makeWalks_104 hl (k := 5) rfl (nI_1 _) (by decide) rfl (fun ls hl => ?_)
                refine lv_goto (tgt := 24) hx hb dX4_makeWalks_107 (by decide) ?_
                have f9 : mw2 ki ii sp u x t (y + 1) = (va_up (mw2 ki ii sp u x t y).1 (1024 * u + 32 * x + y) (min 0 1000000), (mw2 ki ii sp u x t y).2) := by rw [mw2, if_neg (by clear hts hP hK hx hb hown hS hRm hcs hl ih; grind)]
                have e8 : (mW g w h rf nt np mo gb wr nr su pr ob ki fi se (tN (va_up ((mw2 ki ii sp u x t y).1) (1024 * u + 32 * x + y) (min (0) 1000000))) nd ii sp qu rF rT rD) = (mW g w h rf nt np mo gb wr nr su pr ob ki fi se (tN (mw2 ki ii sp u x t (y + 1)).1) nd ii sp qu rF rT rD) := by rw [f9]
                rw [e8] at hP
                have hl : lv_has ls 6 [(0, .ref h), (1, .int (nI u)), (2, .int (nI ((mw2 ki ii sp u x t y).2))), (3, .int (nI x)), (4, .int (nI (y + 1)))] := lv_sub hl [3, 4, 1, 5, 0] rfl
                have e8 : ([(0, .ref h), (1, .int (nI u)), (2, .int (nI ((mw2 ki ii sp u x t y).2))), (3, .int (nI x)), (4, .int (nI (y + 1)))] : List (Nat × Value)) = [(0, .ref h), (1, .int (nI u)), (2, .int (nI ((mw2 ki ii sp u x t (y + 1)).2))), (3, .int (nI x)), (4, .int (nI (y + 1)))] := by rw [f9]
                rw [e8] at hl
                exact ih (y + 1) (by omega) (by omega) _ _ ls hP hS hl
              · have c_93 := mt (nI_eq (a := 0) (b := 0) (by omega) (by omega)).mpr (show ¬ (nI 0 = nI 0) from c_93)
                exact absurd c_93 (by decide)
            · have c_80 := mt (nI_eq (a := 0) (b := 0) (by omega) (by omega)).mpr (show ¬ (nI 0 = nI 0) from c_80)
              exact absurd c_80 (by decide)
          · have c_54 := (nI_eq (a := x) (b := y) (by omega) (by omega)).mp c_54
            refine lv_aload_n hx hb dX4_makeWalks_57 rfl (lv_at hl 0 rfl) ?_
            refine wd_get (ci := 5) (v := .ref (h + 9)) (C := RX4) (T := TX4) (N := 21) hx hb hts iwX4 hown hK.1 hP (mW_0) rfl 12 (by decide) (hts _ (tg_tail _ tw_438)) (fun _ h9 => h9) rfl dX4_makeWalks_58 ?_
            refine lv_iload_n hx hb dX4_makeWalks_61 rfl (lv_at hl 3 rfl) ?_
            refine wd_zldN hx hb hK.1 hP 1 (k := x) (mW_9) rfl (by omega) (by decide) dX4_makeWalks_62 ?_
            refine lv_if_eq (tgt := 70) hx hb dX4_makeWalks_63 (by decide) (fun c_63 => ?_) (fun c_63 => ?_)
            · refine lv_iconst (v := nI 0) hx hb dX4_makeWalks_70 (by decide) ?_
              refine lv_istore (lv' := [(5, .int (nI 0)), (0, .ref h), (1, .int (nI u)), (2, .int (nI ((mw2 ki ii sp u x t y).2))), (3, .int (nI x)), (4, .int (nI y))]) hx hb dX4_makeWalks_71 hl (by decide) rfl (fun ls hl => ?_)
              refine lv_aload_n hx hb dX4_makeWalks_73 rfl (lv_at hl 1 rfl) ?_
              refine lv_iload_n hx hb dX4_makeWalks_74 rfl (lv_at hl 2 rfl) ?_
              refine lv_iload_n hx hb dX4_makeWalks_75 rfl (lv_at hl 4 rfl) ?_
              refine lv_iload hx hb dX4_makeWalks_76 (lv_at hl 5 rfl) ?_
              refine lv_iload hx hb dX4_makeWalks_78 (lv_at hl 0 rfl) ?_
              refine lv_if_eq (tgt := 87) hx hb dX4_makeWalks_80 (by decide) (fun c_80 => ?_) (fun c_80 => ?_)
              · have c_80 := (nI_eq (a := 0) (b := 0) (by omega) (by omega)).mp (show nI 0 = nI 0 from c_80)
                refine lv_lconst (v := lN 0) hx hb dX4_makeWalks_87 (by decide) ?_
                refine cr_Vv (As := [.int (nI u), .int (nI x), .int (nI y), .long (lN 0)]) (rest := []) ⟨hx, hb, hml, hown, hts⟩ (c_X4_put l g s0  w h hs0 rf nt np mo gb wr nr su pr ob ki fi se (tN (mw2 ki ii sp u x t y).1) nd ii sp qu rF rT rD (u) (x) (y) (0) (by omega) (by omega) (by omega) (by decide)) (cw_V 4 hts tg_tail tw_564 tw_566 tp_29 tw_4 tw_567 rfl rfl (by decide +kernel) ⟨Nat.le_trans (by decide) hRm.1, Nat.le_trans (by decide) hRm.2⟩) hK hP h0s hS (mW_0) rfl rfl rfl hl.1 rfl (Nat.le_of_ble_eq_true rfl) dX4_makeWalks_88 hcs (fun w9 H locs hw hP hS => ?_)
                rw [hw, tN_up] at hP
                refine lv_iload hx hb dX4_makeWalks_91 (lv_at hl 0 rfl) ?_
                refine lv_if_eq (tgt := 102) hx hb dX4_makeWalks_93 (by decide) (fun c_93 => ?_) (fun c_93 => ?_)
                · have c_93 := (nI_eq (a := 0) (b := 0) (by omega) (by omega)).mp (show nI 0 = nI 0 from c_93)
                  refine lv_iload_n hx hb dX4_makeWalks_102 rfl (lv_at hl 3 rfl) ?_
                  refine lv_istore_n (lv' := [(2, .int (nI ((mw2 ki ii sp u x t y).2))), (5, .int (nI 0)), (0, .ref h), (1, .int (nI u)), (3, .int (nI x)), (4, .int (nI y))]) hx hb dX4_makeWalks_103 rfl hl (by decide) rfl (fun ls hl => ?_)
                  refine lv_iinc (v := nI (y + 1)) (lv' := [(4, .int (nI (y + 1))), (2, .int (nI ((mw2 ki ii sp u x t y).2))), (5, .int (nI 0)), (0, .ref h), (1, .int (nI u)), (3, .int (nI x))]) hx hb dX4_makeWalks_104 hl (k := 5) rfl (nI_1 _) (by decide) rfl (fun ls hl => ?_)
                  refine lv_goto (tgt := 24) hx hb dX4_makeWalks_107 (by decide) ?_
                  have f9 : mw2 ki ii sp u x t (y + 1) = (va_up (mw2 ki ii sp u x t y).1 (1024 * u + 32 * x + y) (min 0 1000000), (mw2 ki ii sp u x t y).2) := by rw [mw2, if_neg (by clear hts hP hK hx hb hown hS hRm hcs hl ih; grind)]
                  have e8 : (mW g w h rf nt np mo gb wr nr su pr ob ki fi se (tN (va_up ((mw2 ki ii sp u x t y).1) (1024 * u + 32 * x + y) (min (0) 1000000))) nd ii sp qu rF rT rD) = (mW g w h rf nt np mo gb wr nr su pr ob ki fi se (tN (mw2 ki ii sp u x t (y + 1)).1) nd ii sp qu rF rT rD) := by rw [f9]
                  rw [e8] at hP
                  have hl : lv_has ls 6 [(0, .ref h), (1, .int (nI u)), (2, .int (nI ((mw2 ki ii sp u x t y).2))), (3, .int (nI x)), (4, .int (nI (y + 1)))] := lv_sub hl [3, 4, 1, 5, 0] rfl
                  have e8 : ([(0, .ref h), (1, .int (nI u)), (2, .int (nI ((mw2 ki ii sp u x t y).2))), (3, .int (nI x)), (4, .int (nI (y + 1)))] : List (Nat × Value)) = [(0, .ref h), (1, .int (nI u)), (2, .int (nI ((mw2 ki ii sp u x t (y + 1)).2))), (3, .int (nI x)), (4, .int (nI (y + 1)))] := by rw [f9]
                  rw [e8] at hl
                  exact ih (y + 1) (by omega) (by omega) _ _ ls hP hS hl
                · have c_93 := mt (nI_eq (a := 0) (b := 0) (by omega) (by omega)).mpr (show ¬ (nI 0 = nI 0) from c_93)
                  exact absurd c_93 (by decide)
              · have c_80 := mt (nI_eq (a := 0) (b := 0) (by omega) (by omega)).mpr (show ¬ (nI 0 = nI 0) from c_80)
                exact absurd c_80 (by decide)
            · refine lv_iconst (v := nI 1) hx hb dX4_makeWalks_66 (by decide) ?_
              refine lv_goto (tgt := 71) hx hb dX4_makeWalks_67 (by decide) ?_
              refine lv_istore (lv' := [(5, .int (nI 1)), (0, .ref h), (1, .int (nI u)), (2, .int (nI ((mw2 ki ii sp u x t y).2))), (3, .int (nI x)), (4, .int (nI y))]) hx hb dX4_makeWalks_71 hl (by decide) rfl (fun ls hl => ?_)
              refine lv_aload_n hx hb dX4_makeWalks_73 rfl (lv_at hl 1 rfl) ?_
              refine lv_iload_n hx hb dX4_makeWalks_74 rfl (lv_at hl 2 rfl) ?_
              refine lv_iload_n hx hb dX4_makeWalks_75 rfl (lv_at hl 4 rfl) ?_
              refine lv_iload hx hb dX4_makeWalks_76 (lv_at hl 5 rfl) ?_
              refine lv_iload hx hb dX4_makeWalks_78 (lv_at hl 0 rfl) ?_
              refine lv_if_eq (tgt := 87) hx hb dX4_makeWalks_80 (by decide) (fun c_80 => ?_) (fun c_80 => ?_)
              · have c_80 := (nI_eq (a := 1) (b := 0) (by omega) (by omega)).mp (show nI 1 = nI 0 from c_80)
                exact absurd c_80 (by decide)
              · have c_80 := mt (nI_eq (a := 1) (b := 0) (by omega) (by omega)).mpr (show ¬ (nI 1 = nI 0) from c_80)
                refine lv_lconst (v := lN 1) hx hb dX4_makeWalks_83 (by decide) ?_
                refine lv_goto (tgt := 88) hx hb dX4_makeWalks_84 (by decide) ?_
                refine cr_Vv (As := [.int (nI u), .int (nI x), .int (nI y), .long (lN 1)]) (rest := []) ⟨hx, hb, hml, hown, hts⟩ (c_X4_put l g s0  w h hs0 rf nt np mo gb wr nr su pr ob ki fi se (tN (mw2 ki ii sp u x t y).1) nd ii sp qu rF rT rD (u) (x) (y) (1) (by omega) (by omega) (by omega) (by decide)) (cw_V 4 hts tg_tail tw_564 tw_566 tp_29 tw_4 tw_567 rfl rfl (by decide +kernel) ⟨Nat.le_trans (by decide) hRm.1, Nat.le_trans (by decide) hRm.2⟩) hK hP h0s hS (mW_0) rfl rfl rfl hl.1 rfl (Nat.le_of_ble_eq_true rfl) dX4_makeWalks_88 hcs (fun w9 H locs hw hP hS => ?_)
                rw [hw, tN_up] at hP
                refine lv_iload hx hb dX4_makeWalks_91 (lv_at hl 0 rfl) ?_
                refine lv_if_eq (tgt := 102) hx hb dX4_makeWalks_93 (by decide) (fun c_93 => ?_) (fun c_93 => ?_)
                · have c_93 := (nI_eq (a := 1) (b := 0) (by omega) (by omega)).mp (show nI 1 = nI 0 from c_93)
                  exact absurd c_93 (by decide)
                · have c_93 := mt (nI_eq (a := 1) (b := 0) (by omega) (by omega)).mpr (show ¬ (nI 1 = nI 0) from c_93)
                  refine lv_iload_n hx hb dX4_makeWalks_96 rfl (lv_at hl 3 rfl) ?_
                  refine lv_iconst (v := nI 1) hx hb dX4_makeWalks_97 (by decide) ?_
                  refine lv_iadd hx hb dX4_makeWalks_98 ?_
                  refine wd_ti (x' := nI (((mw2 ki ii sp u x t y).2) + 1)) (nI_add _ _) ?_
                  refine lv_goto (tgt := 103) hx hb dX4_makeWalks_99 (by decide) ?_
                  refine lv_istore_n (lv' := [(2, .int (nI (((mw2 ki ii sp u x t y).2) + 1))), (5, .int (nI 1)), (0, .ref h), (1, .int (nI u)), (3, .int (nI x)), (4, .int (nI y))]) hx hb dX4_makeWalks_103 rfl hl (by decide) rfl (fun ls hl => ?_)
                  refine lv_iinc (v := nI (y + 1)) (lv' := [(4, .int (nI (y + 1))), (2, .int (nI (((mw2 ki ii sp u x t y).2) + 1))), (5, .int (nI 1)), (0, .ref h), (1, .int (nI u)), (3, .int (nI x))]) hx hb dX4_makeWalks_104 hl (k := 5) rfl (nI_1 _) (by decide) rfl (fun ls hl => ?_)
                  refine lv_goto (tgt := 24) hx hb dX4_makeWalks_107 (by decide) ?_
                  have f9 : mw2 ki ii sp u x t (y + 1) = (va_up (mw2 ki ii sp u x t y).1 (1024 * u + 32 * x + y) (min 1 1000000), (mw2 ki ii sp u x t y).2 + 1) := by rw [mw2, if_pos (by clear hts hP hK hx hb hown hS hRm hcs hl ih; grind)]
                  have e8 : (mW g w h rf nt np mo gb wr nr su pr ob ki fi se (tN (va_up ((mw2 ki ii sp u x t y).1) (1024 * u + 32 * x + y) (min (1) 1000000))) nd ii sp qu rF rT rD) = (mW g w h rf nt np mo gb wr nr su pr ob ki fi se (tN (mw2 ki ii sp u x t (y + 1)).1) nd ii sp qu rF rT rD) := by rw [f9]
                  rw [e8] at hP
                  have hl : lv_has ls 6 [(0, .ref h), (1, .int (nI u)), (2, .int (nI (((mw2 ki ii sp u x t y).2) + 1))), (3, .int (nI x)), (4, .int (nI (y + 1)))] := lv_sub hl [3, 4, 1, 5, 0] rfl
                  have e8 : ([(0, .ref h), (1, .int (nI u)), (2, .int (nI (((mw2 ki ii sp u x t y).2) + 1))), (3, .int (nI x)), (4, .int (nI (y + 1)))] : List (Nat × Value)) = [(0, .ref h), (1, .int (nI u)), (2, .int (nI ((mw2 ki ii sp u x t (y + 1)).2))), (3, .int (nI x)), (4, .int (nI (y + 1)))] := by rw [f9]
                  rw [e8] at hl
                  exact ih (y + 1) (by omega) (by omega) _ _ ls hP hS hl

set_option maxHeartbeats 4000000 in
set_option maxRecDepth 100000 in
theorem lp_mw1 {p : Program} {l : Launch} {e : Env} {R : Room} {s : State} {m : MethodId} {args : Array Value} {below : List Frame} {meth : Method} {c : Code} {Q : State → Prop} {H0 : Heap} {cells slots : Nat} (g : gX) (s0 : Nat) (w : wd_M) (h : Nat) (hs0 : s0 ≤ h) (rf nt np mo gb wr nr : Int32) (su pr ob ki fi se nd ii sp qu rF rT rD : Nat → Int32) (M : Nat → Nat) (hM9 : mB M) (u a : Nat) (hu : u ≤ 40) (hfa : fi u = nI a ∧ a ≤ 40) (hx : p.tables.exec = Jvm.exec) (hb : c.code = cX4_makeWalks) (hml : c.maxLocals = 6) (hown : s.vm.findClass RX4 = some m.cls) (hts : ∀ w ∈ Cond.code yX4_makeWalks cX4_makeWalks 6 (none) :: tg, w.before args s = true) (hK : gK g s) (h0s : s0 ≤ H0.size) (hRm : 2 ≤ R.frames ∧ 49 ≤ R.locals) (hcs : cells + 0 ≤ R.cells ∧ slots + 0 ≤ R.slots)  (kx : ∀ (H : Heap) (locs : List Loc) (ls : Array Slot), gP g (mW g w h rf nt np mo gb wr nr su pr ob ki fi se (tN (mw1 ki ii u a M sp qu 32).1) nd ii ((mw1 ki ii u a M sp qu 32).2.1) ((mw1 ki ii u a M sp qu 32).2.2.1) rF rT rD) H → gS s0 H0 H locs → lv_has ls 6 [(0, .ref h), (1, .int (nI u)), (2, .int (nI ((mw1 ki ii u a M sp qu 32).2.2.2))), (3, .int (nI 32))] → W p l e R s m args below meth c H locs cells slots Q (F0 m 116 ls [])) :
    ∀ (n x : Nat), x ≤ 32 → 32 + 1 ≤ x + n → ∀ (H : Heap) (locs : List Loc) (ls : Array Slot), gP g (mW g w h rf nt np mo gb wr nr su pr ob ki fi se (tN (mw1 ki ii u a M sp qu x).1) nd ii ((mw1 ki ii u a M sp qu x).2.1) ((mw1 ki ii u a M sp qu x).2.2.1) rF rT rD) H → gS s0 H0 H locs → lv_has ls 6 [(0, .ref h), (1, .int (nI u)), (2, .int (nI ((mw1 ki ii u a M sp qu x).2.2.2))), (3, .int (nI x))] → W p l e R s m args below meth c H locs cells slots Q (F0 m 4 ls []) := by
  intro n
  induction n with
  | zero =>
    intro x h1 h2
    exact absurd h2 (by omega)
  | succ n ih =>
    intro x hi hin H locs ls hP hS hl
    refine lv_iload_n hx hb dX4_makeWalks_4 rfl (lv_at hl 3 rfl) ?_
    refine lv_bipush (v := nI 32) hx hb dX4_makeWalks_5 (by decide) ?_
    refine lv_icmp_ge (tgt := 116) hx hb dX4_makeWalks_7 (by decide) (fun c_7 => ?_) (fun c_7 => ?_)
    · have c_7 := (nI_leI (a := 32) (b := x) (by omega) (by omega)).mp c_7
      have e9 : x = 32 := by omega
      try rw [e9] at hP
      try rw [e9] at hl
      exact kx H locs ls hP hS (lv_sub hl [0, 1, 2, 3] rfl)
    · have c_7 := mt (nI_leI (a := 32) (b := x) (by omega) (by omega)).mpr c_7
      refine lv_aload_n hx hb dX4_makeWalks_10 rfl (lv_at hl 0 rfl) ?_
      refine lv_aload_n hx hb dX4_makeWalks_11 rfl (lv_at hl 0 rfl) ?_
      refine wd_get (ci := 5) (v := .ref (h + 5)) (C := RX4) (T := TX4) (N := 21) hx hb hts iwX4 hown hK.1 hP (mW_0) rfl 6 (by decide) (hts _ (tg_tail _ tw_432)) (fun _ h9 => h9) rfl dX4_makeWalks_12 ?_
      refine lv_iload_n hx hb dX4_makeWalks_15 rfl (lv_at hl 1 rfl) ?_
      refine wd_ildN hx hb hK.1 hP 0 (k := u) (mW_5) rfl (by omega) (by decide) dX4_makeWalks_16 ?_
      refine wd_ti (x' := nI a) (hfa.1) ?_
      refine lv_iload_n hx hb dX4_makeWalks_17 rfl (lv_at hl 3 rfl) ?_
      refine cr_Vv (As := [.int (nI a), .int (nI x)]) (rest := []) ⟨hx, hb, hml, hown, hts⟩ (c_X4_walk l g s0  w h hs0 rf nt np mo gb wr nr su pr ob ki fi se nd ii ((mw1 ki ii u a M sp qu x).2.1) ((mw1 ki ii u a M sp qu x).2.2.1) rF rT rD ((mw1 ki ii u a M sp qu x).1) (mw1_B hM9 x) a x hfa.2 (by omega)) (cw_V 2 hts tg_tail tw_573 tw_575 tp_31 tw_4 tw_576 rfl rfl (by decide +kernel) ⟨Nat.le_trans (by decide) hRm.1, Nat.le_trans (by decide) hRm.2⟩) hK hP h0s hS (mW_0) rfl rfl rfl hl.1 rfl (Nat.le_of_ble_eq_true rfl) dX4_makeWalks_18 hcs (fun w9 H locs hw hP hS => ?_)
      rw [hw] at hP
      refine lv_iconst (v := nI 0) hx hb dX4_makeWalks_21 (by decide) ?_
      refine lv_istore (lv' := [(4, .int (nI 0)), (0, .ref h), (1, .int (nI u)), (2, .int (nI ((mw1 ki ii u a M sp qu x).2.2.2))), (3, .int (nI x))]) hx hb dX4_makeWalks_22 hl (by decide) rfl (fun ls hl => ?_)
      have e8 : (mW g w h rf nt np mo gb wr nr su pr ob ki fi se (tN (mw1 ki ii u a M sp qu x).1) nd ii ((wkF ((mw1 ki ii u a M sp qu x).1) a x ((mw1 ki ii u a M sp qu x).2.1) ((mw1 ki ii u a M sp qu x).2.2.1)).1) ((wkF ((mw1 ki ii u a M sp qu x).1) a x ((mw1 ki ii u a M sp qu x).2.1) ((mw1 ki ii u a M sp qu x).2.2.1)).2.1) rF rT rD) = (mW g w h rf nt np mo gb wr nr su pr ob ki fi se (tN (mw2 ki ii ((wkF ((mw1 ki ii u a M sp qu x).1) a x ((mw1 ki ii u a M sp qu x).2.1) ((mw1 ki ii u a M sp qu x).2.2.1)).1) u x (((mw1 ki ii u a M sp qu x).1, (mw1 ki ii u a M sp qu x).2.2.2)) 0).1) nd ii ((wkF ((mw1 ki ii u a M sp qu x).1) a x ((mw1 ki ii u a M sp qu x).2.1) ((mw1 ki ii u a M sp qu x).2.2.1)).1) ((wkF ((mw1 ki ii u a M sp qu x).1) a x ((mw1 ki ii u a M sp qu x).2.1) ((mw1 ki ii u a M sp qu x).2.2.1)).2.1) rF rT rD) := by rw [mw2]
      rw [e8] at hP
      have hl : lv_has ls 6 [(0, .ref h), (1, .int (nI u)), (2, .int (nI ((mw1 ki ii u a M sp qu x).2.2.2))), (3, .int (nI x)), (4, .int (nI 0))] := lv_sub hl [1, 2, 3, 4, 0] rfl
      have e8 : ([(0, .ref h), (1, .int (nI u)), (2, .int (nI ((mw1 ki ii u a M sp qu x).2.2.2))), (3, .int (nI x)), (4, .int (nI 0))] : List (Nat × Value)) = [(0, .ref h), (1, .int (nI u)), (2, .int (nI ((mw2 ki ii ((wkF ((mw1 ki ii u a M sp qu x).1) a x ((mw1 ki ii u a M sp qu x).2.1) ((mw1 ki ii u a M sp qu x).2.2.1)).1) u x (((mw1 ki ii u a M sp qu x).1, (mw1 ki ii u a M sp qu x).2.2.2)) 0).2))), (3, .int (nI x)), (4, .int (nI 0))] := by rw [mw2]
      rw [e8] at hl
      refine lp_mw2 g s0 w h hs0 rf nt np mo gb wr nr su pr ob ki fi se nd ii ((wkF ((mw1 ki ii u a M sp qu x).1) a x ((mw1 ki ii u a M sp qu x).2.1) ((mw1 ki ii u a M sp qu x).2.2.1)).1) ((wkF ((mw1 ki ii u a M sp qu x).1) a x ((mw1 ki ii u a M sp qu x).2.1) ((mw1 ki ii u a M sp qu x).2.2.1)).2.1) rF rT rD u x hu (by omega) ((mw1 ki ii u a M sp qu x).1, (mw1 ki ii u a M sp qu x).2.2.2) hx hb hml hown hts hK h0s hRm hcs  ?_ (32 + 1) 0 (by omega) (by omega) _ _ ls hP hS hl
      intro H locs ls hP hS hl
      refine lv_iinc (v := nI (x + 1)) (lv' := [(3, .int (nI (x + 1))), (0, .ref h), (1, .int (nI u)), (2, .int (nI ((mw2 ki ii ((wkF ((mw1 ki ii u a M sp qu x).1) a x ((mw1 ki ii u a M sp qu x).2.1) ((mw1 ki ii u a M sp qu x).2.2.1)).1) u x (((mw1 ki ii u a M sp qu x).1, (mw1 ki ii u a M sp qu x).2.2.2)) 32).2))), (4, .int (nI 32))]) hx hb dX4_makeWalks_110 hl (k := 3) rfl (nI_1 _) (by decide) rfl (fun ls hl => ?_)
      refine lv_goto (tgt := 4) hx hb dX4_makeWalks_113 (by decide) ?_
      have e8 : (mW g w h rf nt np mo gb wr nr su pr ob ki fi se (tN (mw2 ki ii ((wkF ((mw1 ki ii u a M sp qu x).1) a x ((mw1 ki ii u a M sp qu x).2.1) ((mw1 ki ii u a M sp qu x).2.2.1)).1) u x (((mw1 ki ii u a M sp qu x).1, (mw1 ki ii u a M sp qu x).2.2.2)) 32).1) nd ii ((wkF ((mw1 ki ii u a M sp qu x).1) a x ((mw1 ki ii u a M sp qu x).2.1) ((mw1 ki ii u a M sp qu x).2.2.1)).1) ((wkF ((mw1 ki ii u a M sp qu x).1) a x ((mw1 ki ii u a M sp qu x).2.1) ((mw1 ki ii u a M sp qu x).2.2.1)).2.1) rF rT rD) = (mW g w h rf nt np mo gb wr nr su pr ob ki fi se (tN (mw1 ki ii u a M sp qu (x + 1)).1) nd ii ((mw1 ki ii u a M sp qu (x + 1)).2.1) ((mw1 ki ii u a M sp qu (x + 1)).2.2.1) rF rT rD) := by rw [mw1, mwS]
      rw [e8] at hP
      have hl : lv_has ls 6 [(0, .ref h), (1, .int (nI u)), (2, .int (nI ((mw2 ki ii ((wkF ((mw1 ki ii u a M sp qu x).1) a x ((mw1 ki ii u a M sp qu x).2.1) ((mw1 ki ii u a M sp qu x).2.2.1)).1) u x (((mw1 ki ii u a M sp qu x).1, (mw1 ki ii u a M sp qu x).2.2.2)) 32).2))), (3, .int (nI (x + 1)))] := lv_sub hl [1, 2, 3, 0] rfl
      have e8 : ([(0, .ref h), (1, .int (nI u)), (2, .int (nI ((mw2 ki ii ((wkF ((mw1 ki ii u a M sp qu x).1) a x ((mw1 ki ii u a M sp qu x).2.1) ((mw1 ki ii u a M sp qu x).2.2.1)).1) u x (((mw1 ki ii u a M sp qu x).1, (mw1 ki ii u a M sp qu x).2.2.2)) 32).2))), (3, .int (nI (x + 1)))] : List (Nat × Value)) = [(0, .ref h), (1, .int (nI u)), (2, .int (nI ((mw1 ki ii u a M sp qu (x + 1)).2.2.2))), (3, .int (nI (x + 1)))] := by rw [mw1, mwS]
      rw [e8] at hl
      exact ih (x + 1) (by omega) (by omega) _ _ ls hP hS hl

set_option maxHeartbeats 4000000 in
set_option maxRecDepth 100000 in
theorem c_X4_makeWalks (l : Launch) (g : gX) (s0 : Nat) (w : wd_M) (h : Nat) (hs0 : s0 ≤ h) (rf nt np mo gb wr nr : Int32) (su pr ob ki fi se nd ii sp qu rF rT rD : Nat → Int32) (M : Nat → Nat) (hM9 : mB M) (u a : Nat) (hu : u ≤ 40) (hfa : fi u = nI a ∧ a ≤ 40) : Met l yX4_makeWalks (Cond.code yX4_makeWalks cX4_makeWalks 6 (none) :: tg) ({ frames := 2, cells := 0, slots := 0, locals := 49 }) (cP g s0 (mW g w h rf nt np mo gb wr nr su pr ob ki fi se (tN M) nd ii sp qu rF rT rD) [.ref h, .int (nI u)]) (cV g s0 (fun w' => w' = (mW g w h rf nt np mo (zB (¬ gb = 0 ∨ ¬ nI (mw1 ki ii u a M sp qu 32).2.2.2 ≤ mo)) wr nr su pr ob ki fi se (tN (mw1 ki ii u a M sp qu 32).1) nd ii ((mw1 ki ii u a M sp qu 32).2.1) ((mw1 ki ii u a M sp qu 32).2.2.1) rF rT rD))) 0 0 (cA s0) := by
  refine Met.ofW (cc := cX4_makeWalks) (maxL := 6) (ret := none) (by decide) rfl ?_
  intro p e s m args below meth c s₁ B9 hml hv
  obtain ⟨rfl, h0s, hP, hK⟩ := hv
  have hx := B9.exec
  have hb := B9.bytes
  have hr := B9.returns
  have hts := atoms_spec (ws := Cond.code yX4_makeWalks cX4_makeWalks 6 (none) :: tg) B9.pre
  have hown : s.vm.findClass RX4 = some m.cls := findClass_of_methodNamed B9.named
  have hlocks := B9.notSynchronized
  have hS : gS s0 s.heap s.heap [] := va_S.rf
  have hRm : 2 ≤ (headSpec (Cond.code yX4_makeWalks cX4_makeWalks 6 (none) :: tg) ({ frames := 2, cells := 0, slots := 0, locals := 49 })).room.frames ∧ 49 ≤ (headSpec (Cond.code yX4_makeWalks cX4_makeWalks 6 (none) :: tg) ({ frames := 2, cells := 0, slots := 0, locals := 49 })).room.locals := ⟨Nat.le_refl _, Nat.le_refl _⟩
  have hcs : 0 + 0 ≤ (headSpec (Cond.code yX4_makeWalks cX4_makeWalks 6 (none) :: tg) ({ frames := 2, cells := 0, slots := 0, locals := 49 })).room.cells ∧ 0 + 0 ≤ (headSpec (Cond.code yX4_makeWalks cX4_makeWalks 6 (none) :: tg) ({ frames := 2, cells := 0, slots := 0, locals := 49 })).room.slots := ⟨Nat.zero_le _, Nat.zero_le _⟩
  have hl := lv_entry ([.ref h, .int (nI u)]) (n := 6) (Nat.le_of_ble_eq_true rfl)
  rw [lg_entry_eq]
  generalize (lg_sl ([.ref h, .int (nI u)]) ++ List.replicate (6 - (lg_sl ([.ref h, .int (nI u)])).length) Slot.unset).toArray = ls at hl ⊢
  have hl : lv_has ls 6 [(0, .ref h), (1, .int (nI u))] := hl
  refine lv_iconst (v := nI 0) hx hb dX4_makeWalks_0 (by decide) ?_
  refine lv_istore_n (lv' := [(2, .int (nI 0)), (0, .ref h), (1, .int (nI u))]) hx hb dX4_makeWalks_1 rfl hl (by decide) rfl (fun ls hl => ?_)
  refine lv_iconst (v := nI 0) hx hb dX4_makeWalks_2 (by decide) ?_
  refine lv_istore_n (lv' := [(3, .int (nI 0)), (2, .int (nI 0)), (0, .ref h), (1, .int (nI u))]) hx hb dX4_makeWalks_3 rfl hl (by decide) rfl (fun ls hl => ?_)
  have e8 : (mW g w h rf nt np mo gb wr nr su pr ob ki fi se (tN M) nd ii sp qu rF rT rD) = (mW g w h rf nt np mo gb wr nr su pr ob ki fi se (tN (mw1 ki ii u a M sp qu 0).1) nd ii ((mw1 ki ii u a M sp qu 0).2.1) ((mw1 ki ii u a M sp qu 0).2.2.1) rF rT rD) := by rw [mw1]
  rw [e8] at hP
  have hl : lv_has ls 6 [(0, .ref h), (1, .int (nI u)), (2, .int (nI 0)), (3, .int (nI 0))] := lv_sub hl [2, 3, 1, 0] rfl
  have e8 : ([(0, .ref h), (1, .int (nI u)), (2, .int (nI 0)), (3, .int (nI 0))] : List (Nat × Value)) = [(0, .ref h), (1, .int (nI u)), (2, .int (nI ((mw1 ki ii u a M sp qu 0).2.2.2))), (3, .int (nI 0))] := by rw [mw1]
  rw [e8] at hl
  refine lp_mw1 g s0 w h hs0 rf nt np mo gb wr nr su pr ob ki fi se nd ii sp qu rF rT rD M hM9 u a hu hfa hx hb hml hown hts hK h0s hRm hcs  ?_ (32 + 1) 0 (by omega) (by omega) _ _ ls hP hS hl
  intro H locs ls hP hS hl
  refine lv_aload_n hx hb dX4_makeWalks_116 rfl (lv_at hl 0 rfl) ?_
  refine lv_aload_n hx hb dX4_makeWalks_117 rfl (lv_at hl 0 rfl) ?_
  refine wd_get (ci := 5) (v := .int (gb)) (C := RX4) (T := TX4) (N := 21) hx hb hts iwX4 hown hK.1 hP (mW_0) rfl 13 (by decide) (hts _ (tg_tail _ tw_439)) (fun _ h9 => h9) rfl dX4_makeWalks_118 ?_
  refine lv_if_ne (tgt := 132) hx hb dX4_makeWalks_121 (by decide) (fun c_121 => ?_) (fun c_121 => ?_)
  · refine lv_iconst (v := nI 1) hx hb dX4_makeWalks_132 (by decide) ?_
    refine lv_goto (tgt := 137) hx hb dX4_makeWalks_133 (by decide) ?_
    refine wd_put (ci := 5) (v := .int (nI 1)) (ty := .boolean) (C := RX4) (T := TX4) (N := 21) hx hb hts iwX4 tyX4 tyX4_ok nmX4 hown hK.1 hP hS (by omega) (mW_0) rfl 13 (by decide) (hts _ (tg_tail _ tw_439)) (fun _ h9 => h9) rfl (by decide +kernel) (rfl) (rfl) (Nat.le_of_ble_eq_true rfl) dX4_makeWalks_137 (fun H locs hP hS hz => ?_)
    have hP : gP g (mW g w h rf nt np mo (nI 1) wr nr su pr ob ki fi se (tN (mw1 ki ii u a M sp qu 32).1) nd ii ((mw1 ki ii u a M sp qu 32).2.1) ((mw1 ki ii u a M sp qu 32).2.2.1) rF rT rD) H := by have h9 : gP g (wd_up (mW g w h rf nt np mo gb wr nr su pr ob ki fi se (tN (mw1 ki ii u a M sp qu 32).1) nd ii ((mw1 ki ii u a M sp qu 32).2.1) ((mw1 ki ii u a M sp qu 32).2.2.1) rF rT rD) h (.inr (5, [.int (rf), .ref (h + 1), .ref (h + 2), .ref (h + 3), .int (nt), .ref (h + 4), .ref (h + 5), .ref (h + 6), .int (np), .int (mo), .ref (h + 7), .ref (h + 8), .ref (h + 9), .int (nI 1), .ref (h + 10), .ref (h + 11), .int (wr), .int (nr), .ref (h + 12), .ref (h + 13), .ref (h + 14)]))) H := hP; rw [mW_s0] at h9; exact h9
    exact W.vret hx hb hr (fun t ht hW => ⟨⟨(mW g w h rf nt np mo (nI 1) wr nr su pr ob ki fi se (tN (mw1 ki ii u a M sp qu 32).1) nd ii ((mw1 ki ii u a M sp qu 32).2.1) ((mw1 ki ii u a M sp qu 32).2.2.1) rF rT rD), rfl, by rw [zB_t (Or.inl c_121)], cB_of ht hP⟩, hS.F ht⟩) hS.2.2 dX4_makeWalks_140
  · refine lv_iload_n hx hb dX4_makeWalks_124 rfl (lv_at hl 2 rfl) ?_
    refine lv_aload_n hx hb dX4_makeWalks_125 rfl (lv_at hl 0 rfl) ?_
    refine wd_get (ci := 5) (v := .int (mo)) (C := RX4) (T := TX4) (N := 21) hx hb hts iwX4 hown hK.1 hP (mW_0) rfl 9 (by decide) (hts _ (tg_tail _ tw_435)) (fun _ h9 => h9) rfl dX4_makeWalks_126 ?_
    refine lv_icmp_le (tgt := 136) hx hb dX4_makeWalks_129 (by decide) (fun c_129 => ?_) (fun c_129 => ?_)
    · refine lv_iconst (v := nI 0) hx hb dX4_makeWalks_136 (by decide) ?_
      refine wd_put (ci := 5) (v := .int (nI 0)) (ty := .boolean) (C := RX4) (T := TX4) (N := 21) hx hb hts iwX4 tyX4 tyX4_ok nmX4 hown hK.1 hP hS (by omega) (mW_0) rfl 13 (by decide) (hts _ (tg_tail _ tw_439)) (fun _ h9 => h9) rfl (by decide +kernel) (rfl) (rfl) (Nat.le_of_ble_eq_true rfl) dX4_makeWalks_137 (fun H locs hP hS hz => ?_)
      have hP : gP g (mW g w h rf nt np mo (nI 0) wr nr su pr ob ki fi se (tN (mw1 ki ii u a M sp qu 32).1) nd ii ((mw1 ki ii u a M sp qu 32).2.1) ((mw1 ki ii u a M sp qu 32).2.2.1) rF rT rD) H := by have h9 : gP g (wd_up (mW g w h rf nt np mo gb wr nr su pr ob ki fi se (tN (mw1 ki ii u a M sp qu 32).1) nd ii ((mw1 ki ii u a M sp qu 32).2.1) ((mw1 ki ii u a M sp qu 32).2.2.1) rF rT rD) h (.inr (5, [.int (rf), .ref (h + 1), .ref (h + 2), .ref (h + 3), .int (nt), .ref (h + 4), .ref (h + 5), .ref (h + 6), .int (np), .int (mo), .ref (h + 7), .ref (h + 8), .ref (h + 9), .int (nI 0), .ref (h + 10), .ref (h + 11), .int (wr), .int (nr), .ref (h + 12), .ref (h + 13), .ref (h + 14)]))) H := hP; rw [mW_s0] at h9; exact h9
      exact W.vret hx hb hr (fun t ht hW => ⟨⟨(mW g w h rf nt np mo (nI 0) wr nr su pr ob ki fi se (tN (mw1 ki ii u a M sp qu 32).1) nd ii ((mw1 ki ii u a M sp qu 32).2.1) ((mw1 ki ii u a M sp qu 32).2.2.1) rF rT rD), rfl, by rw [zB_f (fun q => q.elim (fun r => r c_121) (fun r => r c_129))], cB_of ht hP⟩, hS.F ht⟩) hS.2.2 dX4_makeWalks_140
    · refine lv_iconst (v := nI 1) hx hb dX4_makeWalks_132 (by decide) ?_
      refine lv_goto (tgt := 137) hx hb dX4_makeWalks_133 (by decide) ?_
      refine wd_put (ci := 5) (v := .int (nI 1)) (ty := .boolean) (C := RX4) (T := TX4) (N := 21) hx hb hts iwX4 tyX4 tyX4_ok nmX4 hown hK.1 hP hS (by omega) (mW_0) rfl 13 (by decide) (hts _ (tg_tail _ tw_439)) (fun _ h9 => h9) rfl (by decide +kernel) (rfl) (rfl) (Nat.le_of_ble_eq_true rfl) dX4_makeWalks_137 (fun H locs hP hS hz => ?_)
      have hP : gP g (mW g w h rf nt np mo (nI 1) wr nr su pr ob ki fi se (tN (mw1 ki ii u a M sp qu 32).1) nd ii ((mw1 ki ii u a M sp qu 32).2.1) ((mw1 ki ii u a M sp qu 32).2.2.1) rF rT rD) H := by have h9 : gP g (wd_up (mW g w h rf nt np mo gb wr nr su pr ob ki fi se (tN (mw1 ki ii u a M sp qu 32).1) nd ii ((mw1 ki ii u a M sp qu 32).2.1) ((mw1 ki ii u a M sp qu 32).2.2.1) rF rT rD) h (.inr (5, [.int (rf), .ref (h + 1), .ref (h + 2), .ref (h + 3), .int (nt), .ref (h + 4), .ref (h + 5), .ref (h + 6), .int (np), .int (mo), .ref (h + 7), .ref (h + 8), .ref (h + 9), .int (nI 1), .ref (h + 10), .ref (h + 11), .int (wr), .int (nr), .ref (h + 12), .ref (h + 13), .ref (h + 14)]))) H := hP; rw [mW_s0] at h9; exact h9
      exact W.vret hx hb hr (fun t ht hW => ⟨⟨(mW g w h rf nt np mo (nI 1) wr nr su pr ob ki fi se (tN (mw1 ki ii u a M sp qu 32).1) nd ii ((mw1 ki ii u a M sp qu 32).2.1) ((mw1 ki ii u a M sp qu 32).2.2.1) rF rT rD), rfl, by rw [zB_t (Or.inr c_129)], cB_of ht hP⟩, hS.F ht⟩) hS.2.2 dX4_makeWalks_140

set_option maxHeartbeats 4000000 in
set_option maxRecDepth 100000 in
theorem lp_mt0 {p : Program} {l : Launch} {e : Env} {R : Room} {s : State} {m : MethodId} {args : Array Value} {below : List Frame} {meth : Method} {c : Code} {Q : State → Prop} {H0 : Heap} {cells slots : Nat} (g : gX) (s0 : Nat) (w : wd_M) (h : Nat) (hs0 : s0 ≤ h) (rf nt np mo gb wr nr : Int32) (su pr ob ki fi se nd ii sp qu rF rT rD : Nat → Int32) (M : Nat → Nat) (u : Nat) (hu : u ≤ 40) (hx : p.tables.exec = Jvm.exec) (hb : c.code = cX4_makeTable) (hml : c.maxLocals = 4) (hown : s.vm.findClass RX4 = some m.cls) (hts : ∀ w ∈ Cond.code yX4_makeTable cX4_makeTable 4 (none) :: tg, w.before args s = true) (hK : gK g s) (h0s : s0 ≤ H0.size) (hRm : 3 ≤ R.frames ∧ 74 ≤ R.locals) (hcs : cells + 0 ≤ R.cells ∧ slots + 0 ≤ R.slots)  (kx : ∀ (H : Heap) (locs : List Loc) (ls : Array Slot), gP g (mW g w h rf nt np mo gb wr nr su pr ob ki fi se (tN (mt0 M u 1024)) nd ii sp qu rF rT rD) H → gS s0 H0 H locs → lv_has ls 4 [(0, .ref h), (1, .int (nI u)), (2, .int (nI 1024))] → W p l e R s m args below meth c H locs cells slots Q (F0 m 28 ls [])) :
    ∀ (n k : Nat), k ≤ 1024 → 1024 + 1 ≤ k + n → ∀ (H : Heap) (locs : List Loc) (ls : Array Slot), gP g (mW g w h rf nt np mo gb wr nr su pr ob ki fi se (tN (mt0 M u k)) nd ii sp qu rF rT rD) H → gS s0 H0 H locs → lv_has ls 4 [(0, .ref h), (1, .int (nI u)), (2, .int (nI k))] → W p l e R s m args below meth c H locs cells slots Q (F0 m 2 ls []) := by
  intro n
  induction n with
  | zero =>
    intro k h1 h2
    exact absurd h2 (by omega)
  | succ n ih =>
    intro k hi hin H locs ls hP hS hl
    refine lv_iload_n hx hb dX4_makeTable_2 rfl (lv_at hl 2 rfl) ?_
    refine lv_sipush (v := nI 1024) hx hb dX4_makeTable_3 (by decide +kernel) ?_
    refine lv_icmp_ge (tgt := 28) hx hb dX4_makeTable_6 (by decide) (fun c_6 => ?_) (fun c_6 => ?_)
    · have c_6 := (nI_leI (a := 1024) (b := k) (by omega) (by omega)).mp c_6
      have e9 : k = 1024 := by omega
      try rw [e9] at hP
      try rw [e9] at hl
      exact kx H locs ls hP hS (lv_sub hl [0, 1, 2] rfl)
    · have c_6 := mt (nI_leI (a := 1024) (b := k) (by omega) (by omega)).mpr c_6
      refine lv_aload_n hx hb dX4_makeTable_9 rfl (lv_at hl 0 rfl) ?_
      refine wd_get (ci := 5) (v := .ref (h + 7)) (C := RX4) (T := TX4) (N := 21) hx hb hts iwX4 hown hK.1 hP (mW_0) rfl 10 (by decide) (hts _ (tg_tail _ tw_436)) (fun _ h9 => h9) rfl dX4_makeTable_10 ?_
      refine lv_sipush (v := nI 1024) hx hb dX4_makeTable_13 (by decide +kernel) ?_
      refine lv_iload_n hx hb dX4_makeTable_16 rfl (lv_at hl 1 rfl) ?_
      refine lv_imul hx hb dX4_makeTable_17 ?_
      refine wd_ti (x' := nI (1024 * u)) (pk_mul _ _) ?_
      refine lv_iload_n hx hb dX4_makeTable_18 rfl (lv_at hl 2 rfl) ?_
      refine lv_iadd hx hb dX4_makeTable_19 ?_
      refine wd_ti (x' := nI ((1024 * u) + k)) (nI_add _ _) ?_
      refine lv_iconst (v := nI 0) hx hb dX4_makeTable_20 (by decide) ?_
      refine wd_istN hx hb hK.1 hP hS (by omega) 0 (k := ((1024 * u) + k)) (mW_7) rfl (by omega) (by decide) dX4_makeTable_21 (fun H locs hP hS hz => ?_)
      have hP : gP g (mW g w h rf nt np mo gb wr nr su pr ob ki fi se (upd (tN (mt0 M u k)) ((1024 * u) + k) (nI 0)) nd ii sp qu rF rT rD) H := by have h9 : gP g (wd_up (mW g w h rf nt np mo gb wr nr su pr ob ki fi se (tN (mt0 M u k)) nd ii sp qu rF rT rD) (h + 7) (wd_iA (g.2 0) 41984 (upd (tN (mt0 M u k)) ((1024 * u) + k) (nI 0)))) H := hP; rw [mW_s7] at h9; exact h9
      refine lv_iinc (v := nI (k + 1)) (lv' := [(2, .int (nI (k + 1))), (0, .ref h), (1, .int (nI u))]) hx hb dX4_makeTable_22 hl (k := 2) rfl (nI_1 _) (by decide) rfl (fun ls hl => ?_)
      refine lv_goto (tgt := 2) hx hb dX4_makeTable_25 (by decide) ?_
      have e8 : (mW g w h rf nt np mo gb wr nr su pr ob ki fi se (upd (tN (mt0 M u k)) ((1024 * u) + k) (nI 0)) nd ii sp qu rF rT rD) = (mW g w h rf nt np mo gb wr nr su pr ob ki fi se (tN (mt0 M u (k + 1))) nd ii sp qu rF rT rD) := by rw [mt0, tN_up]
      rw [e8] at hP
      have hl : lv_has ls 4 [(0, .ref h), (1, .int (nI u)), (2, .int (nI (k + 1)))] := lv_sub hl [1, 2, 0] rfl
      exact ih (k + 1) (by omega) (by omega) _ _ ls hP hS hl

set_option maxHeartbeats 4000000 in
set_option maxRecDepth 100000 in
theorem lp_jf2 {p : Program} {l : Launch} {e : Env} {R : Room} {s : State} {m : MethodId} {args : Array Value} {below : List Frame} {meth : Method} {c : Code} {Q : State → Prop} {H0 : Heap} {cells slots : Nat} (g : gX) (s0 : Nat) (w : wd_M) (h : Nat) (hs0 : s0 ≤ h) (rf nt np mo gb wr nr : Int32) (su pr ob ki fi se nd ii sp qu rF rT rD : Nat → Int32) (M : Nat → Nat) (hM9 : mB M) (u a b kd : Nat) (hu : u ≤ 40) (hkd : ki u = nI kd) (hk : kd = 1 ∨ kd = 2 ∨ kd = 3 ∨ kd = 6) (hfa : fi u = nI a ∧ a ≤ 40) (hfb : kd = 2 ∨ kd = 3 → se u = nI b ∧ b ≤ 40) (x : Nat) (hx1 : x < 32) (hx : p.tables.exec = Jvm.exec) (hb : c.code = cX4_makeTable) (hml : c.maxLocals = 4) (hown : s.vm.findClass RX4 = some m.cls) (hts : ∀ w ∈ Cond.code yX4_makeTable cX4_makeTable 4 (none) :: tg, w.before args s = true) (hK : gK g s) (h0s : s0 ≤ H0.size) (hRm : 3 ≤ R.frames ∧ 74 ≤ R.locals) (hcs : cells + 0 ≤ R.cells ∧ slots + 0 ≤ R.slots)  (kx : ∀ (H : Heap) (locs : List Loc) (ls : Array Slot), gP g (mW g w h rf nt np mo gb wr nr su pr ob ki fi se (tN (jf2 kd ii a b u x M 32)) nd ii sp qu rF rT rD) H → gS s0 H0 H locs → lv_has ls 4 [(0, .ref h), (1, .int (nI u)), (2, .int (nI x)), (3, .int (nI 32))] → W p l e R s m args below meth c H locs cells slots Q (F0 m 120 ls [])) :
    ∀ (n y : Nat), y ≤ 32 → 32 + 1 ≤ y + n → ∀ (H : Heap) (locs : List Loc) (ls : Array Slot), gP g (mW g w h rf nt np mo gb wr nr su pr ob ki fi se (tN (jf2 kd ii a b u x M y)) nd ii sp qu rF rT rD) H → gS s0 H0 H locs → lv_has ls 4 [(0, .ref h), (1, .int (nI u)), (2, .int (nI x)), (3, .int (nI y))] → W p l e R s m args below meth c H locs cells slots Q (F0 m 94 ls []) := by
  intro n
  induction n with
  | zero =>
    intro y h1 h2
    exact absurd h2 (by omega)
  | succ n ih =>
    intro y hi hin H locs ls hP hS hl
    refine lv_iload_n hx hb dX4_makeTable_94 rfl (lv_at hl 3 rfl) ?_
    refine lv_bipush (v := nI 32) hx hb dX4_makeTable_95 (by decide) ?_
    refine lv_icmp_ge (tgt := 120) hx hb dX4_makeTable_97 (by decide) (fun c_97 => ?_) (fun c_97 => ?_)
    · have c_97 := (nI_leI (a := 32) (b := y) (by omega) (by omega)).mp c_97
      have e9 : y = 32 := by omega
      try rw [e9] at hP
      try rw [e9] at hl
      exact kx H locs ls hP hS (lv_sub hl [0, 1, 2, 3] rfl)
    · have c_97 := mt (nI_leI (a := 32) (b := y) (by omega) (by omega)).mpr c_97
      refine lv_aload_n hx hb dX4_makeTable_100 rfl (lv_at hl 0 rfl) ?_
      refine lv_iload_n hx hb dX4_makeTable_101 rfl (lv_at hl 1 rfl) ?_
      refine lv_iload_n hx hb dX4_makeTable_102 rfl (lv_at hl 2 rfl) ?_
      refine lv_iload_n hx hb dX4_makeTable_103 rfl (lv_at hl 3 rfl) ?_
      refine lv_aload_n hx hb dX4_makeTable_104 rfl (lv_at hl 0 rfl) ?_
      refine lv_iload_n hx hb dX4_makeTable_105 rfl (lv_at hl 1 rfl) ?_
      refine lv_iload_n hx hb dX4_makeTable_106 rfl (lv_at hl 2 rfl) ?_
      refine lv_iload_n hx hb dX4_makeTable_107 rfl (lv_at hl 3 rfl) ?_
      refine cr_Vl (As := [.int (nI u), .int (nI x), .int (nI y)]) (rest := [.int (nI y), .int (nI x), .int (nI u), .ref h]) ⟨hx, hb, hml, hown, hts⟩ (c_X4_joined l g s0  w h hs0 rf nt np mo gb wr nr su pr ob ki fi se nd ii sp qu rF rT rD (jf2 kd ii a b u x M y) (jf2_B hM9 y) u a b x y kd hu (by omega) (by omega) hkd hk hfa hfb) (cw_V 3 hts tg_tail tw_577 tw_579 tp_32 tw_4 tw_580 rfl rfl (by decide +kernel) ⟨Nat.le_trans (by decide) hRm.1, Nat.le_trans (by decide) hRm.2⟩) hK hP h0s hS (mW_0) rfl rfl rfl hl.1 rfl (Nat.le_of_ble_eq_true rfl) dX4_makeTable_108 hcs (fun r9 w9 H locs hw hP hS => ?_)
      obtain ⟨e_r9, hw9⟩ := hw
      rw [hw9] at hP
      subst e_r9
      have hjn := jn_le (kd := kd) (ii := ii) (a := a) (b := b) (x := x) (y := y) (jf2_B (kd := kd) (ii := ii) (a := a) (b := b) (u := u) (x := x) hM9 y)
      refine cr_Vv (As := [.int (nI u), .int (nI x), .int (nI y), .long (lN (jn kd (jf2 kd ii a b u x M y) ii a b x y))]) (rest := []) ⟨hx, hb, hml, hown, hts⟩ (c_X4_put l g s0  w h hs0 rf nt np mo gb wr nr su pr ob ki fi se (tN (jf2 kd ii a b u x M y)) nd ii sp qu rF rT rD (u) (x) (y) (jn kd (jf2 kd ii a b u x M y) ii a b x y) (by omega) (by omega) (by omega) (by omega)) (cw_V 4 hts tg_tail tw_564 tw_566 tp_29 tw_4 tw_567 rfl rfl (by decide +kernel) ⟨Nat.le_trans (by decide) hRm.1, Nat.le_trans (by decide) hRm.2⟩) hK hP h0s hS (mW_0) rfl rfl rfl hl.1 rfl (Nat.le_of_ble_eq_true rfl) dX4_makeTable_111 hcs (fun w9 H locs hw hP hS => ?_)
      rw [hw, tN_up] at hP
      refine lv_iinc (v := nI (y + 1)) (lv' := [(3, .int (nI (y + 1))), (0, .ref h), (1, .int (nI u)), (2, .int (nI x))]) hx hb dX4_makeTable_114 hl (k := 3) rfl (nI_1 _) (by decide) rfl (fun ls hl => ?_)
      refine lv_goto (tgt := 94) hx hb dX4_makeTable_117 (by decide) ?_
      have e8 : (mW g w h rf nt np mo gb wr nr su pr ob ki fi se (tN (va_up ((jf2 kd ii a b u x M y)) (1024 * u + 32 * x + y) (min (jn kd (jf2 kd ii a b u x M y) ii a b x y) 1000000))) nd ii sp qu rF rT rD) = (mW g w h rf nt np mo gb wr nr su pr ob ki fi se (tN (jf2 kd ii a b u x M (y + 1))) nd ii sp qu rF rT rD) := by rw [jf2]
      rw [e8] at hP
      have hl : lv_has ls 4 [(0, .ref h), (1, .int (nI u)), (2, .int (nI x)), (3, .int (nI (y + 1)))] := lv_sub hl [1, 2, 3, 0] rfl
      exact ih (y + 1) (by omega) (by omega) _ _ ls hP hS hl

set_option maxHeartbeats 4000000 in
set_option maxRecDepth 100000 in
theorem lp_jf1 {p : Program} {l : Launch} {e : Env} {R : Room} {s : State} {m : MethodId} {args : Array Value} {below : List Frame} {meth : Method} {c : Code} {Q : State → Prop} {H0 : Heap} {cells slots : Nat} (g : gX) (s0 : Nat) (w : wd_M) (h : Nat) (hs0 : s0 ≤ h) (rf nt np mo gb wr nr : Int32) (su pr ob ki fi se nd ii sp qu rF rT rD : Nat → Int32) (M : Nat → Nat) (hM9 : mB M) (u a b kd : Nat) (hu : u ≤ 40) (hkd : ki u = nI kd) (hk : kd = 1 ∨ kd = 2 ∨ kd = 3 ∨ kd = 6) (hfa : fi u = nI a ∧ a ≤ 40) (hfb : kd = 2 ∨ kd = 3 → se u = nI b ∧ b ≤ 40)  (hx : p.tables.exec = Jvm.exec) (hb : c.code = cX4_makeTable) (hml : c.maxLocals = 4) (hown : s.vm.findClass RX4 = some m.cls) (hts : ∀ w ∈ Cond.code yX4_makeTable cX4_makeTable 4 (none) :: tg, w.before args s = true) (hK : gK g s) (h0s : s0 ≤ H0.size) (hRm : 3 ≤ R.frames ∧ 74 ≤ R.locals) (hcs : cells + 0 ≤ R.cells ∧ slots + 0 ≤ R.slots)  (kx : ∀ (H : Heap) (locs : List Loc) (ls : Array Slot), gP g (mW g w h rf nt np mo gb wr nr su pr ob ki fi se (tN (jf1 kd ii a b u M 32)) nd ii sp qu rF rT rD) H → gS s0 H0 H locs → lv_has ls 4 [(0, .ref h)] → W p l e R s m args below meth c H locs cells slots Q (F0 m 126 ls [])) :
    ∀ (n x : Nat), x ≤ 32 → 32 + 1 ≤ x + n → ∀ (H : Heap) (locs : List Loc) (ls : Array Slot), gP g (mW g w h rf nt np mo gb wr nr su pr ob ki fi se (tN (jf1 kd ii a b u M x)) nd ii sp qu rF rT rD) H → gS s0 H0 H locs → lv_has ls 4 [(0, .ref h), (1, .int (nI u)), (2, .int (nI x))] → W p l e R s m args below meth c H locs cells slots Q (F0 m 86 ls []) := by
  intro n
  induction n with
  | zero =>
    intro x h1 h2
    exact absurd h2 (by omega)
  | succ n ih =>
    intro x hi hin H locs ls hP hS hl
    refine lv_iload_n hx hb dX4_makeTable_86 rfl (lv_at hl 2 rfl) ?_
    refine lv_bipush (v := nI 32) hx hb dX4_makeTable_87 (by decide) ?_
    refine lv_icmp_ge (tgt := 126) hx hb dX4_makeTable_89 (by decide) (fun c_89 => ?_) (fun c_89 => ?_)
    · have c_89 := (nI_leI (a := 32) (b := x) (by omega) (by omega)).mp c_89
      have e9 : x = 32 := by omega
      try rw [e9] at hP
      try rw [e9] at hl
      exact kx H locs ls hP hS (lv_sub hl [0] rfl)
    · have c_89 := mt (nI_leI (a := 32) (b := x) (by omega) (by omega)).mpr c_89
      refine lv_iconst (v := nI 0) hx hb dX4_makeTable_92 (by decide) ?_
      refine lv_istore_n (lv' := [(3, .int (nI 0)), (0, .ref h), (1, .int (nI u)), (2, .int (nI x))]) hx hb dX4_makeTable_93 rfl hl (by decide) rfl (fun ls hl => ?_)
      have e8 : (mW g w h rf nt np mo gb wr nr su pr ob ki fi se (tN (jf1 kd ii a b u M x)) nd ii sp qu rF rT rD) = (mW g w h rf nt np mo gb wr nr su pr ob ki fi se (tN (jf2 kd ii a b u x ((jf1 kd ii a b u M x)) 0)) nd ii sp qu rF rT rD) := by rw [jf2]
      rw [e8] at hP
      have hl : lv_has ls 4 [(0, .ref h), (1, .int (nI u)), (2, .int (nI x)), (3, .int (nI 0))] := lv_sub hl [1, 2, 3, 0] rfl
      refine lp_jf2 g s0 w h hs0 rf nt np mo gb wr nr su pr ob ki fi se nd ii sp qu rF rT rD (jf1 kd ii a b u M x) (jf1_B hM9 x) u a b kd hu hkd hk hfa hfb x (by omega) hx hb hml hown hts hK h0s hRm hcs  ?_ (32 + 1) 0 (by omega) (by omega) _ _ ls hP hS hl
      intro H locs ls hP hS hl
      refine lv_iinc (v := nI (x + 1)) (lv' := [(2, .int (nI (x + 1))), (0, .ref h), (1, .int (nI u)), (3, .int (nI 32))]) hx hb dX4_makeTable_120 hl (k := 2) rfl (nI_1 _) (by decide) rfl (fun ls hl => ?_)
      refine lv_goto (tgt := 86) hx hb dX4_makeTable_123 (by decide) ?_
      have e8 : (mW g w h rf nt np mo gb wr nr su pr ob ki fi se (tN (jf2 kd ii a b u x ((jf1 kd ii a b u M x)) 32)) nd ii sp qu rF rT rD) = (mW g w h rf nt np mo gb wr nr su pr ob ki fi se (tN (jf1 kd ii a b u M (x + 1))) nd ii sp qu rF rT rD) := by rw [jf1]
      rw [e8] at hP
      have hl : lv_has ls 4 [(0, .ref h), (1, .int (nI u)), (2, .int (nI (x + 1)))] := lv_sub hl [1, 2, 0] rfl
      exact ih (x + 1) (by omega) (by omega) _ _ ls hP hS hl

set_option maxHeartbeats 4000000 in
set_option maxRecDepth 100000 in
theorem c_X4_makeTable (l : Launch) (g : gX) (s0 : Nat) (w : wd_M) (h : Nat) (hs0 : s0 ≤ h) (rf np mo gb wr nr : Int32) (su pr ob ki fi se nd ii sp qu rF rT rD : Nat → Int32) (T : Nat) (hT : T ≤ 150) (S O : Nat → Nat) (hS9 : ∀ k, k < T → su k = nI (S k) ∧ S k < 32) (hO9 : ∀ k, k < T → ob k = nI (O k) ∧ O k < 32) (M : Nat → Nat) (hM9 : mB M) (u a b kd : Nat) (hu : u ≤ 40) (hkd : ki u = nI kd) (hk : kd ≤ 7) (hfa : 1 ≤ kd → kd ≤ 6 → fi u = nI a ∧ a ≤ 40) (hfb : kd = 2 ∨ kd = 3 → se u = nI b ∧ b ≤ 40)  : Met l yX4_makeTable (Cond.code yX4_makeTable cX4_makeTable 4 (none) :: tg) ({ frames := 3, cells := 0, slots := 0, locals := 74 }) (cP g s0 (mW g w h rf (nI T) np mo gb wr nr su pr ob ki fi se (tN M) nd ii sp qu rF rT rD) [.ref h, .int (nI u)]) (cV g s0 (fun w' => w' = (mW g w h rf (nI T) np mo ((mkT ki fi se pr ii S O T mo kd u a b (M, sp, qu, gb)).2.2.2) wr nr su pr ob ki fi se (tN (mkT ki fi se pr ii S O T mo kd u a b (M, sp, qu, gb)).1) nd ii ((mkT ki fi se pr ii S O T mo kd u a b (M, sp, qu, gb)).2.1) ((mkT ki fi se pr ii S O T mo kd u a b (M, sp, qu, gb)).2.2.1) rF rT rD))) 0 0 (cA s0) := by
  refine Met.ofW (cc := cX4_makeTable) (maxL := 4) (ret := none) (by decide) rfl ?_
  intro p e s m args below meth c s₁ B9 hml hv
  obtain ⟨rfl, h0s, hP, hK⟩ := hv
  have hx := B9.exec
  have hb := B9.bytes
  have hr := B9.returns
  have hts := atoms_spec (ws := Cond.code yX4_makeTable cX4_makeTable 4 (none) :: tg) B9.pre
  have hown : s.vm.findClass RX4 = some m.cls := findClass_of_methodNamed B9.named
  have hlocks := B9.notSynchronized
  have hS : gS s0 s.heap s.heap [] := va_S.rf
  have hRm : 3 ≤ (headSpec (Cond.code yX4_makeTable cX4_makeTable 4 (none) :: tg) ({ frames := 3, cells := 0, slots := 0, locals := 74 })).room.frames ∧ 74 ≤ (headSpec (Cond.code yX4_makeTable cX4_makeTable 4 (none) :: tg) ({ frames := 3, cells := 0, slots := 0, locals := 74 })).room.locals := ⟨Nat.le_refl _, Nat.le_refl _⟩
  have hcs : 0 + 0 ≤ (headSpec (Cond.code yX4_makeTable cX4_makeTable 4 (none) :: tg) ({ frames := 3, cells := 0, slots := 0, locals := 74 })).room.cells ∧ 0 + 0 ≤ (headSpec (Cond.code yX4_makeTable cX4_makeTable 4 (none) :: tg) ({ frames := 3, cells := 0, slots := 0, locals := 74 })).room.slots := ⟨Nat.zero_le _, Nat.zero_le _⟩
  have hl := lv_entry ([.ref h, .int (nI u)]) (n := 4) (Nat.le_of_ble_eq_true rfl)
  rw [lg_entry_eq]
  generalize (lg_sl ([.ref h, .int (nI u)]) ++ List.replicate (4 - (lg_sl ([.ref h, .int (nI u)])).length) Slot.unset).toArray = ls at hl ⊢
  have hl : lv_has ls 4 [(0, .ref h), (1, .int (nI u))] := hl
  refine lv_iconst (v := nI 0) hx hb dX4_makeTable_0 (by decide) ?_
  refine lv_istore_n (lv' := [(2, .int (nI 0)), (0, .ref h), (1, .int (nI u))]) hx hb dX4_makeTable_1 rfl hl (by decide) rfl (fun ls hl => ?_)
  have e8 : (mW g w h rf (nI T) np mo gb wr nr su pr ob ki fi se (tN M) nd ii sp qu rF rT rD) = (mW g w h rf (nI T) np mo gb wr nr su pr ob ki fi se (tN (mt0 M u 0)) nd ii sp qu rF rT rD) := by rw [mt0]
  rw [e8] at hP
  have hl : lv_has ls 4 [(0, .ref h), (1, .int (nI u)), (2, .int (nI 0))] := lv_sub hl [1, 2, 0] rfl
  refine lp_mt0 g s0 w h hs0 rf (nI T) np mo gb wr nr su pr ob ki fi se nd ii sp qu rF rT rD M u hu hx hb hml hown hts hK h0s hRm hcs  ?_ (1024 + 1) 0 (by omega) (by omega) _ _ ls hP hS hl
  intro H locs ls hP hS hl
  refine lv_aload_n hx hb dX4_makeTable_28 rfl (lv_at hl 0 rfl) ?_
  refine wd_get (ci := 5) (v := .ref (h + 4)) (C := RX4) (T := TX4) (N := 21) hx hb hts iwX4 hown hK.1 hP (mW_0) rfl 5 (by decide) (hts _ (tg_tail _ tw_431)) (fun _ h9 => h9) rfl dX4_makeTable_29 ?_
  refine lv_iload_n hx hb dX4_makeTable_32 rfl (lv_at hl 1 rfl) ?_
  refine wd_ildN hx hb hK.1 hP 0 (k := u) (mW_4) rfl (by omega) (by decide) dX4_makeTable_33 ?_
  refine wd_ti (x' := nI kd) (hkd) ?_
  refine lv_if_eq (tgt := 48) hx hb dX4_makeTable_34 (by decide) (fun c_34 => ?_) (fun c_34 => ?_)
  · have c_34 := (nI_eq (a := kd) (b := 0) (by omega) (by omega)).mp (show nI kd = nI 0 from c_34)
    refine lv_aload_n hx hb dX4_makeTable_48 rfl (lv_at hl 0 rfl) ?_
    refine lv_iload_n hx hb dX4_makeTable_49 rfl (lv_at hl 1 rfl) ?_
    refine cr_Vv (As := [.int (nI u)]) (rest := []) ⟨hx, hb, hml, hown, hts⟩ (c_X4_makeLinks l g s0  w h hs0 rf np mo gb wr nr su pr ob ki fi se nd ii sp qu rF rT rD T hT S O hS9 hO9 (mt0 M u 1024) (mt0_B hM9 1024) u hu) (cw_V 1 hts tg_tail tw_556 tw_558 tp_27 tw_4 tw_559 rfl rfl (by decide +kernel) ⟨Nat.le_trans (by decide) hRm.1, Nat.le_trans (by decide) hRm.2⟩) hK hP h0s hS (mW_0) rfl rfl rfl hl.1 rfl (Nat.le_of_ble_eq_true rfl) dX4_makeTable_50 hcs (fun w9 H locs hw hP hS => ?_)
    rw [hw] at hP
    refine lv_goto (tgt := 126) hx hb dX4_makeTable_53 (by decide) ?_
    exact W.vret hx hb hr (fun t ht hW => ⟨⟨(mW g w h rf (nI T) np mo gb wr nr su pr ob ki fi se (tN (ml ki fi se pr S O u (mt0 M u 1024) T)) nd ii sp qu rF rT rD), rfl, by rw [mkT, if_pos (by omega)], cB_of ht hP⟩, hS.F ht⟩) hS.2.2 dX4_makeTable_126
  · have c_34 := mt (nI_eq (a := kd) (b := 0) (by omega) (by omega)).mpr (show ¬ (nI kd = nI 0) from c_34)
    refine lv_aload_n hx hb dX4_makeTable_37 rfl (lv_at hl 0 rfl) ?_
    refine wd_get (ci := 5) (v := .ref (h + 4)) (C := RX4) (T := TX4) (N := 21) hx hb hts iwX4 hown hK.1 hP (mW_0) rfl 5 (by decide) (hts _ (tg_tail _ tw_431)) (fun _ h9 => h9) rfl dX4_makeTable_38 ?_
    refine lv_iload_n hx hb dX4_makeTable_41 rfl (lv_at hl 1 rfl) ?_
    refine wd_ildN hx hb hK.1 hP 0 (k := u) (mW_4) rfl (by omega) (by decide) dX4_makeTable_42 ?_
    refine wd_ti (x' := nI kd) (hkd) ?_
    refine lv_bipush (v := nI 7) hx hb dX4_makeTable_43 (by decide) ?_
    refine lv_icmp_ne (tgt := 56) hx hb dX4_makeTable_45 (by decide) (fun c_45 => ?_) (fun c_45 => ?_)
    · have c_45 := mt (nI_eq (a := kd) (b := 7) (by omega) (by omega)).mpr c_45
      refine lv_aload_n hx hb dX4_makeTable_56 rfl (lv_at hl 0 rfl) ?_
      refine wd_get (ci := 5) (v := .ref (h + 4)) (C := RX4) (T := TX4) (N := 21) hx hb hts iwX4 hown hK.1 hP (mW_0) rfl 5 (by decide) (hts _ (tg_tail _ tw_431)) (fun _ h9 => h9) rfl dX4_makeTable_57 ?_
      refine lv_iload_n hx hb dX4_makeTable_60 rfl (lv_at hl 1 rfl) ?_
      refine wd_ildN hx hb hK.1 hP 0 (k := u) (mW_4) rfl (by omega) (by decide) dX4_makeTable_61 ?_
      refine wd_ti (x' := nI kd) (hkd) ?_
      refine lv_iconst (v := nI 4) hx hb dX4_makeTable_62 (by decide) ?_
      refine lv_icmp_eq (tgt := 76) hx hb dX4_makeTable_63 (by decide) (fun c_63 => ?_) (fun c_63 => ?_)
      · have c_63 := (nI_eq (a := kd) (b := 4) (by omega) (by omega)).mp c_63
        refine lv_aload_n hx hb dX4_makeTable_76 rfl (lv_at hl 0 rfl) ?_
        refine lv_iload_n hx hb dX4_makeTable_77 rfl (lv_at hl 1 rfl) ?_
        refine cr_Vv (As := [.int (nI u)]) (rest := []) ⟨hx, hb, hml, hown, hts⟩ (c_X4_makeWalks l g s0  w h hs0 rf (nI T) np mo gb wr nr su pr ob ki fi se nd ii sp qu rF rT rD (mt0 M u 1024) (mt0_B hM9 1024) u a hu (hfa (by omega) (by omega))) (cw_V 1 hts tg_tail tw_569 tw_571 tp_30 tw_4 tw_572 rfl rfl (by decide +kernel) ⟨Nat.le_trans (by decide) hRm.1, Nat.le_trans (by decide) hRm.2⟩) hK hP h0s hS (mW_0) rfl rfl rfl hl.1 rfl (Nat.le_of_ble_eq_true rfl) dX4_makeTable_78 hcs (fun w9 H locs hw hP hS => ?_)
        rw [hw] at hP
        refine lv_goto (tgt := 126) hx hb dX4_makeTable_81 (by decide) ?_
        exact W.vret hx hb hr (fun t ht hW => ⟨⟨(mW g w h rf (nI T) np mo (zB (¬ gb = 0 ∨ ¬ nI (mw1 ki ii u a (mt0 M u 1024) sp qu 32).2.2.2 ≤ mo)) wr nr su pr ob ki fi se (tN (mw1 ki ii u a (mt0 M u 1024) sp qu 32).1) nd ii ((mw1 ki ii u a (mt0 M u 1024) sp qu 32).2.1) ((mw1 ki ii u a (mt0 M u 1024) sp qu 32).2.2.1) rF rT rD), rfl, by rw [mkT, if_neg (by omega), if_pos (by omega)], cB_of ht hP⟩, hS.F ht⟩) hS.2.2 dX4_makeTable_126
      · have c_63 := mt (nI_eq (a := kd) (b := 4) (by omega) (by omega)).mpr c_63
        refine lv_aload_n hx hb dX4_makeTable_66 rfl (lv_at hl 0 rfl) ?_
        refine wd_get (ci := 5) (v := .ref (h + 4)) (C := RX4) (T := TX4) (N := 21) hx hb hts iwX4 hown hK.1 hP (mW_0) rfl 5 (by decide) (hts _ (tg_tail _ tw_431)) (fun _ h9 => h9) rfl dX4_makeTable_67 ?_
        refine lv_iload_n hx hb dX4_makeTable_70 rfl (lv_at hl 1 rfl) ?_
        refine wd_ildN hx hb hK.1 hP 0 (k := u) (mW_4) rfl (by omega) (by decide) dX4_makeTable_71 ?_
        refine wd_ti (x' := nI kd) (hkd) ?_
        refine lv_iconst (v := nI 5) hx hb dX4_makeTable_72 (by decide) ?_
        refine lv_icmp_ne (tgt := 84) hx hb dX4_makeTable_73 (by decide) (fun c_73 => ?_) (fun c_73 => ?_)
        · have c_73 := mt (nI_eq (a := kd) (b := 5) (by omega) (by omega)).mpr c_73
          refine lv_iconst (v := nI 0) hx hb dX4_makeTable_84 (by decide) ?_
          refine lv_istore_n (lv' := [(2, .int (nI 0)), (0, .ref h), (1, .int (nI u))]) hx hb dX4_makeTable_85 rfl hl (by decide) rfl (fun ls hl => ?_)
          have e8 : (mW g w h rf (nI T) np mo gb wr nr su pr ob ki fi se (tN (mt0 M u 1024)) nd ii sp qu rF rT rD) = (mW g w h rf (nI T) np mo gb wr nr su pr ob ki fi se (tN (jf1 kd ii a b u (mt0 M u 1024) 0)) nd ii sp qu rF rT rD) := by rw [jf1]
          rw [e8] at hP
          have hl : lv_has ls 4 [(0, .ref h), (1, .int (nI u)), (2, .int (nI 0))] := lv_sub hl [1, 2, 0] rfl
          refine lp_jf1 g s0 w h hs0 rf (nI T) np mo gb wr nr su pr ob ki fi se nd ii sp qu rF rT rD (mt0 M u 1024) (mt0_B hM9 1024) u a b kd hu hkd (by omega) (hfa (by omega) (by omega)) hfb hx hb hml hown hts hK h0s hRm hcs  ?_ (32 + 1) 0 (by omega) (by omega) _ _ ls hP hS hl
          intro H locs ls hP hS hl
          exact W.vret hx hb hr (fun t ht hW => ⟨⟨(mW g w h rf (nI T) np mo gb wr nr su pr ob ki fi se (tN (jf1 kd ii a b u (mt0 M u 1024) 32)) nd ii sp qu rF rT rD), rfl, by rw [mkT, if_neg (by omega), if_neg (by omega)], cB_of ht hP⟩, hS.F ht⟩) hS.2.2 dX4_makeTable_126
        · have c_73 := (nI_eq (a := kd) (b := 5) (by omega) (by omega)).mp c_73
          refine lv_aload_n hx hb dX4_makeTable_76 rfl (lv_at hl 0 rfl) ?_
          refine lv_iload_n hx hb dX4_makeTable_77 rfl (lv_at hl 1 rfl) ?_
          refine cr_Vv (As := [.int (nI u)]) (rest := []) ⟨hx, hb, hml, hown, hts⟩ (c_X4_makeWalks l g s0  w h hs0 rf (nI T) np mo gb wr nr su pr ob ki fi se nd ii sp qu rF rT rD (mt0 M u 1024) (mt0_B hM9 1024) u a hu (hfa (by omega) (by omega))) (cw_V 1 hts tg_tail tw_569 tw_571 tp_30 tw_4 tw_572 rfl rfl (by decide +kernel) ⟨Nat.le_trans (by decide) hRm.1, Nat.le_trans (by decide) hRm.2⟩) hK hP h0s hS (mW_0) rfl rfl rfl hl.1 rfl (Nat.le_of_ble_eq_true rfl) dX4_makeTable_78 hcs (fun w9 H locs hw hP hS => ?_)
          rw [hw] at hP
          refine lv_goto (tgt := 126) hx hb dX4_makeTable_81 (by decide) ?_
          exact W.vret hx hb hr (fun t ht hW => ⟨⟨(mW g w h rf (nI T) np mo (zB (¬ gb = 0 ∨ ¬ nI (mw1 ki ii u a (mt0 M u 1024) sp qu 32).2.2.2 ≤ mo)) wr nr su pr ob ki fi se (tN (mw1 ki ii u a (mt0 M u 1024) sp qu 32).1) nd ii ((mw1 ki ii u a (mt0 M u 1024) sp qu 32).2.1) ((mw1 ki ii u a (mt0 M u 1024) sp qu 32).2.2.1) rF rT rD), rfl, by rw [mkT, if_neg (by omega), if_pos (by omega)], cB_of ht hP⟩, hS.F ht⟩) hS.2.2 dX4_makeTable_126
    · have c_45 := (nI_eq (a := kd) (b := 7) (by omega) (by omega)).mp c_45
      refine lv_aload_n hx hb dX4_makeTable_48 rfl (lv_at hl 0 rfl) ?_
      refine lv_iload_n hx hb dX4_makeTable_49 rfl (lv_at hl 1 rfl) ?_
      refine cr_Vv (As := [.int (nI u)]) (rest := []) ⟨hx, hb, hml, hown, hts⟩ (c_X4_makeLinks l g s0  w h hs0 rf np mo gb wr nr su pr ob ki fi se nd ii sp qu rF rT rD T hT S O hS9 hO9 (mt0 M u 1024) (mt0_B hM9 1024) u hu) (cw_V 1 hts tg_tail tw_556 tw_558 tp_27 tw_4 tw_559 rfl rfl (by decide +kernel) ⟨Nat.le_trans (by decide) hRm.1, Nat.le_trans (by decide) hRm.2⟩) hK hP h0s hS (mW_0) rfl rfl rfl hl.1 rfl (Nat.le_of_ble_eq_true rfl) dX4_makeTable_50 hcs (fun w9 H locs hw hP hS => ?_)
      rw [hw] at hP
      refine lv_goto (tgt := 126) hx hb dX4_makeTable_53 (by decide) ?_
      exact W.vret hx hb hr (fun t ht hW => ⟨⟨(mW g w h rf (nI T) np mo gb wr nr su pr ob ki fi se (tN (ml ki fi se pr S O u (mt0 M u 1024) T)) nd ii sp qu rF rT rD), rfl, by rw [mkT, if_pos (by omega)], cB_of ht hP⟩, hS.F ht⟩) hS.2.2 dX4_makeTable_126
end
section
/-! THE REFERENCE: prepare, plain -/
/-- the PATHS as the reference keeps them: kinds K, parts A and B -/
def hK9 (P : Nat) (ki fi se : Nat → Int32) (K A B : Nat → Nat) : Prop := ∀ q, 1 ≤ q → q ≤ P → ki q = nI (K q) ∧ K q ≤ 7 ∧ (1 ≤ K q → K q ≤ 6 → fi q = nI (A q) ∧ A q ≤ 40) ∧ (K q = 2 ∨ K q = 3 → se q = nI (B q) ∧ B q ≤ 40)
theorem hK9.a {P : Nat} {ki fi se : Nat → Int32} {K A B : Nat → Nat} (h : hK9 P ki fi se K A B) : ∀ q, 1 ≤ q → q ≤ P → (nI 1 ≤ ki q ∧ ki q ≤ nI 6) → fi q = nI (A q) ∧ A q ≤ 40 := by
  intro q h1 h2 h3
  obtain ⟨e1, e2, e3, e4⟩ := h q h1 h2
  rw [e1, nI_leI (by decide) (by omega), nI_leI (by omega) (by decide)] at h3
  exact e3 h3.1 h3.2
theorem hK9.b {P : Nat} {ki fi se : Nat → Int32} {K A B : Nat → Nat} (h : hK9 P ki fi se K A B) : ∀ q, 1 ≤ q → q ≤ P → (nI 2 ≤ ki q ∧ ki q ≤ nI 3) → se q = nI (B q) ∧ B q ≤ 40 := by
  intro q h1 h2 h3
  obtain ⟨e1, e2, e3, e4⟩ := h q h1 h2
  rw [e1, nI_leI (by decide) (by omega), nI_leI (by omega) (by decide)] at h3
  exact e4 (by omega)
def pp1 (ki fi se pr ii : Nat → Int32) (S O K A B : Nat → Nat) (T : Nat) (mo : Int32) (N : Nat → Int32) (t : mS) : Nat → mS
  | 0 => t
  | k + 1 => if N (k + 1) = 0 then pp1 ki fi se pr ii S O K A B T mo N t k else mkT ki fi se pr ii S O T mo (K (k + 1)) (k + 1) (A (k + 1)) (B (k + 1)) (pp1 ki fi se pr ii S O K A B T mo N t k)
termination_by k => k
theorem pp1_B {ki fi se pr ii : Nat → Int32} {S O K A B : Nat → Nat} {T : Nat} {mo : Int32} {N : Nat → Int32} {t : mS} (h : mB t.1) : ∀ k, mB (pp1 ki fi se pr ii S O K A B T mo N t k).1 := by
  intro k
  induction k with
  | zero => rw [pp1]; exact h
  | succ k ih =>
    rw [pp1]
    split
    · exact ih
    · exact mkT_B ih
def sm2 (M : Nat → Nat) (u : Nat) (sv ov : Int32) (x n0 : Nat) : Nat → Nat
  | 0 => n0
  | y + 1 => if (sv < 0 ∨ sv = nI x) ∧ (ov < 0 ∨ ov = nI y) then sm2 M u sv ov x n0 y + M (1024 * u + 32 * x + y) else sm2 M u sv ov x n0 y
termination_by y => y
def sm1 (M : Nat → Nat) (u : Nat) (sv ov : Int32) : Nat → Nat
  | 0 => 0
  | x + 1 => sm2 M u sv ov x (sm1 M u sv ov x) 32
termination_by x => x
set_option maxRecDepth 100000 in
theorem sm2_le {M : Nat → Nat} {u : Nat} {sv ov : Int32} {x n0 : Nat} (h : mB M) : ∀ y, n0 ≤ sm2 M u sv ov x n0 y ∧ sm2 M u sv ov x n0 y ≤ n0 + y * 1000000 := by
  intro y
  induction y with
  | zero => rw [sm2]; omega
  | succ y ih =>
    have h9 : M (1024 * u + 32 * x + y) ≤ 1000000 := h (1024 * u + 32 * x + y)
    rw [sm2]
    generalize sm2 M u sv ov x n0 y = s9 at ih ⊢
    generalize M (1024 * u + 32 * x + y) = v9 at h9 ⊢
    by_cases c9 : (sv < 0 ∨ sv = nI x) ∧ (ov < 0 ∨ ov = nI y)
    · rw [if_pos c9]
      clear c9
      omega
    · rw [if_neg c9]
      exact ⟨ih.1, Nat.le_trans ih.2 (Nat.add_le_add_left (Nat.mul_le_mul_right _ (Nat.le_succ y)) n0)⟩
theorem sm2_mono {M : Nat → Nat} {u : Nat} {sv ov : Int32} {x n0 : Nat} : ∀ d y, sm2 M u sv ov x n0 y ≤ sm2 M u sv ov x n0 (y + d) := by
  intro d y
  induction d with
  | zero => exact Nat.le_refl _
  | succ d ih =>
    show _ ≤ sm2 M u sv ov x n0 (y + d + 1)
    rw [sm2.eq_2]
    split <;> omega
set_option maxRecDepth 100000 in
theorem sm1_le {M : Nat → Nat} {u : Nat} {sv ov : Int32} (h : mB M) : ∀ x, sm1 M u sv ov x ≤ x * 32000000 := by
  intro x
  induction x with
  | zero => rw [sm1]; omega
  | succ x ih =>
    rw [sm1]
    have := (sm2_le (u := u) (sv := sv) (ov := ov) (x := x) (n0 := sm1 M u sv ov x) h 32).2
    omega
theorem sm1_mono {M : Nat → Nat} {u : Nat} {sv ov : Int32} (h : mB M) : ∀ d x, sm1 M u sv ov x ≤ sm1 M u sv ov (x + d) := by
  intro d x
  induction d with
  | zero => exact Nat.le_refl _
  | succ d ih =>
    show _ ≤ sm1 M u sv ov (x + d + 1)
    rw [sm1.eq_2]
    have := (sm2_le (u := u) (sv := sv) (ov := ov) (x := x + d) (n0 := sm1 M u sv ov (x + d)) h 32).1
    omega
set_option maxHeartbeats 4000000 in
set_option maxRecDepth 100000 in
theorem lp_pp1 {p : Program} {l : Launch} {e : Env} {R : Room} {s : State} {m : MethodId} {args : Array Value} {below : List Frame} {meth : Method} {c : Code} {Q : State → Prop} {H0 : Heap} {cells slots : Nat} (g : gX) (s0 : Nat) (w : wd_M) (h : Nat) (hs0 : s0 ≤ h) (rf mo gb wr nr : Int32) (su pr ob ki fi se nd ii sp qu rF rT rD : Nat → Int32) (P : Nat) (hP4 : P ≤ 40) (T : Nat) (hT : T ≤ 150) (S O : Nat → Nat) (hS9 : ∀ k, k < T → su k = nI (S k) ∧ S k < 32) (hO9 : ∀ k, k < T → ob k = nI (O k) ∧ O k < 32) (M : Nat → Nat) (hM9 : mB M) (K A B : Nat → Nat) (hKK : hK9 P ki fi se K A B) (u : Nat) (hu1 : 1 ≤ u) (hu : u ≤ P) (sv ov : Int32)  (hx : p.tables.exec = Jvm.exec) (hb : c.code = cX4_prepare) (hml : c.maxLocals = 7) (hown : s.vm.findClass RX4 = some m.cls) (hts : ∀ w ∈ Cond.code yX4_prepare cX4_prepare 7 (some .int) :: tg, w.before args s = true) (hK : gK g s) (h0s : s0 ≤ H0.size) (hRm : 4 ≤ R.frames ∧ 97 ≤ R.locals) (hcs : cells + 0 ≤ R.cells ∧ slots + 0 ≤ R.slots)  (kx : ∀ (H : Heap) (locs : List Loc) (ls : Array Slot), gP g (mW g w h rf (nI T) (nI P) mo ((pp1 ki fi se pr ii S O K A B T mo nd (M, sp, qu, gb) u).2.2.2) wr nr su pr ob ki fi se (tN (pp1 ki fi se pr ii S O K A B T mo nd (M, sp, qu, gb) u).1) nd ii ((pp1 ki fi se pr ii S O K A B T mo nd (M, sp, qu, gb) u).2.1) ((pp1 ki fi se pr ii S O K A B T mo nd (M, sp, qu, gb) u).2.2.1) rF rT rD) H → gS s0 H0 H locs → lv_has ls 7 [(0, .ref h), (1, .int (nI u)), (2, .int (sv)), (3, .int (ov))] → W p l e R s m args below meth c H locs cells slots Q (F0 m 47 ls [])) :
    ∀ (n k : Nat), k ≤ u → u + 1 ≤ k + n → ∀ (H : Heap) (locs : List Loc) (ls : Array Slot), gP g (mW g w h rf (nI T) (nI P) mo ((pp1 ki fi se pr ii S O K A B T mo nd (M, sp, qu, gb) k).2.2.2) wr nr su pr ob ki fi se (tN (pp1 ki fi se pr ii S O K A B T mo nd (M, sp, qu, gb) k).1) nd ii ((pp1 ki fi se pr ii S O K A B T mo nd (M, sp, qu, gb) k).2.1) ((pp1 ki fi se pr ii S O K A B T mo nd (M, sp, qu, gb) k).2.2.1) rF rT rD) H → gS s0 H0 H locs → lv_has ls 7 [(0, .ref h), (1, .int (nI u)), (2, .int (sv)), (3, .int (ov)), (4, .int (nI (k + 1)))] → W p l e R s m args below meth c H locs cells slots Q (F0 m 19 ls []) := by
  intro n
  induction n with
  | zero =>
    intro k h1 h2
    exact absurd h2 (by omega)
  | succ n ih =>
    intro k hi hin H locs ls hP hS hl
    refine lv_iload hx hb dX4_prepare_19 (lv_at hl 4 rfl) ?_
    refine lv_iload_n hx hb dX4_prepare_21 rfl (lv_at hl 1 rfl) ?_
    refine lv_icmp_gt (tgt := 47) hx hb dX4_prepare_22 (by decide) (fun c_22 => ?_) (fun c_22 => ?_)
    · have c_22 := (nI_ltI (a := u) (b := (k + 1)) (by omega) (by omega)).mp c_22
      have e9 : k = u := by omega
      try rw [e9] at hP
      try rw [e9] at hl
      exact kx H locs ls hP hS (lv_sub hl [0, 1, 2, 3] rfl)
    · have c_22 := mt (nI_ltI (a := u) (b := (k + 1)) (by omega) (by omega)).mpr c_22
      refine lv_aload_n hx hb dX4_prepare_25 rfl (lv_at hl 0 rfl) ?_
      refine wd_get (ci := 5) (v := .ref (h + 8)) (C := RX4) (T := TX4) (N := 21) hx hb hts iwX4 hown hK.1 hP (mW_0) rfl 11 (by decide) (hts _ (tg_tail _ tw_437)) (fun _ h9 => h9) rfl dX4_prepare_26 ?_
      refine lv_iload hx hb dX4_prepare_29 (lv_at hl 4 rfl) ?_
      refine wd_zldN hx hb hK.1 hP 1 (k := (k + 1)) (mW_8) rfl (by omega) (by decide) dX4_prepare_31 ?_
      refine lv_if_eq (tgt := 41) hx hb dX4_prepare_32 (by decide) (fun c_32 => ?_) (fun c_32 => ?_)
      · refine lv_iinc (v := nI (k + 1 + 1)) (lv' := [(4, .int (nI (k + 1 + 1))), (0, .ref h), (1, .int (nI u)), (2, .int (sv)), (3, .int (ov))]) hx hb dX4_prepare_41 hl (k := 4) rfl (nI_1 _) (by decide) rfl (fun ls hl => ?_)
        refine lv_goto (tgt := 19) hx hb dX4_prepare_44 (by decide) ?_
        have e8 : (mW g w h rf (nI T) (nI P) mo ((pp1 ki fi se pr ii S O K A B T mo nd (M, sp, qu, gb) k).2.2.2) wr nr su pr ob ki fi se (tN (pp1 ki fi se pr ii S O K A B T mo nd (M, sp, qu, gb) k).1) nd ii ((pp1 ki fi se pr ii S O K A B T mo nd (M, sp, qu, gb) k).2.1) ((pp1 ki fi se pr ii S O K A B T mo nd (M, sp, qu, gb) k).2.2.1) rF rT rD) = (mW g w h rf (nI T) (nI P) mo ((pp1 ki fi se pr ii S O K A B T mo nd (M, sp, qu, gb) (k + 1)).2.2.2) wr nr su pr ob ki fi se (tN (pp1 ki fi se pr ii S O K A B T mo nd (M, sp, qu, gb) (k + 1)).1) nd ii ((pp1 ki fi se pr ii S O K A B T mo nd (M, sp, qu, gb) (k + 1)).2.1) ((pp1 ki fi se pr ii S O K A B T mo nd (M, sp, qu, gb) (k + 1)).2.2.1) rF rT rD) := by rw [pp1, if_pos c_32]
        rw [e8] at hP
        have hl : lv_has ls 7 [(0, .ref h), (1, .int (nI u)), (2, .int (sv)), (3, .int (ov)), (4, .int (nI (k + 1 + 1)))] := lv_sub hl [1, 2, 3, 4, 0] rfl
        have e8 : ([(0, .ref h), (1, .int (nI u)), (2, .int (sv)), (3, .int (ov)), (4, .int (nI (k + 1 + 1)))] : List (Nat × Value)) = [(0, .ref h), (1, .int (nI u)), (2, .int (sv)), (3, .int (ov)), (4, .int (nI ((k + 1) + 1)))] := by rfl
        rw [e8] at hl
        exact ih (k + 1) (by omega) (by omega) _ _ ls hP hS hl
      · refine lv_aload_n hx hb dX4_prepare_35 rfl (lv_at hl 0 rfl) ?_
        refine lv_iload hx hb dX4_prepare_36 (lv_at hl 4 rfl) ?_
        obtain ⟨g1, g2, g3, g4⟩ := hKK (k + 1) (by omega) (by omega)
        refine cr_Vv (As := [.int (nI (k + 1))]) (rest := []) ⟨hx, hb, hml, hown, hts⟩ (c_X4_makeTable l g s0  w h hs0 rf (nI P) mo ((pp1 ki fi se pr ii S O K A B T mo nd (M, sp, qu, gb) k).2.2.2) wr nr su pr ob ki fi se nd ii ((pp1 ki fi se pr ii S O K A B T mo nd (M, sp, qu, gb) k).2.1) ((pp1 ki fi se pr ii S O K A B T mo nd (M, sp, qu, gb) k).2.2.1) rF rT rD T hT S O hS9 hO9 (pp1 ki fi se pr ii S O K A B T mo nd (M, sp, qu, gb) k).1 (pp1_B hM9 k) (k + 1) (A (k + 1)) (B (k + 1)) (K (k + 1)) (by omega) g1 g2 g3 g4) (cw_V 1 hts tg_tail tw_552 tw_554 tp_26 tw_4 tw_555 rfl rfl (by decide +kernel) ⟨Nat.le_trans (by decide) hRm.1, Nat.le_trans (by decide) hRm.2⟩) hK hP h0s hS (mW_0) rfl rfl rfl hl.1 rfl (Nat.le_of_ble_eq_true rfl) dX4_prepare_38 hcs (fun w9 H locs hw hP hS => ?_)
        rw [hw] at hP
        have f9 : (pp1 ki fi se pr ii S O K A B T mo nd (M, sp, qu, gb) (k + 1)) = (mkT ki fi se pr ii S O T mo (K (k + 1)) (k + 1) (A (k + 1)) (B (k + 1)) (pp1 ki fi se pr ii S O K A B T mo nd (M, sp, qu, gb) k)) := by rw [pp1, if_neg c_32]
        refine lv_iinc (v := nI (k + 1 + 1)) (lv' := [(4, .int (nI (k + 1 + 1))), (0, .ref h), (1, .int (nI u)), (2, .int (sv)), (3, .int (ov))]) hx hb dX4_prepare_41 hl (k := 4) rfl (nI_1 _) (by decide) rfl (fun ls hl => ?_)
        refine lv_goto (tgt := 19) hx hb dX4_prepare_44 (by decide) ?_
        rw [show ((pp1 ki fi se pr ii S O K A B T mo nd (M, sp, qu, gb) k).1, (pp1 ki fi se pr ii S O K A B T mo nd (M, sp, qu, gb) k).2.1, (pp1 ki fi se pr ii S O K A B T mo nd (M, sp, qu, gb) k).2.2.1, (pp1 ki fi se pr ii S O K A B T mo nd (M, sp, qu, gb) k).2.2.2) = (pp1 ki fi se pr ii S O K A B T mo nd (M, sp, qu, gb) k) from rfl, ← f9] at hP
        have hl : lv_has ls 7 [(0, .ref h), (1, .int (nI u)), (2, .int (sv)), (3, .int (ov)), (4, .int (nI (k + 1 + 1)))] := lv_sub hl [1, 2, 3, 4, 0] rfl
        have e8 : ([(0, .ref h), (1, .int (nI u)), (2, .int (sv)), (3, .int (ov)), (4, .int (nI (k + 1 + 1)))] : List (Nat × Value)) = [(0, .ref h), (1, .int (nI u)), (2, .int (sv)), (3, .int (ov)), (4, .int (nI ((k + 1) + 1)))] := by rfl
        rw [e8] at hl
        exact ih (k + 1) (by omega) (by omega) _ _ ls hP hS hl

set_option maxHeartbeats 4000000 in
set_option maxRecDepth 100000 in
theorem lp_sm2 {p : Program} {l : Launch} {e : Env} {R : Room} {s : State} {m : MethodId} {args : Array Value} {below : List Frame} {meth : Method} {c : Code} {Q : State → Prop} {H0 : Heap} {cells slots : Nat} (g : gX) (s0 : Nat) (w : wd_M) (h : Nat) (hs0 : s0 ≤ h) (rf nt np mo gb wr nr : Int32) (su pr ob ki fi se nd ii sp qu rF rT rD : Nat → Int32) (M : Nat → Nat) (u x n0 : Nat) (hu : u ≤ 40) (hx1 : x < 32) (sv ov : Int32) (hx : p.tables.exec = Jvm.exec) (hb : c.code = cX4_prepare) (hml : c.maxLocals = 7) (hown : s.vm.findClass RX4 = some m.cls) (hts : ∀ w ∈ Cond.code yX4_prepare cX4_prepare 7 (some .int) :: tg, w.before args s = true) (hK : gK g s) (h0s : s0 ≤ H0.size) (hRm : 4 ≤ R.frames ∧ 97 ≤ R.locals) (hcs : cells + 0 ≤ R.cells ∧ slots + 0 ≤ R.slots)  (kx : ∀ (H : Heap) (locs : List Loc) (ls : Array Slot), gP g (mW g w h rf nt np mo gb wr nr su pr ob ki fi se (tN M) nd ii sp qu rF rT rD) H → gS s0 H0 H locs → lv_has ls 7 [(0, .ref h), (1, .int (nI u)), (2, .int (sv)), (3, .int (ov)), (4, .int (nI (sm2 M u sv ov x n0 32))), (5, .int (nI x))] → W p l e R s m args below meth c H locs cells slots Q (F0 m 107 ls [])) :
    ∀ (n y : Nat), y ≤ 32 → 32 + 1 ≤ y + n → ∀ (H : Heap) (locs : List Loc) (ls : Array Slot), gP g (mW g w h rf nt np mo gb wr nr su pr ob ki fi se (tN M) nd ii sp qu rF rT rD) H → gS s0 H0 H locs → lv_has ls 7 [(0, .ref h), (1, .int (nI u)), (2, .int (sv)), (3, .int (ov)), (4, .int (nI (sm2 M u sv ov x n0 y))), (5, .int (nI x)), (6, .int (nI y))] → W p l e R s m args below meth c H locs cells slots Q (F0 m 63 ls []) := by
  intro n
  induction n with
  | zero =>
    intro y h1 h2
    exact absurd h2 (by omega)
  | succ n ih =>
    intro y hi hin H locs ls hP hS hl
    refine lv_iload hx hb dX4_prepare_63 (lv_at hl 6 rfl) ?_
    refine lv_bipush (v := nI 32) hx hb dX4_prepare_65 (by decide) ?_
    refine lv_icmp_ge (tgt := 107) hx hb dX4_prepare_67 (by decide) (fun c_67 => ?_) (fun c_67 => ?_)
    · have c_67 := (nI_leI (a := 32) (b := y) (by omega) (by omega)).mp c_67
      have e9 : y = 32 := by omega
      try rw [e9] at hP
      try rw [e9] at hl
      exact kx H locs ls hP hS (lv_sub hl [0, 1, 2, 3, 4, 5] rfl)
    · have c_67 := mt (nI_leI (a := 32) (b := y) (by omega) (by omega)).mpr c_67
      refine lv_iload hx hb dX4_prepare_70 (lv_at hl 5 rfl) ?_
      refine lv_iload hx hb dX4_prepare_72 (lv_at hl 6 rfl) ?_
      refine lv_iload_n hx hb dX4_prepare_74 rfl (lv_at hl 2 rfl) ?_
      refine lv_iload_n hx hb dX4_prepare_75 rfl (lv_at hl 3 rfl) ?_
      refine cr_Si (As := [.int (nI x), .int (nI y), .int (sv), .int (ov)]) (rest := []) ⟨hx, hb, hml, hown, hts⟩ (c_X4_fits l g s0 (mW g w h rf nt np mo gb wr nr su pr ob ki fi se (tN M) nd ii sp qu rF rT rD) (nI x) (nI y) sv ov) (cw_S 4 hts tg_tail tw_581 tw_582 tw_4 tw_583 rfl rfl (by decide +kernel) ⟨Nat.le_trans (by decide) hRm.1, Nat.le_trans (by decide) hRm.2⟩) hK hP h0s hS rfl hl.1 rfl (Nat.le_of_ble_eq_true rfl) dX4_prepare_76 hcs (fun r9 w9 H locs hw hP hS => ?_)
      obtain ⟨e_r9, hw9⟩ := hw
      rw [hw9] at hP
      subst e_r9
      refine lv_if_eq (tgt := 97) hx hb dX4_prepare_79 (by decide) (fun c_79 => ?_) (fun c_79 => ?_)
      · have c_79 := zB_0.mp c_79
        refine lv_iload hx hb dX4_prepare_97 (lv_at hl 4 rfl) ?_
        refine lv_istore (lv' := [(4, .int (nI (sm2 M u sv ov x n0 y))), (0, .ref h), (1, .int (nI u)), (2, .int (sv)), (3, .int (ov)), (5, .int (nI x)), (6, .int (nI y))]) hx hb dX4_prepare_99 hl (by decide) rfl (fun ls hl => ?_)
        refine lv_iinc (v := nI (y + 1)) (lv' := [(6, .int (nI (y + 1))), (4, .int (nI (sm2 M u sv ov x n0 y))), (0, .ref h), (1, .int (nI u)), (2, .int (sv)), (3, .int (ov)), (5, .int (nI x))]) hx hb dX4_prepare_101 hl (k := 6) rfl (nI_1 _) (by decide) rfl (fun ls hl => ?_)
        refine lv_goto (tgt := 63) hx hb dX4_prepare_104 (by decide) ?_
        have hl : lv_has ls 7 [(0, .ref h), (1, .int (nI u)), (2, .int (sv)), (3, .int (ov)), (4, .int (nI (sm2 M u sv ov x n0 y))), (5, .int (nI x)), (6, .int (nI (y + 1)))] := lv_sub hl [2, 3, 4, 5, 1, 6, 0] rfl
        have e8 : ([(0, .ref h), (1, .int (nI u)), (2, .int (sv)), (3, .int (ov)), (4, .int (nI (sm2 M u sv ov x n0 y))), (5, .int (nI x)), (6, .int (nI (y + 1)))] : List (Nat × Value)) = [(0, .ref h), (1, .int (nI u)), (2, .int (sv)), (3, .int (ov)), (4, .int (nI (sm2 M u sv ov x n0 (y + 1)))), (5, .int (nI x)), (6, .int (nI (y + 1)))] := by rw [sm2, if_neg c_79]
        rw [e8] at hl
        exact ih (y + 1) (by omega) (by omega) _ _ ls hP hS hl
      · have c_79 := zB_1.mp c_79
        refine lv_iload hx hb dX4_prepare_82 (lv_at hl 4 rfl) ?_
        refine lv_aload_n hx hb dX4_prepare_84 rfl (lv_at hl 0 rfl) ?_
        refine lv_iload_n hx hb dX4_prepare_85 rfl (lv_at hl 1 rfl) ?_
        refine lv_iload hx hb dX4_prepare_86 (lv_at hl 5 rfl) ?_
        refine lv_iload hx hb dX4_prepare_88 (lv_at hl 6 rfl) ?_
        refine cr_Vi (As := [.int (nI u), .int (nI x), .int (nI y)]) (rest := [.int (nI (sm2 M u sv ov x n0 y))]) ⟨hx, hb, hml, hown, hts⟩ (c_X4_cell l g s0  w h hs0 rf nt np mo gb wr nr su pr ob ki fi se (tN M) nd ii sp qu rF rT rD (u) (x) (y) (by omega) (by omega) (by omega)) (cw_V 3 hts tg_tail tw_560 tw_562 tp_28 tw_4 tw_563 rfl rfl (by decide +kernel) ⟨Nat.le_trans (by decide) hRm.1, Nat.le_trans (by decide) hRm.2⟩) hK hP h0s hS (mW_0) rfl rfl rfl hl.1 rfl (Nat.le_of_ble_eq_true rfl) dX4_prepare_90 hcs (fun r9 w9 H locs hw hP hS => ?_)
        obtain ⟨e_r9, hw9⟩ := hw
        rw [hw9] at hP
        subst e_r9
        refine wd_ti (x' := nI (M (1024 * u + 32 * x + y))) (rfl) ?_
        refine lv_iadd hx hb dX4_prepare_93 ?_
        refine wd_ti (x' := nI ((sm2 M u sv ov x n0 y) + (M (1024 * u + 32 * x + y)))) (nI_add _ _) ?_
        refine lv_goto (tgt := 99) hx hb dX4_prepare_94 (by decide) ?_
        refine lv_istore (lv' := [(4, .int (nI ((sm2 M u sv ov x n0 y) + (M (1024 * u + 32 * x + y))))), (0, .ref h), (1, .int (nI u)), (2, .int (sv)), (3, .int (ov)), (5, .int (nI x)), (6, .int (nI y))]) hx hb dX4_prepare_99 hl (by decide) rfl (fun ls hl => ?_)
        refine lv_iinc (v := nI (y + 1)) (lv' := [(6, .int (nI (y + 1))), (4, .int (nI ((sm2 M u sv ov x n0 y) + (M (1024 * u + 32 * x + y))))), (0, .ref h), (1, .int (nI u)), (2, .int (sv)), (3, .int (ov)), (5, .int (nI x))]) hx hb dX4_prepare_101 hl (k := 6) rfl (nI_1 _) (by decide) rfl (fun ls hl => ?_)
        refine lv_goto (tgt := 63) hx hb dX4_prepare_104 (by decide) ?_
        have hl : lv_has ls 7 [(0, .ref h), (1, .int (nI u)), (2, .int (sv)), (3, .int (ov)), (4, .int (nI ((sm2 M u sv ov x n0 y) + (M (1024 * u + 32 * x + y))))), (5, .int (nI x)), (6, .int (nI (y + 1)))] := lv_sub hl [2, 3, 4, 5, 1, 6, 0] rfl
        have e8 : ([(0, .ref h), (1, .int (nI u)), (2, .int (sv)), (3, .int (ov)), (4, .int (nI ((sm2 M u sv ov x n0 y) + (M (1024 * u + 32 * x + y))))), (5, .int (nI x)), (6, .int (nI (y + 1)))] : List (Nat × Value)) = [(0, .ref h), (1, .int (nI u)), (2, .int (sv)), (3, .int (ov)), (4, .int (nI (sm2 M u sv ov x n0 (y + 1)))), (5, .int (nI x)), (6, .int (nI (y + 1)))] := by rw [sm2, if_pos c_79]
        rw [e8] at hl
        exact ih (y + 1) (by omega) (by omega) _ _ ls hP hS hl

set_option maxHeartbeats 4000000 in
set_option maxRecDepth 100000 in
theorem lp_sm1 {p : Program} {l : Launch} {e : Env} {R : Room} {s : State} {m : MethodId} {args : Array Value} {below : List Frame} {meth : Method} {c : Code} {Q : State → Prop} {H0 : Heap} {cells slots : Nat} (g : gX) (s0 : Nat) (w : wd_M) (h : Nat) (hs0 : s0 ≤ h) (rf nt np mo gb wr nr : Int32) (su pr ob ki fi se nd ii sp qu rF rT rD : Nat → Int32) (M : Nat → Nat) (u : Nat) (hu : u ≤ 40) (sv ov : Int32) (hx : p.tables.exec = Jvm.exec) (hb : c.code = cX4_prepare) (hml : c.maxLocals = 7) (hown : s.vm.findClass RX4 = some m.cls) (hts : ∀ w ∈ Cond.code yX4_prepare cX4_prepare 7 (some .int) :: tg, w.before args s = true) (hK : gK g s) (h0s : s0 ≤ H0.size) (hRm : 4 ≤ R.frames ∧ 97 ≤ R.locals) (hcs : cells + 0 ≤ R.cells ∧ slots + 0 ≤ R.slots)  (kx : ∀ (H : Heap) (locs : List Loc) (ls : Array Slot), gP g (mW g w h rf nt np mo gb wr nr su pr ob ki fi se (tN M) nd ii sp qu rF rT rD) H → gS s0 H0 H locs → lv_has ls 7 [(0, .ref h), (4, .int (nI (sm1 M u sv ov 32)))] → W p l e R s m args below meth c H locs cells slots Q (F0 m 113 ls [])) :
    ∀ (n x : Nat), x ≤ 32 → 32 + 1 ≤ x + n → ∀ (H : Heap) (locs : List Loc) (ls : Array Slot), gP g (mW g w h rf nt np mo gb wr nr su pr ob ki fi se (tN M) nd ii sp qu rF rT rD) H → gS s0 H0 H locs → lv_has ls 7 [(0, .ref h), (1, .int (nI u)), (2, .int (sv)), (3, .int (ov)), (4, .int (nI (sm1 M u sv ov x))), (5, .int (nI x))] → W p l e R s m args below meth c H locs cells slots Q (F0 m 53 ls []) := by
  intro n
  induction n with
  | zero =>
    intro x h1 h2
    exact absurd h2 (by omega)
  | succ n ih =>
    intro x hi hin H locs ls hP hS hl
    refine lv_iload hx hb dX4_prepare_53 (lv_at hl 5 rfl) ?_
    refine lv_bipush (v := nI 32) hx hb dX4_prepare_55 (by decide) ?_
    refine lv_icmp_ge (tgt := 113) hx hb dX4_prepare_57 (by decide) (fun c_57 => ?_) (fun c_57 => ?_)
    · have c_57 := (nI_leI (a := 32) (b := x) (by omega) (by omega)).mp c_57
      have e9 : x = 32 := by omega
      try rw [e9] at hP
      try rw [e9] at hl
      exact kx H locs ls hP hS (lv_sub hl [0, 4] rfl)
    · have c_57 := mt (nI_leI (a := 32) (b := x) (by omega) (by omega)).mpr c_57
      refine lv_iconst (v := nI 0) hx hb dX4_prepare_60 (by decide) ?_
      refine lv_istore (lv' := [(6, .int (nI 0)), (0, .ref h), (1, .int (nI u)), (2, .int (sv)), (3, .int (ov)), (4, .int (nI (sm1 M u sv ov x))), (5, .int (nI x))]) hx hb dX4_prepare_61 hl (by decide) rfl (fun ls hl => ?_)
      have hl : lv_has ls 7 [(0, .ref h), (1, .int (nI u)), (2, .int (sv)), (3, .int (ov)), (4, .int (nI (sm1 M u sv ov x))), (5, .int (nI x)), (6, .int (nI 0))] := lv_sub hl [1, 2, 3, 4, 5, 6, 0] rfl
      have e8 : ([(0, .ref h), (1, .int (nI u)), (2, .int (sv)), (3, .int (ov)), (4, .int (nI (sm1 M u sv ov x))), (5, .int (nI x)), (6, .int (nI 0))] : List (Nat × Value)) = [(0, .ref h), (1, .int (nI u)), (2, .int (sv)), (3, .int (ov)), (4, .int (nI (sm2 M u sv ov x ((sm1 M u sv ov x)) 0))), (5, .int (nI x)), (6, .int (nI 0))] := by rw [sm2]
      rw [e8] at hl
      refine lp_sm2 g s0 w h hs0 rf nt np mo gb wr nr su pr ob ki fi se nd ii sp qu rF rT rD M u x (sm1 M u sv ov x) hu (by omega) sv ov hx hb hml hown hts hK h0s hRm hcs  ?_ (32 + 1) 0 (by omega) (by omega) _ _ ls hP hS hl
      intro H locs ls hP hS hl
      refine lv_iinc (v := nI (x + 1)) (lv' := [(5, .int (nI (x + 1))), (0, .ref h), (1, .int (nI u)), (2, .int (sv)), (3, .int (ov)), (4, .int (nI (sm2 M u sv ov x ((sm1 M u sv ov x)) 32)))]) hx hb dX4_prepare_107 hl (k := 5) rfl (nI_1 _) (by decide) rfl (fun ls hl => ?_)
      refine lv_goto (tgt := 53) hx hb dX4_prepare_110 (by decide) ?_
      have hl : lv_has ls 7 [(0, .ref h), (1, .int (nI u)), (2, .int (sv)), (3, .int (ov)), (4, .int (nI (sm2 M u sv ov x ((sm1 M u sv ov x)) 32))), (5, .int (nI (x + 1)))] := lv_sub hl [1, 2, 3, 4, 5, 0] rfl
      have e8 : ([(0, .ref h), (1, .int (nI u)), (2, .int (sv)), (3, .int (ov)), (4, .int (nI (sm2 M u sv ov x ((sm1 M u sv ov x)) 32))), (5, .int (nI (x + 1)))] : List (Nat × Value)) = [(0, .ref h), (1, .int (nI u)), (2, .int (sv)), (3, .int (ov)), (4, .int (nI (sm1 M u sv ov (x + 1)))), (5, .int (nI (x + 1)))] := by rw [sm1]
      rw [e8] at hl
      exact ih (x + 1) (by omega) (by omega) _ _ ls hP hS hl

set_option maxHeartbeats 4000000 in
set_option maxRecDepth 100000 in
theorem c_X4_prepare (l : Launch) (g : gX) (s0 : Nat) (w : wd_M) (h : Nat) (hs0 : s0 ≤ h) (rf mo gb wr nr : Int32) (su pr ob ki fi se nd ii sp qu rF rT rD : Nat → Int32) (P : Nat) (hP4 : P ≤ 40) (T : Nat) (hT : T ≤ 150) (S O : Nat → Nat) (hS9 : ∀ k, k < T → su k = nI (S k) ∧ S k < 32) (hO9 : ∀ k, k < T → ob k = nI (O k) ∧ O k < 32) (M : Nat → Nat) (hM9 : mB M) (K A B : Nat → Nat) (hKK : hK9 P ki fi se K A B) (u : Nat) (hu1 : 1 ≤ u) (hu : u ≤ P) (sv ov : Int32)  : Met l yX4_prepare (Cond.code yX4_prepare cX4_prepare 7 (some .int) :: tg) ({ frames := 4, cells := 0, slots := 0, locals := 97 }) (cP g s0 (mW g w h rf (nI T) (nI P) mo gb wr nr su pr ob ki fi se (tN M) nd ii sp qu rF rT rD) [.ref h, .int (nI u), .int (sv), .int (ov)]) (cI g s0 (fun r w' => r = nI (sm1 (pp1 ki fi se pr (fg2 (fg1 ii sv ov 32) S O T) S O K A B T mo (fn2 ki A B u (fn1 nd u P) u) (M, sp, qu, nI 0) u).1 u sv ov 32) ∧ w' = (mW g w h rf (nI T) (nI P) mo ((pp1 ki fi se pr (fg2 (fg1 ii sv ov 32) S O T) S O K A B T mo (fn2 ki A B u (fn1 nd u P) u) (M, sp, qu, nI 0) u).2.2.2) wr nr su pr ob ki fi se (tN (pp1 ki fi se pr (fg2 (fg1 ii sv ov 32) S O T) S O K A B T mo (fn2 ki A B u (fn1 nd u P) u) (M, sp, qu, nI 0) u).1) (fn2 ki A B u (fn1 nd u P) u) (fg2 (fg1 ii sv ov 32) S O T) ((pp1 ki fi se pr (fg2 (fg1 ii sv ov 32) S O T) S O K A B T mo (fn2 ki A B u (fn1 nd u P) u) (M, sp, qu, nI 0) u).2.1) ((pp1 ki fi se pr (fg2 (fg1 ii sv ov 32) S O T) S O K A B T mo (fn2 ki A B u (fn1 nd u P) u) (M, sp, qu, nI 0) u).2.2.1) rF rT rD))) 0 0 (cA s0) := by
  refine Met.ofW (cc := cX4_prepare) (maxL := 7) (ret := some .int) (by decide) rfl ?_
  intro p e s m args below meth c s₁ B9 hml hv
  obtain ⟨rfl, h0s, hP, hK⟩ := hv
  have hx := B9.exec
  have hb := B9.bytes
  have hr := B9.returns
  have hts := atoms_spec (ws := Cond.code yX4_prepare cX4_prepare 7 (some .int) :: tg) B9.pre
  have hown : s.vm.findClass RX4 = some m.cls := findClass_of_methodNamed B9.named
  have hlocks := B9.notSynchronized
  have hS : gS s0 s.heap s.heap [] := va_S.rf
  have hRm : 4 ≤ (headSpec (Cond.code yX4_prepare cX4_prepare 7 (some .int) :: tg) ({ frames := 4, cells := 0, slots := 0, locals := 97 })).room.frames ∧ 97 ≤ (headSpec (Cond.code yX4_prepare cX4_prepare 7 (some .int) :: tg) ({ frames := 4, cells := 0, slots := 0, locals := 97 })).room.locals := ⟨Nat.le_refl _, Nat.le_refl _⟩
  have hcs : 0 + 0 ≤ (headSpec (Cond.code yX4_prepare cX4_prepare 7 (some .int) :: tg) ({ frames := 4, cells := 0, slots := 0, locals := 97 })).room.cells ∧ 0 + 0 ≤ (headSpec (Cond.code yX4_prepare cX4_prepare 7 (some .int) :: tg) ({ frames := 4, cells := 0, slots := 0, locals := 97 })).room.slots := ⟨Nat.zero_le _, Nat.zero_le _⟩
  have hl := lv_entry ([.ref h, .int (nI u), .int (sv), .int (ov)]) (n := 7) (Nat.le_of_ble_eq_true rfl)
  rw [lg_entry_eq]
  generalize (lg_sl ([.ref h, .int (nI u), .int (sv), .int (ov)]) ++ List.replicate (7 - (lg_sl ([.ref h, .int (nI u), .int (sv), .int (ov)])).length) Slot.unset).toArray = ls at hl ⊢
  have hl : lv_has ls 7 [(0, .ref h), (1, .int (nI u)), (2, .int (sv)), (3, .int (ov))] := hl
  refine lv_aload_n hx hb dX4_prepare_0 rfl (lv_at hl 0 rfl) ?_
  refine lv_iload_n hx hb dX4_prepare_1 rfl (lv_at hl 1 rfl) ?_
  refine cr_Vv (As := [.int (nI u)]) (rest := []) ⟨hx, hb, hml, hown, hts⟩ (c_X4_findNeeded l g s0  w h hs0 rf (nI T) mo gb wr nr su pr ob ki fi se (tN M) nd ii sp qu rF rT rD P hP4 u hu A B hKK.a hKK.b) (cw_V 1 hts tg_tail tw_544 tw_546 tp_24 tw_4 tw_547 rfl rfl (by decide +kernel) ⟨Nat.le_trans (by decide) hRm.1, Nat.le_trans (by decide) hRm.2⟩) hK hP h0s hS (mW_0) rfl rfl rfl hl.1 rfl (Nat.le_of_ble_eq_true rfl) dX4_prepare_2 hcs (fun w9 H locs hw hP hS => ?_)
  rw [hw] at hP
  refine lv_aload_n hx hb dX4_prepare_5 rfl (lv_at hl 0 rfl) ?_
  refine lv_iload_n hx hb dX4_prepare_6 rfl (lv_at hl 2 rfl) ?_
  refine lv_iload_n hx hb dX4_prepare_7 rfl (lv_at hl 3 rfl) ?_
  refine cr_Vv (As := [.int (sv), .int (ov)]) (rest := []) ⟨hx, hb, hml, hown, hts⟩ (c_X4_findGraph l g s0  w h hs0 rf (nI P) mo gb wr nr su pr ob ki fi se (tN M) (fn2 ki A B u (fn1 nd u P) u) ii sp qu rF rT rD T hT S O hS9 hO9 sv ov) (cw_V 2 hts tg_tail tw_548 tw_550 tp_25 tw_4 tw_551 rfl rfl (by decide +kernel) ⟨Nat.le_trans (by decide) hRm.1, Nat.le_trans (by decide) hRm.2⟩) hK hP h0s hS (mW_0) rfl rfl rfl hl.1 rfl (Nat.le_of_ble_eq_true rfl) dX4_prepare_8 hcs (fun w9 H locs hw hP hS => ?_)
  rw [hw] at hP
  refine lv_aload_n hx hb dX4_prepare_11 rfl (lv_at hl 0 rfl) ?_
  refine lv_iconst (v := nI 0) hx hb dX4_prepare_12 (by decide) ?_
  refine wd_put (ci := 5) (v := .int (nI 0)) (ty := .boolean) (C := RX4) (T := TX4) (N := 21) hx hb hts iwX4 tyX4 tyX4_ok nmX4 hown hK.1 hP hS (by omega) (mW_0) rfl 13 (by decide) (hts _ (tg_tail _ tw_439)) (fun _ h9 => h9) rfl (by decide +kernel) (rfl) (rfl) (Nat.le_of_ble_eq_true rfl) dX4_prepare_13 (fun H locs hP hS hz => ?_)
  have hP : gP g (mW g w h rf (nI T) (nI P) mo (nI 0) wr nr su pr ob ki fi se (tN M) (fn2 ki A B u (fn1 nd u P) u) (fg2 (fg1 ii sv ov 32) S O T) sp qu rF rT rD) H := by have h9 : gP g (wd_up (mW g w h rf (nI T) (nI P) mo gb wr nr su pr ob ki fi se (tN M) (fn2 ki A B u (fn1 nd u P) u) (fg2 (fg1 ii sv ov 32) S O T) sp qu rF rT rD) h (.inr (5, [.int (rf), .ref (h + 1), .ref (h + 2), .ref (h + 3), .int (nI T), .ref (h + 4), .ref (h + 5), .ref (h + 6), .int (nI P), .int (mo), .ref (h + 7), .ref (h + 8), .ref (h + 9), .int (nI 0), .ref (h + 10), .ref (h + 11), .int (wr), .int (nr), .ref (h + 12), .ref (h + 13), .ref (h + 14)]))) H := hP; rw [mW_s0] at h9; exact h9
  refine lv_iconst (v := nI 1) hx hb dX4_prepare_16 (by decide) ?_
  refine lv_istore (lv' := [(4, .int (nI 1)), (0, .ref h), (1, .int (nI u)), (2, .int (sv)), (3, .int (ov))]) hx hb dX4_prepare_17 hl (by decide) rfl (fun ls hl => ?_)
  have e8 : (mW g w h rf (nI T) (nI P) mo (nI 0) wr nr su pr ob ki fi se (tN M) (fn2 ki A B u (fn1 nd u P) u) (fg2 (fg1 ii sv ov 32) S O T) sp qu rF rT rD) = (mW g w h rf (nI T) (nI P) mo ((pp1 ki fi se pr (fg2 (fg1 ii sv ov 32) S O T) S O K A B T mo (fn2 ki A B u (fn1 nd u P) u) (M, sp, qu, (nI 0)) 0).2.2.2) wr nr su pr ob ki fi se (tN (pp1 ki fi se pr (fg2 (fg1 ii sv ov 32) S O T) S O K A B T mo (fn2 ki A B u (fn1 nd u P) u) (M, sp, qu, (nI 0)) 0).1) (fn2 ki A B u (fn1 nd u P) u) (fg2 (fg1 ii sv ov 32) S O T) ((pp1 ki fi se pr (fg2 (fg1 ii sv ov 32) S O T) S O K A B T mo (fn2 ki A B u (fn1 nd u P) u) (M, sp, qu, (nI 0)) 0).2.1) ((pp1 ki fi se pr (fg2 (fg1 ii sv ov 32) S O T) S O K A B T mo (fn2 ki A B u (fn1 nd u P) u) (M, sp, qu, (nI 0)) 0).2.2.1) rF rT rD) := by rw [pp1]
  rw [e8] at hP
  have hl : lv_has ls 7 [(0, .ref h), (1, .int (nI u)), (2, .int (sv)), (3, .int (ov)), (4, .int (nI 1))] := lv_sub hl [1, 2, 3, 4, 0] rfl
  have e8 : ([(0, .ref h), (1, .int (nI u)), (2, .int (sv)), (3, .int (ov)), (4, .int (nI 1))] : List (Nat × Value)) = [(0, .ref h), (1, .int (nI u)), (2, .int (sv)), (3, .int (ov)), (4, .int (nI (0 + 1)))] := by rfl
  rw [e8] at hl
  refine lp_pp1 g s0 w h hs0 rf mo (nI 0) wr nr su pr ob ki fi se (fn2 ki A B u (fn1 nd u P) u) (fg2 (fg1 ii sv ov 32) S O T) sp qu rF rT rD P hP4 T hT S O hS9 hO9 M hM9 K A B hKK u hu1 hu sv ov hx hb hml hown hts hK h0s hRm hcs  ?_ (u + 1) 0 (by omega) (by omega) _ _ ls hP hS hl
  intro H locs ls hP hS hl
  refine lv_iconst (v := nI 0) hx hb dX4_prepare_47 (by decide) ?_
  refine lv_istore (lv' := [(4, .int (nI 0)), (0, .ref h), (1, .int (nI u)), (2, .int (sv)), (3, .int (ov))]) hx hb dX4_prepare_48 hl (by decide) rfl (fun ls hl => ?_)
  refine lv_iconst (v := nI 0) hx hb dX4_prepare_50 (by decide) ?_
  refine lv_istore (lv' := [(5, .int (nI 0)), (4, .int (nI 0)), (0, .ref h), (1, .int (nI u)), (2, .int (sv)), (3, .int (ov))]) hx hb dX4_prepare_51 hl (by decide) rfl (fun ls hl => ?_)
  have e8 : (mW g w h rf (nI T) (nI P) mo ((pp1 ki fi se pr (fg2 (fg1 ii sv ov 32) S O T) S O K A B T mo (fn2 ki A B u (fn1 nd u P) u) (M, sp, qu, (nI 0)) u).2.2.2) wr nr su pr ob ki fi se (tN (pp1 ki fi se pr (fg2 (fg1 ii sv ov 32) S O T) S O K A B T mo (fn2 ki A B u (fn1 nd u P) u) (M, sp, qu, (nI 0)) u).1) (fn2 ki A B u (fn1 nd u P) u) (fg2 (fg1 ii sv ov 32) S O T) ((pp1 ki fi se pr (fg2 (fg1 ii sv ov 32) S O T) S O K A B T mo (fn2 ki A B u (fn1 nd u P) u) (M, sp, qu, (nI 0)) u).2.1) ((pp1 ki fi se pr (fg2 (fg1 ii sv ov 32) S O T) S O K A B T mo (fn2 ki A B u (fn1 nd u P) u) (M, sp, qu, (nI 0)) u).2.2.1) rF rT rD) = (mW g w h rf (nI T) (nI P) mo ((pp1 ki fi se pr (fg2 (fg1 ii sv ov 32) S O T) S O K A B T mo (fn2 ki A B u (fn1 nd u P) u) (M, sp, qu, (nI 0)) u).2.2.2) wr nr su pr ob ki fi se (tN ((pp1 ki fi se pr (fg2 (fg1 ii sv ov 32) S O T) S O K A B T mo (fn2 ki A B u (fn1 nd u P) u) (M, sp, qu, nI 0) u).1)) (fn2 ki A B u (fn1 nd u P) u) (fg2 (fg1 ii sv ov 32) S O T) ((pp1 ki fi se pr (fg2 (fg1 ii sv ov 32) S O T) S O K A B T mo (fn2 ki A B u (fn1 nd u P) u) (M, sp, qu, (nI 0)) u).2.1) ((pp1 ki fi se pr (fg2 (fg1 ii sv ov 32) S O T) S O K A B T mo (fn2 ki A B u (fn1 nd u P) u) (M, sp, qu, (nI 0)) u).2.2.1) rF rT rD) := by rfl
  rw [e8] at hP
  have hl : lv_has ls 7 [(0, .ref h), (1, .int (nI u)), (2, .int (sv)), (3, .int (ov)), (4, .int (nI 0)), (5, .int (nI 0))] := lv_sub hl [2, 3, 4, 5, 1, 0] rfl
  have e8 : ([(0, .ref h), (1, .int (nI u)), (2, .int (sv)), (3, .int (ov)), (4, .int (nI 0)), (5, .int (nI 0))] : List (Nat × Value)) = [(0, .ref h), (1, .int (nI u)), (2, .int (sv)), (3, .int (ov)), (4, .int (nI (sm1 ((pp1 ki fi se pr (fg2 (fg1 ii sv ov 32) S O T) S O K A B T mo (fn2 ki A B u (fn1 nd u P) u) (M, sp, qu, nI 0) u).1) u sv ov 0))), (5, .int (nI 0))] := by rw [sm1]
  rw [e8] at hl
  refine lp_sm1 g s0 w h hs0 rf (nI T) (nI P) mo ((pp1 ki fi se pr (fg2 (fg1 ii sv ov 32) S O T) S O K A B T mo (fn2 ki A B u (fn1 nd u P) u) (M, sp, qu, (nI 0)) u).2.2.2) wr nr su pr ob ki fi se (fn2 ki A B u (fn1 nd u P) u) (fg2 (fg1 ii sv ov 32) S O T) ((pp1 ki fi se pr (fg2 (fg1 ii sv ov 32) S O T) S O K A B T mo (fn2 ki A B u (fn1 nd u P) u) (M, sp, qu, (nI 0)) u).2.1) ((pp1 ki fi se pr (fg2 (fg1 ii sv ov 32) S O T) S O K A B T mo (fn2 ki A B u (fn1 nd u P) u) (M, sp, qu, (nI 0)) u).2.2.1) rF rT rD (pp1 ki fi se pr (fg2 (fg1 ii sv ov 32) S O T) S O K A B T mo (fn2 ki A B u (fn1 nd u P) u) (M, sp, qu, nI 0) u).1 u (by omega) sv ov hx hb hml hown hts hK h0s hRm hcs  ?_ (32 + 1) 0 (by omega) (by omega) _ _ ls hP hS hl
  intro H locs ls hP hS hl
  refine lv_iload hx hb dX4_prepare_113 (lv_at hl 1 rfl) ?_
  exact W.iret (v := nI (sm1 ((pp1 ki fi se pr (fg2 (fg1 ii sv ov 32) S O T) S O K A B T mo (fn2 ki A B u (fn1 nd u P) u) (M, sp, qu, nI 0) u).1) u sv ov 32)) hx hb hr (fun t ht hW => ⟨⟨_, (mW g w h rf (nI T) (nI P) mo ((pp1 ki fi se pr (fg2 (fg1 ii sv ov 32) S O T) S O K A B T mo (fn2 ki A B u (fn1 nd u P) u) (M, sp, qu, (nI 0)) u).2.2.2) wr nr su pr ob ki fi se (tN ((pp1 ki fi se pr (fg2 (fg1 ii sv ov 32) S O T) S O K A B T mo (fn2 ki A B u (fn1 nd u P) u) (M, sp, qu, nI 0) u).1)) (fn2 ki A B u (fn1 nd u P) u) (fg2 (fg1 ii sv ov 32) S O T) ((pp1 ki fi se pr (fg2 (fg1 ii sv ov 32) S O T) S O K A B T mo (fn2 ki A B u (fn1 nd u P) u) (M, sp, qu, (nI 0)) u).2.1) ((pp1 ki fi se pr (fg2 (fg1 ii sv ov 32) S O T) S O K A B T mo (fn2 ki A B u (fn1 nd u P) u) (M, sp, qu, (nI 0)) u).2.2.1) rF rT rD), rfl, ⟨rfl, rfl⟩, cB_of ht hP⟩, hS.F ht⟩) hS.2.2 dX4_prepare_115
end
