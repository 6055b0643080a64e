section
-- ===== PART A: goes FIRST, ahead of the names: the tables' words, and 'selects' of the private methods out of them =====
/-- a private method of a class that the tables say can be made, by its rows of tables_1 -/
def lw_okq (q : MethodName × Nat) : Prop := (q.1.cls ≠ "java/lang/invoke/MethodHandle" ∧ q.1.cls ≠ "java/lang/invoke/VarHandle") ∧ Cond.instantiable q.1.cls q.2 ∈ tables_1 ∧ Cond.privateMethod q.1 ∈ tables_1 ∧ Cond.instanceMethod q.1 ∈ tables_1
theorem lw_p0 : lw_okq (⟨"PathSteps", "keepPath", "(IILPathSteps$Path;LPathSteps$Path;)I"⟩, 6) := ⟨⟨by decide +kernel, by decide +kernel⟩, List.mem_of_getElem? (i := 14) (by decide +kernel), List.mem_of_getElem? (i := 115) (by decide +kernel), List.mem_of_getElem? (i := 116) (by decide +kernel)⟩
theorem lw_p1 : lw_okq (⟨"PathSteps", "known", "(I)LPathSteps$Path;"⟩, 6) := ⟨⟨by decide +kernel, by decide +kernel⟩, List.mem_of_getElem? (i := 14) (by decide +kernel), List.mem_of_getElem? (i := 157) (by decide +kernel), List.mem_of_getElem? (i := 158) (by decide +kernel)⟩
theorem lw_p2 : lw_okq (⟨"PathSteps", "keepOverTwo", "(ILPathSteps$Path;LPathSteps$Path;)I"⟩, 6) := ⟨⟨by decide +kernel, by decide +kernel⟩, List.mem_of_getElem? (i := 14) (by decide +kernel), List.mem_of_getElem? (i := 161) (by decide +kernel), List.mem_of_getElem? (i := 162) (by decide +kernel)⟩
theorem lw_p3 : lw_okq (⟨"PathSteps", "keepOverOne", "(ILPathSteps$Path;)I"⟩, 6) := ⟨⟨by decide +kernel, by decide +kernel⟩, List.mem_of_getElem? (i := 14) (by decide +kernel), List.mem_of_getElem? (i := 165) (by decide +kernel), List.mem_of_getElem? (i := 166) (by decide +kernel)⟩
theorem lw_p4 : lw_okq (⟨"PathSteps", "countParts", "(LPathSteps$Path;II)V"⟩, 6) := ⟨⟨by decide +kernel, by decide +kernel⟩, List.mem_of_getElem? (i := 14) (by decide +kernel), List.mem_of_getElem? (i := 190) (by decide +kernel), List.mem_of_getElem? (i := 191) (by decide +kernel)⟩
theorem lw_p5 : lw_okq (⟨"PathSteps$Path", "forget", "()V"⟩, 10) := ⟨⟨by decide +kernel, by decide +kernel⟩, List.mem_of_getElem? (i := 118) (by decide +kernel), List.mem_of_getElem? (i := 205) (by decide +kernel), List.mem_of_getElem? (i := 206) (by decide +kernel)⟩
theorem lw_p6 : lw_okq (⟨"PathSteps$Path", "countLinks", "(LPathSteps$Triples;)V"⟩, 10) := ⟨⟨by decide +kernel, by decide +kernel⟩, List.mem_of_getElem? (i := 118) (by decide +kernel), List.mem_of_getElem? (i := 209) (by decide +kernel), List.mem_of_getElem? (i := 210) (by decide +kernel)⟩
theorem lw_p7 : lw_okq (⟨"PathSteps$Path", "addTimes", "(IIJ)V"⟩, 10) := ⟨⟨by decide +kernel, by decide +kernel⟩, List.mem_of_getElem? (i := 118) (by decide +kernel), List.mem_of_getElem? (i := 214) (by decide +kernel), List.mem_of_getElem? (i := 215) (by decide +kernel)⟩
theorem lw_p8 : lw_okq (⟨"PathSteps$Path", "countOverOne", "(LPathSteps$Path;I)V"⟩, 10) := ⟨⟨by decide +kernel, by decide +kernel⟩, List.mem_of_getElem? (i := 118) (by decide +kernel), List.mem_of_getElem? (i := 222) (by decide +kernel), List.mem_of_getElem? (i := 223) (by decide +kernel)⟩
theorem lw_p9 : lw_okq (⟨"PathSteps$Path", "countTurned", "(LPathSteps$Path;)V"⟩, 10) := ⟨⟨by decide +kernel, by decide +kernel⟩, List.mem_of_getElem? (i := 118) (by decide +kernel), List.mem_of_getElem? (i := 226) (by decide +kernel), List.mem_of_getElem? (i := 227) (by decide +kernel)⟩
theorem lw_p10 : lw_okq (⟨"PathSteps$Path", "joinByStep", "(LPathSteps$Path;I)V"⟩, 10) := ⟨⟨by decide +kernel, by decide +kernel⟩, List.mem_of_getElem? (i := 118) (by decide +kernel), List.mem_of_getElem? (i := 234) (by decide +kernel), List.mem_of_getElem? (i := 235) (by decide +kernel)⟩
theorem lw_p11 : lw_okq (⟨"PathSteps$Path", "joinOnwards", "()V"⟩, 10) := ⟨⟨by decide +kernel, by decide +kernel⟩, List.mem_of_getElem? (i := 118) (by decide +kernel), List.mem_of_getElem? (i := 242) (by decide +kernel), List.mem_of_getElem? (i := 243) (by decide +kernel)⟩
theorem lw_p12 : lw_okq (⟨"PathSteps$Path", "joinSelves", "(I)V"⟩, 10) := ⟨⟨by decide +kernel, by decide +kernel⟩, List.mem_of_getElem? (i := 118) (by decide +kernel), List.mem_of_getElem? (i := 247) (by decide +kernel), List.mem_of_getElem? (i := 248) (by decide +kernel)⟩
theorem lw_p13 : lw_okq (⟨"PathSteps$Path", "countJoinedOnce", "()V"⟩, 10) := ⟨⟨by decide +kernel, by decide +kernel⟩, List.mem_of_getElem? (i := 118) (by decide +kernel), List.mem_of_getElem? (i := 251) (by decide +kernel), List.mem_of_getElem? (i := 252) (by decide +kernel)⟩
theorem lw_p14 : lw_okq (⟨"PathSteps$Path", "countOverTwo", "(LPathSteps$Path;LPathSteps$Path;)V"⟩, 10) := ⟨⟨by decide +kernel, by decide +kernel⟩, List.mem_of_getElem? (i := 118) (by decide +kernel), List.mem_of_getElem? (i := 255) (by decide +kernel), List.mem_of_getElem? (i := 256) (by decide +kernel)⟩
theorem lw_p15 : lw_okq (⟨"PathSteps$Path", "countAll", "(LPathSteps$Path;)V"⟩, 10) := ⟨⟨by decide +kernel, by decide +kernel⟩, List.mem_of_getElem? (i := 118) (by decide +kernel), List.mem_of_getElem? (i := 259) (by decide +kernel), List.mem_of_getElem? (i := 260) (by decide +kernel)⟩
def lw_privs_1 : List (MethodName × Nat) := [(⟨"PathSteps", "keepPath", "(IILPathSteps$Path;LPathSteps$Path;)I"⟩, 6), (⟨"PathSteps", "known", "(I)LPathSteps$Path;"⟩, 6), (⟨"PathSteps", "keepOverTwo", "(ILPathSteps$Path;LPathSteps$Path;)I"⟩, 6), (⟨"PathSteps", "keepOverOne", "(ILPathSteps$Path;)I"⟩, 6), (⟨"PathSteps", "countParts", "(LPathSteps$Path;II)V"⟩, 6), (⟨"PathSteps$Path", "forget", "()V"⟩, 10), (⟨"PathSteps$Path", "countLinks", "(LPathSteps$Triples;)V"⟩, 10), (⟨"PathSteps$Path", "addTimes", "(IIJ)V"⟩, 10), (⟨"PathSteps$Path", "countOverOne", "(LPathSteps$Path;I)V"⟩, 10), (⟨"PathSteps$Path", "countTurned", "(LPathSteps$Path;)V"⟩, 10), (⟨"PathSteps$Path", "joinByStep", "(LPathSteps$Path;I)V"⟩, 10), (⟨"PathSteps$Path", "joinOnwards", "()V"⟩, 10), (⟨"PathSteps$Path", "joinSelves", "(I)V"⟩, 10), (⟨"PathSteps$Path", "countJoinedOnce", "()V"⟩, 10), (⟨"PathSteps$Path", "countOverTwo", "(LPathSteps$Path;LPathSteps$Path;)V"⟩, 10), (⟨"PathSteps$Path", "countAll", "(LPathSteps$Path;)V"⟩, 10)]
theorem lw_r1 : ∀ q ∈ lw_privs_1, lw_okq q := List.forall_mem_cons.mpr ⟨lw_p0, List.forall_mem_cons.mpr ⟨lw_p1, List.forall_mem_cons.mpr ⟨lw_p2, List.forall_mem_cons.mpr ⟨lw_p3, List.forall_mem_cons.mpr ⟨lw_p4, List.forall_mem_cons.mpr ⟨lw_p5, List.forall_mem_cons.mpr ⟨lw_p6, List.forall_mem_cons.mpr ⟨lw_p7, List.forall_mem_cons.mpr ⟨lw_p8, List.forall_mem_cons.mpr ⟨lw_p9, List.forall_mem_cons.mpr ⟨lw_p10, List.forall_mem_cons.mpr ⟨lw_p11, List.forall_mem_cons.mpr ⟨lw_p12, List.forall_mem_cons.mpr ⟨lw_p13, List.forall_mem_cons.mpr ⟨lw_p14, List.forall_mem_cons.mpr ⟨lw_p15, fun _ h => absurd h List.not_mem_nil⟩⟩⟩⟩⟩⟩⟩⟩⟩⟩⟩⟩⟩⟩⟩⟩
theorem lw_p16 : lw_okq (⟨"PathSteps$Path", "countBehind", "(LPathSteps$Path;LPathSteps$Path;)V"⟩, 10) := ⟨⟨by decide +kernel, by decide +kernel⟩, List.mem_of_getElem? (i := 118) (by decide +kernel), List.mem_of_getElem? (i := 263) (by decide +kernel), List.mem_of_getElem? (i := 264) (by decide +kernel)⟩
theorem lw_p17 : lw_okq (⟨"PathSteps$Path", "addBehind", "(IJLPathSteps$Path;I)V"⟩, 10) := ⟨⟨by decide +kernel, by decide +kernel⟩, List.mem_of_getElem? (i := 118) (by decide +kernel), List.mem_of_getElem? (i := 267) (by decide +kernel), List.mem_of_getElem? (i := 268) (by decide +kernel)⟩
theorem lw_p18 : lw_okq (⟨"PathSteps", "goesBeyond", "(LPathSteps$Path;)Z"⟩, 6) := ⟨⟨by decide +kernel, by decide +kernel⟩, List.mem_of_getElem? (i := 14) (by decide +kernel), List.mem_of_getElem? (i := 271) (by decide +kernel), List.mem_of_getElem? (i := 272) (by decide +kernel)⟩
theorem lw_p19 : lw_okq (⟨"PathSteps", "keepRows", "(LPathSteps$Path;II)V"⟩, 6) := ⟨⟨by decide +kernel, by decide +kernel⟩, List.mem_of_getElem? (i := 14) (by decide +kernel), List.mem_of_getElem? (i := 290) (by decide +kernel), List.mem_of_getElem? (i := 291) (by decide +kernel)⟩
theorem lw_p20 : lw_okq (⟨"java/lang/Throwable", "fillInStackTrace", "(I)Ljava/lang/Throwable;"⟩, 6) := ⟨⟨by decide +kernel, by decide +kernel⟩, List.mem_of_getElem? (i := 387) (by decide +kernel), List.mem_of_getElem? (i := 385) (by decide +kernel), List.mem_of_getElem? (i := 386) (by decide +kernel)⟩
theorem lw_p21 : lw_okq (⟨"PathStepsModel", "isPath", "(I)Z"⟩, 21) := ⟨⟨by decide +kernel, by decide +kernel⟩, List.mem_of_getElem? (i := 420) (by decide +kernel), List.mem_of_getElem? (i := 510) (by decide +kernel), List.mem_of_getElem? (i := 511) (by decide +kernel)⟩
theorem lw_p22 : lw_okq (⟨"PathStepsModel", "made", "(III)I"⟩, 21) := ⟨⟨by decide +kernel, by decide +kernel⟩, List.mem_of_getElem? (i := 420) (by decide +kernel), List.mem_of_getElem? (i := 514) (by decide +kernel), List.mem_of_getElem? (i := 515) (by decide +kernel)⟩
theorem lw_p23 : lw_okq (⟨"PathStepsModel", "prepare", "(III)I"⟩, 21) := ⟨⟨by decide +kernel, by decide +kernel⟩, List.mem_of_getElem? (i := 420) (by decide +kernel), List.mem_of_getElem? (i := 541) (by decide +kernel), List.mem_of_getElem? (i := 542) (by decide +kernel)⟩
theorem lw_p24 : lw_okq (⟨"PathStepsModel", "findNeeded", "(I)V"⟩, 21) := ⟨⟨by decide +kernel, by decide +kernel⟩, List.mem_of_getElem? (i := 420) (by decide +kernel), List.mem_of_getElem? (i := 545) (by decide +kernel), List.mem_of_getElem? (i := 546) (by decide +kernel)⟩
theorem lw_p25 : lw_okq (⟨"PathStepsModel", "findGraph", "(II)V"⟩, 21) := ⟨⟨by decide +kernel, by decide +kernel⟩, List.mem_of_getElem? (i := 420) (by decide +kernel), List.mem_of_getElem? (i := 549) (by decide +kernel), List.mem_of_getElem? (i := 550) (by decide +kernel)⟩
theorem lw_p26 : lw_okq (⟨"PathStepsModel", "makeTable", "(I)V"⟩, 21) := ⟨⟨by decide +kernel, by decide +kernel⟩, List.mem_of_getElem? (i := 420) (by decide +kernel), List.mem_of_getElem? (i := 553) (by decide +kernel), List.mem_of_getElem? (i := 554) (by decide +kernel)⟩
theorem lw_p27 : lw_okq (⟨"PathStepsModel", "makeLinks", "(I)V"⟩, 21) := ⟨⟨by decide +kernel, by decide +kernel⟩, List.mem_of_getElem? (i := 420) (by decide +kernel), List.mem_of_getElem? (i := 557) (by decide +kernel), List.mem_of_getElem? (i := 558) (by decide +kernel)⟩
theorem lw_p28 : lw_okq (⟨"PathStepsModel", "cell", "(III)I"⟩, 21) := ⟨⟨by decide +kernel, by decide +kernel⟩, List.mem_of_getElem? (i := 420) (by decide +kernel), List.mem_of_getElem? (i := 561) (by decide +kernel), List.mem_of_getElem? (i := 562) (by decide +kernel)⟩
theorem lw_p29 : lw_okq (⟨"PathStepsModel", "put", "(IIIJ)V"⟩, 21) := ⟨⟨by decide +kernel, by decide +kernel⟩, List.mem_of_getElem? (i := 420) (by decide +kernel), List.mem_of_getElem? (i := 565) (by decide +kernel), List.mem_of_getElem? (i := 566) (by decide +kernel)⟩
theorem lw_p30 : lw_okq (⟨"PathStepsModel", "makeWalks", "(I)V"⟩, 21) := ⟨⟨by decide +kernel, by decide +kernel⟩, List.mem_of_getElem? (i := 420) (by decide +kernel), List.mem_of_getElem? (i := 570) (by decide +kernel), List.mem_of_getElem? (i := 571) (by decide +kernel)⟩
theorem lw_p31 : lw_okq (⟨"PathStepsModel", "walk", "(II)V"⟩, 21) := ⟨⟨by decide +kernel, by decide +kernel⟩, List.mem_of_getElem? (i := 420) (by decide +kernel), List.mem_of_getElem? (i := 574) (by decide +kernel), List.mem_of_getElem? (i := 575) (by decide +kernel)⟩
def lw_privs_2 : List (MethodName × Nat) := [(⟨"PathSteps$Path", "countBehind", "(LPathSteps$Path;LPathSteps$Path;)V"⟩, 10), (⟨"PathSteps$Path", "addBehind", "(IJLPathSteps$Path;I)V"⟩, 10), (⟨"PathSteps", "goesBeyond", "(LPathSteps$Path;)Z"⟩, 6), (⟨"PathSteps", "keepRows", "(LPathSteps$Path;II)V"⟩, 6), (⟨"java/lang/Throwable", "fillInStackTrace", "(I)Ljava/lang/Throwable;"⟩, 6), (⟨"PathStepsModel", "isPath", "(I)Z"⟩, 21), (⟨"PathStepsModel", "made", "(III)I"⟩, 21), (⟨"PathStepsModel", "prepare", "(III)I"⟩, 21), (⟨"PathStepsModel", "findNeeded", "(I)V"⟩, 21), (⟨"PathStepsModel", "findGraph", "(II)V"⟩, 21), (⟨"PathStepsModel", "makeTable", "(I)V"⟩, 21), (⟨"PathStepsModel", "makeLinks", "(I)V"⟩, 21), (⟨"PathStepsModel", "cell", "(III)I"⟩, 21), (⟨"PathStepsModel", "put", "(IIIJ)V"⟩, 21), (⟨"PathStepsModel", "makeWalks", "(I)V"⟩, 21), (⟨"PathStepsModel", "walk", "(II)V"⟩, 21)]
theorem lw_r2 : ∀ q ∈ lw_privs_2, lw_okq q := List.forall_mem_cons.mpr ⟨lw_p16, List.forall_mem_cons.mpr ⟨lw_p17, List.forall_mem_cons.mpr ⟨lw_p18, List.forall_mem_cons.mpr ⟨lw_p19, List.forall_mem_cons.mpr ⟨lw_p20, List.forall_mem_cons.mpr ⟨lw_p21, List.forall_mem_cons.mpr ⟨lw_p22, List.forall_mem_cons.mpr ⟨lw_p23, List.forall_mem_cons.mpr ⟨lw_p24, List.forall_mem_cons.mpr ⟨lw_p25, List.forall_mem_cons.mpr ⟨lw_p26, List.forall_mem_cons.mpr ⟨lw_p27, List.forall_mem_cons.mpr ⟨lw_p28, List.forall_mem_cons.mpr ⟨lw_p29, List.forall_mem_cons.mpr ⟨lw_p30, List.forall_mem_cons.mpr ⟨lw_p31, fun _ h => absurd h List.not_mem_nil⟩⟩⟩⟩⟩⟩⟩⟩⟩⟩⟩⟩⟩⟩⟩⟩
theorem lw_p32 : lw_okq (⟨"PathStepsModel", "joined", "(III)J"⟩, 21) := ⟨⟨by decide +kernel, by decide +kernel⟩, List.mem_of_getElem? (i := 420) (by decide +kernel), List.mem_of_getElem? (i := 578) (by decide +kernel), List.mem_of_getElem? (i := 579) (by decide +kernel)⟩
theorem lw_p33 : lw_okq (⟨"PathStepsModel", "isRow", "(I)Z"⟩, 21) := ⟨⟨by decide +kernel, by decide +kernel⟩, List.mem_of_getElem? (i := 420) (by decide +kernel), List.mem_of_getElem? (i := 593) (by decide +kernel), List.mem_of_getElem? (i := 594) (by decide +kernel)⟩
def lw_privs_3 : List (MethodName × Nat) := [(⟨"PathStepsModel", "joined", "(III)J"⟩, 21), (⟨"PathStepsModel", "isRow", "(I)Z"⟩, 21)]
theorem lw_r3 : ∀ q ∈ lw_privs_3, lw_okq q := List.forall_mem_cons.mpr ⟨lw_p32, List.forall_mem_cons.mpr ⟨lw_p33, fun _ h => absurd h List.not_mem_nil⟩⟩
def lw_privs : List (MethodName × Nat) := lw_privs_1 ++ (lw_privs_2 ++ (lw_privs_3))
def lw_tbl : List Cond := k2_sels lw_privs ++ tables_1
theorem lw_privs_ok : ∀ q ∈ lw_privs, lw_okq q := by
  show ∀ q ∈ lw_privs_1 ++ (lw_privs_2 ++ (lw_privs_3)), lw_okq q
  exact List.forall_mem_append.mpr ⟨lw_r1, List.forall_mem_append.mpr ⟨lw_r2, lw_r3⟩⟩
end
section
/-! ===== BEGIN words of one list among another's, by their places ===== -/
theorem goodIn_r {big : List Cond} (ws : List Cond) (ps : List Nat) (hp : ws = ps.filterMap (fun i => big[i]?)) (h : ws.all goodWord = true) : GoodIn big ws := by
  intro w hw
  have h1 := List.all_eq_true.mp h w hw
  rw [hp] at hw
  obtain ⟨i, -, hi⟩ := List.mem_filterMap.mp hw
  have hm : w ∈ big := by first | exact List.mem_of_getElem? hi | exact List.getElem?_mem hi
  exact ⟨hm, good_of_word h1⟩
theorem goodIn_app {big a b : List Cond} (ha : GoodIn big a) (hb : GoodIn big b) : GoodIn big (a ++ b) := fun w h => (List.mem_append.mp h).elim (ha w) (hb w)
theorem goodIn_ca {big a b : List Cond} {c : Cond} (ha : GoodIn big (c :: a)) (hb : GoodIn big b) : GoodIn big (c :: (a ++ b)) := fun w h => (List.mem_cons.mp h).elim (fun e => ha w (List.mem_cons.mpr (Or.inl e))) (fun h => (List.mem_append.mp h).elim (fun h => ha w (List.mem_cons.mpr (Or.inr h))) (hb w))
theorem goodIn_sub {big ws : List Cond} (hm : ∀ w ∈ ws, w ∈ big) (h : ws.all goodWord = true) : GoodIn big ws := fun w hw => ⟨hm w hw, good_of_word (List.all_eq_true.mp h w hw)⟩
/-! ===== END ===== -/

/-! ===== BEGIN printed: names, fields, word lists, decode rows ===== -/
def RX0 : String := "PathSteps$Path"
def TX0 : u_T := fun k => match k with
  | 0 => ("PathSteps$Path", "number", "I", true)
  | 1 => ("PathSteps$Path", "kind", "I", true)
  | 2 => ("PathSteps$Path", "links", "I", true)
  | 3 => ("PathSteps$Path", "inner", "LPathSteps$Path;", true)
  | 4 => ("PathSteps$Path", "other", "LPathSteps$Path;", true)
  | 5 => ("PathSteps$Path", "parts", "J", true)
  | 6 => ("PathSteps$Path", "times", "[I", true)
  | 7 => ("PathSteps$Path", "joined", "[I", true)
  | 8 => ("PathSteps$Path", "countedSize", "I", false)
  | _ => ("PathSteps$Path", "countedGraph", "I", false)
def tyX0 : Nat → FieldType := fun k => match k with
  | 0 => .int
  | 1 => .int
  | 2 => .int
  | 3 => .object "PathSteps$Path"
  | 4 => .object "PathSteps$Path"
  | 5 => .long
  | 6 => .array .int
  | 7 => .array .int
  | 8 => .int
  | _ => .int
abbrev wsX00 : List Cond := u_ws RX0 TX0 10
theorem nmX0 : ∀ a, a < 10 → ∀ b, b < 10 → a ≠ b → (TX0 a).2.1 ≠ (TX0 b).2.1 := by decide +kernel
theorem tyX0_ok : ∀ k, k < 10 → parseFieldDescriptor (TX0 k).2.2.1 = some (tyX0 k) := by decide +kernel
abbrev cX0_init : ByteArray := prog_2_method_1_code
def yX0_init : MethodName := ⟨RX0, "<init>", "(IIILPathSteps$Path;LPathSteps$Path;)V"⟩
abbrev cX0_isMadeOf : ByteArray := prog_2_method_2_code
def yX0_isMadeOf : MethodName := ⟨RX0, "isMadeOf", "(I)Z"⟩
abbrev cX0_walks : ByteArray := prog_2_method_3_code
def yX0_walks : MethodName := ⟨RX0, "walks", "()Z"⟩
abbrev cX0_timesOf : ByteArray := prog_2_method_4_code
def yX0_timesOf : MethodName := ⟨RX0, "timesOf", "(II)I"⟩
abbrev cX0_pairs : ByteArray := prog_2_method_5_code
def yX0_pairs : MethodName := ⟨RX0, "pairs", "()I"⟩
abbrev cX0_countBetween : ByteArray := prog_2_method_6_code
def yX0_countBetween : MethodName := ⟨RX0, "countBetween", "(II)I"⟩
abbrev cX0_countIn : ByteArray := prog_2_method_7_code
def yX0_countIn : MethodName := ⟨RX0, "countIn", "(LPathSteps$Triples;I)V"⟩
abbrev cX0_forget : ByteArray := prog_2_method_8_code
def yX0_forget : MethodName := ⟨RX0, "forget", "()V"⟩
abbrev cX0_addTimes : ByteArray := prog_2_method_9_code
def yX0_addTimes : MethodName := ⟨RX0, "addTimes", "(IIJ)V"⟩
abbrev cX0_countLinks : ByteArray := prog_2_method_10_code
def yX0_countLinks : MethodName := ⟨RX0, "countLinks", "(LPathSteps$Triples;)V"⟩
abbrev cX0_countOverOne : ByteArray := prog_2_method_11_code
def yX0_countOverOne : MethodName := ⟨RX0, "countOverOne", "(LPathSteps$Path;I)V"⟩
abbrev cX0_countOverTwo : ByteArray := prog_2_method_12_code
def yX0_countOverTwo : MethodName := ⟨RX0, "countOverTwo", "(LPathSteps$Path;LPathSteps$Path;)V"⟩
abbrev cX0_countTurned : ByteArray := prog_2_method_13_code
def yX0_countTurned : MethodName := ⟨RX0, "countTurned", "(LPathSteps$Path;)V"⟩
abbrev cX0_countAll : ByteArray := prog_2_method_14_code
def yX0_countAll : MethodName := ⟨RX0, "countAll", "(LPathSteps$Path;)V"⟩
abbrev cX0_countBehind : ByteArray := prog_2_method_15_code
def yX0_countBehind : MethodName := ⟨RX0, "countBehind", "(LPathSteps$Path;LPathSteps$Path;)V"⟩
abbrev cX0_addBehind : ByteArray := prog_2_method_16_code
def yX0_addBehind : MethodName := ⟨RX0, "addBehind", "(IJLPathSteps$Path;I)V"⟩
abbrev cX0_joinByStep : ByteArray := prog_2_method_17_code
def yX0_joinByStep : MethodName := ⟨RX0, "joinByStep", "(LPathSteps$Path;I)V"⟩
abbrev cX0_joinOnwards : ByteArray := prog_2_method_18_code
def yX0_joinOnwards : MethodName := ⟨RX0, "joinOnwards", "()V"⟩
abbrev cX0_joinSelves : ByteArray := prog_2_method_19_code
def yX0_joinSelves : MethodName := ⟨RX0, "joinSelves", "(I)V"⟩
abbrev cX0_countJoinedOnce : ByteArray := prog_2_method_20_code
def yX0_countJoinedOnce : MethodName := ⟨RX0, "countJoinedOnce", "()V"⟩
abbrev cX0_measure : ByteArray := prog_2_method_21_code
def yX0_measure : MethodName := ⟨RX0, "measure", "(I[I)V"⟩
abbrev cX0_measureWalk : ByteArray := prog_2_method_22_code
def yX0_measureWalk : MethodName := ⟨RX0, "measureWalk", "(LPathSteps$Path;I[I)V"⟩
def RX1 : String := "PathSteps$Rows"
def TX1 : u_T := fun k => match k with
  | 0 => ("PathSteps$Rows", "firsts", "[I", true)
  | 1 => ("PathSteps$Rows", "seconds", "[I", true)
  | 2 => ("PathSteps$Rows", "depths", "[I", true)
  | 3 => ("PathSteps$Rows", "size", "I", false)
  | _ => ("PathSteps$Rows", "wereRun", "Z", false)
def tyX1 : Nat → FieldType := fun k => match k with
  | 0 => .array .int
  | 1 => .array .int
  | 2 => .array .int
  | 3 => .int
  | _ => .boolean
abbrev wsX10 : List Cond := u_ws RX1 TX1 5
theorem nmX1 : ∀ a, a < 5 → ∀ b, b < 5 → a ≠ b → (TX1 a).2.1 ≠ (TX1 b).2.1 := by decide +kernel
theorem tyX1_ok : ∀ k, k < 5 → parseFieldDescriptor (TX1 k).2.2.1 = some (tyX1 k) := by decide +kernel
abbrev cX1_init : ByteArray := prog_3_method_1_code
def yX1_init : MethodName := ⟨RX1, "<init>", "()V"⟩
abbrev cX1_begin : ByteArray := prog_3_method_2_code
def yX1_begin : MethodName := ⟨RX1, "begin", "()V"⟩
abbrev cX1_add : ByteArray := prog_3_method_3_code
def yX1_add : MethodName := ⟨RX1, "add", "(IIII)V"⟩
abbrev cX1_has : ByteArray := prog_3_method_4_code
def yX1_has : MethodName := ⟨RX1, "has", "(I)Z"⟩
def RX2 : String := "PathSteps$Triples"
def TX2 : u_T := fun k => match k with
  | 0 => ("PathSteps$Triples", "links", "[I", true)
  | 1 => ("PathSteps$Triples", "nodes", "I", false)
  | _ => ("PathSteps$Triples", "size", "I", false)
def tyX2 : Nat → FieldType := fun k => match k with
  | 0 => .array .int
  | 1 => .int
  | _ => .int
abbrev wsX20 : List Cond := u_ws RX2 TX2 3
theorem nmX2 : ∀ a, a < 3 → ∀ b, b < 3 → a ≠ b → (TX2 a).2.1 ≠ (TX2 b).2.1 := by decide +kernel
theorem tyX2_ok : ∀ k, k < 3 → parseFieldDescriptor (TX2 k).2.2.1 = some (tyX2 k) := by decide +kernel
abbrev cX2_init : ByteArray := prog_4_method_1_code
def yX2_init : MethodName := ⟨RX2, "<init>", "()V"⟩
abbrev cX2_has : ByteArray := prog_4_method_2_code
def yX2_has : MethodName := ⟨RX2, "has", "(III)Z"⟩
abbrev cX2_add : ByteArray := prog_4_method_3_code
def yX2_add : MethodName := ⟨RX2, "add", "(III)V"⟩
abbrev cX2_countFrom : ByteArray := prog_4_method_4_code
def yX2_countFrom : MethodName := ⟨RX2, "countFrom", "(I)I"⟩
def RX3 : String := "PathSteps"
def TX3 : u_T := fun k => match k with
  | 0 => ("PathSteps", "triples", "LPathSteps$Triples;", true)
  | 1 => ("PathSteps", "paths", "[LPathSteps$Path;", true)
  | 2 => ("PathSteps", "rows", "LPathSteps$Rows;", true)
  | 3 => ("PathSteps", "levels", "[I", true)
  | 4 => ("PathSteps", "pathCount", "I", false)
  | _ => ("PathSteps", "most", "I", false)
def tyX3 : Nat → FieldType := fun k => match k with
  | 0 => .object "PathSteps$Triples"
  | 1 => .array (.object "PathSteps$Path")
  | 2 => .object "PathSteps$Rows"
  | 3 => .array .int
  | 4 => .int
  | _ => .int
abbrev wsX30 : List Cond := u_ws RX3 TX3 6
theorem nmX3 : ∀ a, a < 6 → ∀ b, b < 6 → a ≠ b → (TX3 a).2.1 ≠ (TX3 b).2.1 := by decide +kernel
theorem tyX3_ok : ∀ k, k < 6 → parseFieldDescriptor (TX3 k).2.2.1 = some (tyX3 k) := by decide +kernel
abbrev cX3_init : ByteArray := prog_1_method_1_code
def yX3_init : MethodName := ⟨RX3, "<init>", "()V"⟩
abbrev cX3_triple : ByteArray := prog_1_method_2_code
def yX3_triple : MethodName := ⟨RX3, "triple", "(III)I"⟩
abbrev cX3_path : ByteArray := prog_1_method_3_code
def yX3_path : MethodName := ⟨RX3, "path", "(III)I"⟩
abbrev cX3_from : ByteArray := prog_1_method_4_code
def yX3_from : MethodName := ⟨RX3, "from", "(I)I"⟩
abbrev cX3_run : ByteArray := prog_1_method_5_code
def yX3_run : MethodName := ⟨RX3, "run", "(III)I"⟩
abbrev cX3_at : ByteArray := prog_1_method_6_code
def yX3_at : MethodName := ⟨RX3, "at", "(II)I"⟩
abbrev cX3_plain : ByteArray := prog_1_method_7_code
def yX3_plain : MethodName := ⟨RX3, "plain", "(III)I"⟩
abbrev cX3_steps : ByteArray := prog_1_method_8_code
def yX3_steps : MethodName := ⟨RX3, "steps", "(I)I"⟩
abbrev cX3_cycle : ByteArray := prog_1_method_9_code
def yX3_cycle : MethodName := ⟨RX3, "cycle", "(I)Z"⟩
abbrev cX3_depth : ByteArray := prog_1_method_10_code
def yX3_depth : MethodName := ⟨RX3, "depth", "(I)I"⟩
abbrev cX3_inverse : ByteArray := prog_1_method_11_code
def yX3_inverse : MethodName := ⟨RX3, "inverse", "(I)I"⟩
abbrev cX3_negated : ByteArray := prog_1_method_12_code
def yX3_negated : MethodName := ⟨RX3, "negated", "(II)I"⟩
abbrev cX3_isNode : ByteArray := prog_1_method_13_code
def yX3_isNode : MethodName := ⟨RX3, "isNode", "(I)Z"⟩
abbrev cX3_isPredicate : ByteArray := prog_1_method_14_code
def yX3_isPredicate : MethodName := ⟨RX3, "isPredicate", "(I)Z"⟩
abbrev cX3_isEnd : ByteArray := prog_1_method_15_code
def yX3_isEnd : MethodName := ⟨RX3, "isEnd", "(I)Z"⟩
abbrev cX3_lowest : ByteArray := prog_1_method_16_code
def yX3_lowest : MethodName := ⟨RX3, "lowest", "(I)I"⟩
abbrev cX3_highest : ByteArray := prog_1_method_17_code
def yX3_highest : MethodName := ⟨RX3, "highest", "(I)I"⟩
abbrev cX3_bitOf : ByteArray := prog_1_method_18_code
def yX3_bitOf : MethodName := ⟨RX3, "bitOf", "(I)I"⟩
abbrev cX3_holds : ByteArray := prog_1_method_19_code
def yX3_holds : MethodName := ⟨RX3, "holds", "(II)Z"⟩
abbrev cX3_known : ByteArray := prog_1_method_20_code
def yX3_known : MethodName := ⟨RX3, "known", "(I)LPathSteps$Path;"⟩
abbrev cX3_keepOverOne : ByteArray := prog_1_method_21_code
def yX3_keepOverOne : MethodName := ⟨RX3, "keepOverOne", "(ILPathSteps$Path;)I"⟩
abbrev cX3_keepOverTwo : ByteArray := prog_1_method_22_code
def yX3_keepOverTwo : MethodName := ⟨RX3, "keepOverTwo", "(ILPathSteps$Path;LPathSteps$Path;)I"⟩
abbrev cX3_keepPath : ByteArray := prog_1_method_23_code
def yX3_keepPath : MethodName := ⟨RX3, "keepPath", "(IILPathSteps$Path;LPathSteps$Path;)I"⟩
abbrev cX3_countParts : ByteArray := prog_1_method_24_code
def yX3_countParts : MethodName := ⟨RX3, "countParts", "(LPathSteps$Path;II)V"⟩
abbrev cX3_goesBeyond : ByteArray := prog_1_method_25_code
def yX3_goesBeyond : MethodName := ⟨RX3, "goesBeyond", "(LPathSteps$Path;)Z"⟩
abbrev cX3_keepRows : ByteArray := prog_1_method_26_code
def yX3_keepRows : MethodName := ⟨RX3, "keepRows", "(LPathSteps$Path;II)V"⟩
def RX4 : String := "PathStepsModel"
def TX4 : u_T := fun k => match k with
  | 0 => ("PathStepsModel", "refusal", "I", false)
  | 1 => ("PathStepsModel", "subjects", "[I", true)
  | 2 => ("PathStepsModel", "predicates", "[I", true)
  | 3 => ("PathStepsModel", "objects", "[I", true)
  | 4 => ("PathStepsModel", "triples", "I", false)
  | 5 => ("PathStepsModel", "kinds", "[I", true)
  | 6 => ("PathStepsModel", "first", "[I", true)
  | 7 => ("PathStepsModel", "second", "[I", true)
  | 8 => ("PathStepsModel", "paths", "I", false)
  | 9 => ("PathStepsModel", "most", "I", false)
  | 10 => ("PathStepsModel", "table", "[I", true)
  | 11 => ("PathStepsModel", "isNeeded", "[Z", true)
  | 12 => ("PathStepsModel", "isIn", "[Z", true)
  | 13 => ("PathStepsModel", "goesBeyond", "Z", false)
  | 14 => ("PathStepsModel", "steps", "[I", true)
  | 15 => ("PathStepsModel", "queue", "[I", true)
  | 16 => ("PathStepsModel", "wasRun", "Z", false)
  | 17 => ("PathStepsModel", "rows", "I", false)
  | 18 => ("PathStepsModel", "rowFrom", "[I", true)
  | 19 => ("PathStepsModel", "rowTo", "[I", true)
  | _ => ("PathStepsModel", "rowDepth", "[I", true)
def tyX4 : Nat → FieldType := fun k => match k with
  | 0 => .int
  | 1 => .array .int
  | 2 => .array .int
  | 3 => .array .int
  | 4 => .int
  | 5 => .array .int
  | 6 => .array .int
  | 7 => .array .int
  | 8 => .int
  | 9 => .int
  | 10 => .array .int
  | 11 => .array .boolean
  | 12 => .array .boolean
  | 13 => .boolean
  | 14 => .array .int
  | 15 => .array .int
  | 16 => .boolean
  | 17 => .int
  | 18 => .array .int
  | 19 => .array .int
  | _ => .array .int
abbrev wsX40 : List Cond := u_ws RX4 TX4 21
theorem nmX4 : ∀ a, a < 21 → ∀ b, b < 21 → a ≠ b → (TX4 a).2.1 ≠ (TX4 b).2.1 := by decide +kernel
theorem tyX4_ok : ∀ k, k < 21 → parseFieldDescriptor (TX4 k).2.2.1 = some (tyX4 k) := by decide +kernel
abbrev cX4_init : ByteArray := prog_6_method_1_code
def yX4_init : MethodName := ⟨RX4, "<init>", "()V"⟩
abbrev cX4_thrown : ByteArray := prog_6_method_2_code
def yX4_thrown : MethodName := ⟨RX4, "thrown", "()I"⟩
abbrev cX4_isBetween : ByteArray := prog_6_method_3_code
def yX4_isBetween : MethodName := ⟨RX4, "isBetween", "(III)Z"⟩
abbrev cX4_isNode : ByteArray := prog_6_method_4_code
def yX4_isNode : MethodName := ⟨RX4, "isNode", "(I)Z"⟩
abbrev cX4_isPath : ByteArray := prog_6_method_5_code
def yX4_isPath : MethodName := ⟨RX4, "isPath", "(I)Z"⟩
abbrev cX4_triple : ByteArray := prog_6_method_6_code
def yX4_triple : MethodName := ⟨RX4, "triple", "(III)I"⟩
abbrev cX4_made : ByteArray := prog_6_method_7_code
def yX4_made : MethodName := ⟨RX4, "made", "(III)I"⟩
abbrev cX4_path : ByteArray := prog_6_method_8_code
def yX4_path : MethodName := ⟨RX4, "path", "(III)I"⟩
abbrev cX4_inverse : ByteArray := prog_6_method_9_code
def yX4_inverse : MethodName := ⟨RX4, "inverse", "(I)I"⟩
abbrev cX4_negated : ByteArray := prog_6_method_10_code
def yX4_negated : MethodName := ⟨RX4, "negated", "(II)I"⟩
abbrev cX4_from : ByteArray := prog_6_method_11_code
def yX4_from : MethodName := ⟨RX4, "from", "(I)I"⟩
abbrev cX4_steps : ByteArray := prog_6_method_12_code
def yX4_steps : MethodName := ⟨RX4, "steps", "(I)I"⟩
abbrev cX4_cell : ByteArray := prog_6_method_13_code
def yX4_cell : MethodName := ⟨RX4, "cell", "(III)I"⟩
abbrev cX4_put : ByteArray := prog_6_method_14_code
def yX4_put : MethodName := ⟨RX4, "put", "(IIIJ)V"⟩
abbrev cX4_findNeeded : ByteArray := prog_6_method_15_code
def yX4_findNeeded : MethodName := ⟨RX4, "findNeeded", "(I)V"⟩
abbrev cX4_findGraph : ByteArray := prog_6_method_16_code
def yX4_findGraph : MethodName := ⟨RX4, "findGraph", "(II)V"⟩
abbrev cX4_makeLinks : ByteArray := prog_6_method_17_code
def yX4_makeLinks : MethodName := ⟨RX4, "makeLinks", "(I)V"⟩
abbrev cX4_joined : ByteArray := prog_6_method_18_code
def yX4_joined : MethodName := ⟨RX4, "joined", "(III)J"⟩
abbrev cX4_walk : ByteArray := prog_6_method_19_code
def yX4_walk : MethodName := ⟨RX4, "walk", "(II)V"⟩
abbrev cX4_makeWalks : ByteArray := prog_6_method_20_code
def yX4_makeWalks : MethodName := ⟨RX4, "makeWalks", "(I)V"⟩
abbrev cX4_makeTable : ByteArray := prog_6_method_21_code
def yX4_makeTable : MethodName := ⟨RX4, "makeTable", "(I)V"⟩
abbrev cX4_prepare : ByteArray := prog_6_method_22_code
def yX4_prepare : MethodName := ⟨RX4, "prepare", "(III)I"⟩
abbrev cX4_fits : ByteArray := prog_6_method_23_code
def yX4_fits : MethodName := ⟨RX4, "fits", "(IIII)Z"⟩
abbrev cX4_isEnd : ByteArray := prog_6_method_24_code
def yX4_isEnd : MethodName := ⟨RX4, "isEnd", "(I)Z"⟩
abbrev cX4_run : ByteArray := prog_6_method_25_code
def yX4_run : MethodName := ⟨RX4, "run", "(III)I"⟩
abbrev cX4_plain : ByteArray := prog_6_method_26_code
def yX4_plain : MethodName := ⟨RX4, "plain", "(III)I"⟩
abbrev cX4_isRow : ByteArray := prog_6_method_27_code
def yX4_isRow : MethodName := ⟨RX4, "isRow", "(I)Z"⟩
abbrev cX4_at : ByteArray := prog_6_method_28_code
def yX4_at : MethodName := ⟨RX4, "at", "(II)I"⟩
abbrev cX4_cycle : ByteArray := prog_6_method_29_code
def yX4_cycle : MethodName := ⟨RX4, "cycle", "(I)Z"⟩
abbrev cX4_depth : ByteArray := prog_6_method_30_code
def yX4_depth : MethodName := ⟨RX4, "depth", "(I)I"⟩
def RJx00060 : String := "java/lang/ArrayIndexOutOfBoundsException"
def TJx00060 : u_T := fun k => match k with
  | 0 => ("java/lang/Throwable", "cause", "Ljava/lang/Throwable;", false)
  | 1 => ("java/lang/Throwable", "stackTrace", "[Ljava/lang/StackTraceElement;", false)
  | 2 => ("java/lang/Throwable", "suppressedExceptions", "Ljava/util/List;", false)
  | 3 => ("java/lang/Throwable", "detailMessage", "Ljava/lang/String;", false)
  | 4 => ("java/lang/Throwable", "backtrace", "Ljava/lang/Object;", false)
  | _ => ("java/lang/Throwable", "depth", "I", false)
def tyJx00060 : Nat → FieldType := fun k => match k with
  | 0 => .object "java/lang/Throwable"
  | 1 => .array (.object "java/lang/StackTraceElement")
  | 2 => .object "java/util/List"
  | 3 => .object "java/lang/String"
  | 4 => .object "java/lang/Object"
  | _ => .int
abbrev wsJx000600 : List Cond := u_ws RJx00060 TJx00060 6
theorem nmJx00060 : ∀ a, a < 6 → ∀ b, b < 6 → a ≠ b → (TJx00060 a).2.1 ≠ (TJx00060 b).2.1 := by decide +kernel
theorem tyJx00060_ok : ∀ k, k < 6 → parseFieldDescriptor (TJx00060 k).2.2.1 = some (tyJx00060 k) := by decide +kernel
abbrev cJx00060_init_a7421 : ByteArray := prog_7_method_2_code
def yJx00060_init_a7421 : MethodName := ⟨RJx00060, "<init>", "(Ljava/lang/String;)V"⟩
def RJ6 : String := "java/lang/Integer"
def TJ6 : u_T := fun k => match k with
  | _ => ("", "", "", false)
def tyJ6 : Nat → FieldType := fun k => match k with
  | _ => .int
abbrev wsJ60 : List Cond := u_ws RJ6 TJ6 0
theorem nmJ6 : ∀ a, a < 0 → ∀ b, b < 0 → a ≠ b → (TJ6 a).2.1 ≠ (TJ6 b).2.1 := by decide +kernel
theorem tyJ6_ok : ∀ k, k < 0 → parseFieldDescriptor (TJ6 k).2.2.1 = some (tyJ6 k) := by decide +kernel
abbrev cJ6_bitCount_0f7a4 : ByteArray := prog_10_method_49_code
def yJ6_bitCount_0f7a4 : MethodName := ⟨RJ6, "bitCount", "(I)I"⟩
def RJ9 : String := "java/lang/Math"
def TJ9 : u_T := fun k => match k with
  | _ => ("", "", "", false)
def tyJ9 : Nat → FieldType := fun k => match k with
  | _ => .int
abbrev wsJ90 : List Cond := u_ws RJ9 TJ9 0
theorem nmJ9 : ∀ a, a < 0 → ∀ b, b < 0 → a ≠ b → (TJ9 a).2.1 ≠ (TJ9 b).2.1 := by decide +kernel
theorem tyJ9_ok : ∀ k, k < 0 → parseFieldDescriptor (TJ9 k).2.2.1 = some (tyJ9 k) := by decide +kernel
abbrev cJ9_min_f86c9 : ByteArray := prog_11_method_70_code
def yJ9_min_f86c9 : MethodName := ⟨RJ9, "min", "(JJ)J"⟩
def RJ0 : String := "java/lang/String"
def TJ0 : u_T := fun k => match k with
  | _ => ("", "", "", false)
def tyJ0 : Nat → FieldType := fun k => match k with
  | _ => .int
abbrev wsJ00 : List Cond := u_ws RJ0 TJ0 0
theorem nmJ0 : ∀ a, a < 0 → ∀ b, b < 0 → a ≠ b → (TJ0 a).2.1 ≠ (TJ0 b).2.1 := by decide +kernel
theorem tyJ0_ok : ∀ k, k < 0 → parseFieldDescriptor (TJ0 k).2.2.1 = some (tyJ0 k) := by decide +kernel
def RL : String := "PathStepsLaw"
abbrev cL_depth : ByteArray := method_3_code
def yL_depth : MethodName := ⟨RL, "depth", "(LPathSteps;I[J)I"⟩
abbrev cL_law : ByteArray := code
def yL_law : MethodName := ⟨RL, "law", "([I)Z"⟩
abbrev vwCl : List vw_C := [(RJx00060, TJx00060, 6), (RX0, TX0, 10), (RX1, TX1, 5), (RX2, TX2, 3), (RX3, TX3, 6), (RX4, TX4, 21)]
end
section
def tg : List Cond := lw_tbl.filter goodWord
theorem tg_at {w : Cond} (i : Nat) (h : lw_tbl[i]? = some w) (hg : goodWord w = true) : w ∈ tg := List.mem_filter.mpr ⟨List.mem_of_getElem? h, hg⟩
theorem tg_in : ∀ w ∈ tg, w ∈ lw_tbl := fun w h => (List.mem_filter.mp h).1
/-- every word list that is a method's code and tg: good among any other such -/
theorem tg_good {x w : Cond} (h : w ∈ tg) : GoodIn (x :: tg) (w :: tg) := fun v hv => (List.mem_cons.mp hv).elim (fun e => by rw [e]; exact ⟨List.mem_cons_of_mem _ h, good_of_word (List.mem_filter.mp h).2⟩) (fun e => ⟨List.mem_cons_of_mem _ e, good_of_word (List.mem_filter.mp e).2⟩)
theorem tg_law {w : Cond} (h : w ∈ tg) : GoodIn lw_tbl (w :: tg) := fun v hv => (List.mem_cons.mp hv).elim (fun e => by rw [e]; exact ⟨tg_in _ h, good_of_word (List.mem_filter.mp h).2⟩) (fun e => ⟨tg_in _ e, good_of_word (List.mem_filter.mp e).2⟩)
set_option maxRecDepth 20000 in
theorem tw_0 : (Cond.initialized RL) ∈ tg := tg_at 34 (by first | rfl | decide +kernel) (by first | rfl | decide +kernel)
set_option maxRecDepth 20000 in
theorem tw_1 : (Cond.initialized RX3) ∈ tg := tg_at 35 (by first | rfl | decide +kernel) (by first | rfl | decide +kernel)
set_option maxRecDepth 20000 in
theorem tw_2 : (Cond.initialized RX2) ∈ tg := tg_at 36 (by first | rfl | decide +kernel) (by first | rfl | decide +kernel)
set_option maxRecDepth 20000 in
theorem tw_3 : (Cond.initialized RX1) ∈ tg := tg_at 37 (by first | rfl | decide +kernel) (by first | rfl | decide +kernel)
set_option maxRecDepth 20000 in
theorem tw_4 : (Cond.initialized RX4) ∈ tg := tg_at 38 (by first | rfl | decide +kernel) (by first | rfl | decide +kernel)
set_option maxRecDepth 20000 in
theorem tw_5 : (Cond.initialized RX0) ∈ tg := tg_at 39 (by first | rfl | decide +kernel) (by first | rfl | decide +kernel)
set_option maxRecDepth 20000 in
theorem tw_6 : (Cond.initialized RJ6) ∈ tg := tg_at 40 (by first | rfl | decide +kernel) (by first | rfl | decide +kernel)
set_option maxRecDepth 20000 in
theorem tw_7 : (Cond.initialized RJ9) ∈ tg := tg_at 41 (by first | rfl | decide +kernel) (by first | rfl | decide +kernel)
set_option maxRecDepth 20000 in
theorem tw_8 : (Cond.initialized "java/lang/Throwable") ∈ tg := tg_at 42 (by first | rfl | decide +kernel) (by first | rfl | decide +kernel)
set_option maxRecDepth 20000 in
theorem tw_9 : (Cond.initialized "java/lang/Exception") ∈ tg := tg_at 43 (by first | rfl | decide +kernel) (by first | rfl | decide +kernel)
set_option maxRecDepth 20000 in
theorem tw_10 : (Cond.initialized "java/lang/RuntimeException") ∈ tg := tg_at 44 (by first | rfl | decide +kernel) (by first | rfl | decide +kernel)
set_option maxRecDepth 20000 in
theorem tw_11 : (Cond.initialized "java/lang/IndexOutOfBoundsException") ∈ tg := tg_at 45 (by first | rfl | decide +kernel) (by first | rfl | decide +kernel)
set_option maxRecDepth 20000 in
theorem tw_12 : (Cond.initialized RJx00060) ∈ tg := tg_at 46 (by first | rfl | decide +kernel) (by first | rfl | decide +kernel)
set_option maxRecDepth 20000 in
theorem tw_13 : (Cond.classLink RL (8 : Nat) RX3) ∈ tg := tg_at 47 (by first | rfl | decide +kernel) (by first | rfl | decide +kernel)
set_option maxRecDepth 20000 in
theorem tw_14 : (Cond.instantiable RX3 (6 : Nat)) ∈ tg := tg_at 48 (by first | rfl | decide +kernel) (by first | rfl | decide +kernel)
set_option maxRecDepth 20000 in
theorem tw_15 : (Cond.methodLink RL (15 : Nat) yX3_init) ∈ tg := tg_at 49 (by first | rfl | decide +kernel) (by first | rfl | decide +kernel)
set_option maxRecDepth 20000 in
theorem tw_16 : (Cond.instanceMethod yX3_init) ∈ tg := tg_at 50 (by first | rfl | decide +kernel) (by first | rfl | decide +kernel)
set_option maxRecDepth 20000 in
theorem tw_17 : (Cond.code yX3_init cX3_init (1 : Nat) (Option.none : Option FieldType)) ∈ tg := tg_at 51 (by first | rfl | decide +kernel) (by first | rfl | decide +kernel)
set_option maxRecDepth 20000 in
theorem tw_18 : (Cond.methodLink RX3 (3 : Nat) objectInit) ∈ tg := tg_at 52 (by first | rfl | decide +kernel) (by first | rfl | decide +kernel)
set_option maxRecDepth 20000 in
theorem tw_19 : (Cond.instanceMethod objectInit) ∈ tg := tg_at 53 (by first | rfl | decide +kernel) (by first | rfl | decide +kernel)
set_option maxRecDepth 20000 in
theorem tw_20 : (Cond.code objectInit object_method_1_code (1 : Nat) (Option.none : Option FieldType)) ∈ tg := tg_at 54 (by first | rfl | decide +kernel) (by first | rfl | decide +kernel)
set_option maxRecDepth 20000 in
theorem tw_21 : (Cond.classLink RX3 (9 : Nat) RX2) ∈ tg := tg_at 55 (by first | rfl | decide +kernel) (by first | rfl | decide +kernel)
set_option maxRecDepth 20000 in
theorem tw_22 : (Cond.instantiable RX2 (3 : Nat)) ∈ tg := tg_at 56 (by first | rfl | decide +kernel) (by first | rfl | decide +kernel)
set_option maxRecDepth 20000 in
theorem tw_23 : (Cond.methodLink RX3 (11 : Nat) yX2_init) ∈ tg := tg_at 57 (by first | rfl | decide +kernel) (by first | rfl | decide +kernel)
set_option maxRecDepth 20000 in
theorem tw_24 : (Cond.instanceMethod yX2_init) ∈ tg := tg_at 58 (by first | rfl | decide +kernel) (by first | rfl | decide +kernel)
set_option maxRecDepth 20000 in
theorem tw_25 : (Cond.code yX2_init cX2_init (1 : Nat) (Option.none : Option FieldType)) ∈ tg := tg_at 59 (by first | rfl | decide +kernel) (by first | rfl | decide +kernel)
set_option maxRecDepth 20000 in
theorem tw_26 : (Cond.methodLink RX2 (3 : Nat) objectInit) ∈ tg := tg_at 60 (by first | rfl | decide +kernel) (by first | rfl | decide +kernel)
set_option maxRecDepth 20000 in
theorem tw_27 : (Cond.fieldLink RX2 (9 : Nat) "PathSteps$Triples" "links" "[I") ∈ tg := tg_at 61 (by first | rfl | decide +kernel) (by first | rfl | decide +kernel)
set_option maxRecDepth 20000 in
theorem tw_28 : (Cond.fieldLink RX0 (89 : Nat) "PathSteps$Triples" "links" "[I") ∈ tg := tg_at 62 (by first | rfl | decide +kernel) (by first | rfl | decide +kernel)
set_option maxRecDepth 20000 in
theorem tw_29 : (Cond.fieldLink RX2 (15 : Nat) "PathSteps$Triples" "nodes" "I") ∈ tg := tg_at 63 (by first | rfl | decide +kernel) (by first | rfl | decide +kernel)
set_option maxRecDepth 20000 in
theorem tw_30 : (Cond.fieldLink RX3 (122 : Nat) "PathSteps$Triples" "nodes" "I") ∈ tg := tg_at 64 (by first | rfl | decide +kernel) (by first | rfl | decide +kernel)
set_option maxRecDepth 20000 in
theorem tw_31 : (Cond.fieldLink RX2 (19 : Nat) "PathSteps$Triples" "size" "I") ∈ tg := tg_at 65 (by first | rfl | decide +kernel) (by first | rfl | decide +kernel)
set_option maxRecDepth 20000 in
theorem tw_32 : (Cond.fieldLink RX3 (51 : Nat) "PathSteps$Triples" "size" "I") ∈ tg := tg_at 66 (by first | rfl | decide +kernel) (by first | rfl | decide +kernel)
set_option maxRecDepth 20000 in
theorem tw_33 : (Cond.fieldLink RX0 (61 : Nat) "PathSteps$Triples" "size" "I") ∈ tg := tg_at 67 (by first | rfl | decide +kernel) (by first | rfl | decide +kernel)
set_option maxRecDepth 20000 in
theorem tw_34 : (Cond.laysFinal RX2 "PathSteps$Triples" "links" "[I") ∈ tg := tg_at 68 (by first | rfl | decide +kernel) (by first | rfl | decide +kernel)
set_option maxRecDepth 20000 in
theorem tw_36 : (Cond.lays RX2 "PathSteps$Triples" "nodes" "I") ∈ tg := tg_at 70 (by first | rfl | decide +kernel) (by first | rfl | decide +kernel)
set_option maxRecDepth 20000 in
theorem tw_38 : (Cond.lays RX2 "PathSteps$Triples" "size" "I") ∈ tg := tg_at 72 (by first | rfl | decide +kernel) (by first | rfl | decide +kernel)
set_option maxRecDepth 20000 in
theorem tw_40 : (Cond.superclass "PathSteps$Triples" "java/lang/Object") ∈ tg := tg_at 74 (by first | rfl | decide +kernel) (by first | rfl | decide +kernel)
set_option maxRecDepth 20000 in
theorem tw_41 : (Cond.arrayClass FieldType.int) ∈ tg := tg_at 75 (by first | rfl | decide +kernel) (by first | rfl | decide +kernel)
set_option maxRecDepth 20000 in
theorem tw_42 : (Cond.classLink RX3 (16 : Nat) RX0) ∈ tg := tg_at 76 (by first | rfl | decide +kernel) (by first | rfl | decide +kernel)
set_option maxRecDepth 20000 in
theorem tn_43 : (Cond.arrayOver (FieldType.object "PathSteps$Path")) ∈ lw_tbl := List.mem_of_getElem? (i := 77) (by first | rfl | decide +kernel)
set_option maxRecDepth 20000 in
theorem tw_44 : (Cond.classLink RX3 (22 : Nat) RX1) ∈ tg := tg_at 78 (by first | rfl | decide +kernel) (by first | rfl | decide +kernel)
set_option maxRecDepth 20000 in
theorem tw_45 : (Cond.instantiable RX1 (5 : Nat)) ∈ tg := tg_at 79 (by first | rfl | decide +kernel) (by first | rfl | decide +kernel)
set_option maxRecDepth 20000 in
theorem tw_46 : (Cond.methodLink RX3 (24 : Nat) yX1_init) ∈ tg := tg_at 80 (by first | rfl | decide +kernel) (by first | rfl | decide +kernel)
set_option maxRecDepth 20000 in
theorem tw_47 : (Cond.instanceMethod yX1_init) ∈ tg := tg_at 81 (by first | rfl | decide +kernel) (by first | rfl | decide +kernel)
set_option maxRecDepth 20000 in
theorem tw_48 : (Cond.code yX1_init cX1_init (1 : Nat) (Option.none : Option FieldType)) ∈ tg := tg_at 82 (by first | rfl | decide +kernel) (by first | rfl | decide +kernel)
set_option maxRecDepth 20000 in
theorem tw_49 : (Cond.methodLink RX1 (3 : Nat) objectInit) ∈ tg := tg_at 83 (by first | rfl | decide +kernel) (by first | rfl | decide +kernel)
set_option maxRecDepth 20000 in
theorem tw_50 : (Cond.fieldLink RX1 (9 : Nat) "PathSteps$Rows" "firsts" "[I") ∈ tg := tg_at 84 (by first | rfl | decide +kernel) (by first | rfl | decide +kernel)
set_option maxRecDepth 20000 in
theorem tw_51 : (Cond.fieldLink RX3 (102 : Nat) "PathSteps$Rows" "firsts" "[I") ∈ tg := tg_at 85 (by first | rfl | decide +kernel) (by first | rfl | decide +kernel)
set_option maxRecDepth 20000 in
theorem tw_52 : (Cond.fieldLink RX1 (15 : Nat) "PathSteps$Rows" "seconds" "[I") ∈ tg := tg_at 86 (by first | rfl | decide +kernel) (by first | rfl | decide +kernel)
set_option maxRecDepth 20000 in
theorem tw_53 : (Cond.fieldLink RX3 (105 : Nat) "PathSteps$Rows" "seconds" "[I") ∈ tg := tg_at 87 (by first | rfl | decide +kernel) (by first | rfl | decide +kernel)
set_option maxRecDepth 20000 in
theorem tw_54 : (Cond.fieldLink RX1 (18 : Nat) "PathSteps$Rows" "depths" "[I") ∈ tg := tg_at 88 (by first | rfl | decide +kernel) (by first | rfl | decide +kernel)
set_option maxRecDepth 20000 in
theorem tw_55 : (Cond.fieldLink RX3 (115 : Nat) "PathSteps$Rows" "depths" "[I") ∈ tg := tg_at 89 (by first | rfl | decide +kernel) (by first | rfl | decide +kernel)
set_option maxRecDepth 20000 in
theorem tw_56 : (Cond.fieldLink RX1 (21 : Nat) "PathSteps$Rows" "size" "I") ∈ tg := tg_at 90 (by first | rfl | decide +kernel) (by first | rfl | decide +kernel)
set_option maxRecDepth 20000 in
theorem tw_57 : (Cond.fieldLink RX1 (25 : Nat) "PathSteps$Rows" "wereRun" "Z") ∈ tg := tg_at 91 (by first | rfl | decide +kernel) (by first | rfl | decide +kernel)
set_option maxRecDepth 20000 in
theorem tw_58 : (Cond.fieldLink RX3 (96 : Nat) "PathSteps$Rows" "wereRun" "Z") ∈ tg := tg_at 92 (by first | rfl | decide +kernel) (by first | rfl | decide +kernel)
set_option maxRecDepth 20000 in
theorem tw_59 : (Cond.laysFinal RX1 "PathSteps$Rows" "firsts" "[I") ∈ tg := tg_at 93 (by first | rfl | decide +kernel) (by first | rfl | decide +kernel)
set_option maxRecDepth 20000 in
theorem tw_61 : (Cond.laysFinal RX1 "PathSteps$Rows" "seconds" "[I") ∈ tg := tg_at 95 (by first | rfl | decide +kernel) (by first | rfl | decide +kernel)
set_option maxRecDepth 20000 in
theorem tw_63 : (Cond.laysFinal RX1 "PathSteps$Rows" "depths" "[I") ∈ tg := tg_at 97 (by first | rfl | decide +kernel) (by first | rfl | decide +kernel)
set_option maxRecDepth 20000 in
theorem tw_65 : (Cond.lays RX1 "PathSteps$Rows" "size" "I") ∈ tg := tg_at 99 (by first | rfl | decide +kernel) (by first | rfl | decide +kernel)
set_option maxRecDepth 20000 in
theorem tw_67 : (Cond.lays RX1 "PathSteps$Rows" "wereRun" "Z") ∈ tg := tg_at 101 (by first | rfl | decide +kernel) (by first | rfl | decide +kernel)
set_option maxRecDepth 20000 in
theorem tw_69 : (Cond.superclass "PathSteps$Rows" "java/lang/Object") ∈ tg := tg_at 103 (by first | rfl | decide +kernel) (by first | rfl | decide +kernel)
set_option maxRecDepth 20000 in
theorem tw_70 : (Cond.fieldLink RX3 (12 : Nat) "PathSteps" "triples" "LPathSteps$Triples;") ∈ tg := tg_at 104 (by first | rfl | decide +kernel) (by first | rfl | decide +kernel)
set_option maxRecDepth 20000 in
theorem tw_71 : (Cond.fieldLink RX3 (18 : Nat) "PathSteps" "paths" "[LPathSteps$Path;") ∈ tg := tg_at 105 (by first | rfl | decide +kernel) (by first | rfl | decide +kernel)
set_option maxRecDepth 20000 in
theorem tw_72 : (Cond.fieldLink RX3 (25 : Nat) "PathSteps" "rows" "LPathSteps$Rows;") ∈ tg := tg_at 106 (by first | rfl | decide +kernel) (by first | rfl | decide +kernel)
set_option maxRecDepth 20000 in
theorem tw_73 : (Cond.fieldLink RX3 (29 : Nat) "PathSteps" "levels" "[I") ∈ tg := tg_at 107 (by first | rfl | decide +kernel) (by first | rfl | decide +kernel)
set_option maxRecDepth 20000 in
theorem tw_74 : (Cond.fieldLink RX3 (33 : Nat) "PathSteps" "pathCount" "I") ∈ tg := tg_at 108 (by first | rfl | decide +kernel) (by first | rfl | decide +kernel)
set_option maxRecDepth 20000 in
theorem tw_75 : (Cond.fieldLink RX3 (37 : Nat) "PathSteps" "most" "I") ∈ tg := tg_at 109 (by first | rfl | decide +kernel) (by first | rfl | decide +kernel)
set_option maxRecDepth 20000 in
theorem tw_76 : (Cond.laysFinal RX3 "PathSteps" "triples" "LPathSteps$Triples;") ∈ tg := tg_at 110 (by first | rfl | decide +kernel) (by first | rfl | decide +kernel)
set_option maxRecDepth 20000 in
theorem tw_78 : (Cond.laysFinal RX3 "PathSteps" "paths" "[LPathSteps$Path;") ∈ tg := tg_at 112 (by first | rfl | decide +kernel) (by first | rfl | decide +kernel)
set_option maxRecDepth 20000 in
theorem tw_80 : (Cond.laysFinal RX3 "PathSteps" "rows" "LPathSteps$Rows;") ∈ tg := tg_at 114 (by first | rfl | decide +kernel) (by first | rfl | decide +kernel)
set_option maxRecDepth 20000 in
theorem tw_82 : (Cond.laysFinal RX3 "PathSteps" "levels" "[I") ∈ tg := tg_at 116 (by first | rfl | decide +kernel) (by first | rfl | decide +kernel)
set_option maxRecDepth 20000 in
theorem tw_84 : (Cond.lays RX3 "PathSteps" "pathCount" "I") ∈ tg := tg_at 118 (by first | rfl | decide +kernel) (by first | rfl | decide +kernel)
set_option maxRecDepth 20000 in
theorem tw_86 : (Cond.lays RX3 "PathSteps" "most" "I") ∈ tg := tg_at 120 (by first | rfl | decide +kernel) (by first | rfl | decide +kernel)
set_option maxRecDepth 20000 in
theorem tw_88 : (Cond.superclass "PathSteps" "java/lang/Object") ∈ tg := tg_at 122 (by first | rfl | decide +kernel) (by first | rfl | decide +kernel)
set_option maxRecDepth 20000 in
theorem tw_89 : (Cond.methodLink RL (19 : Nat) yX3_triple) ∈ tg := tg_at 123 (by first | rfl | decide +kernel) (by first | rfl | decide +kernel)
set_option maxRecDepth 20000 in
theorem tw_90 : (Cond.instanceMethod yX3_triple) ∈ tg := tg_at 124 (by first | rfl | decide +kernel) (by first | rfl | decide +kernel)
set_option maxRecDepth 20000 in
theorem tw_91 : (Cond.selects RX3 yX3_triple yX3_triple) ∈ tg := tg_at 125 (by first | rfl | decide +kernel) (by first | rfl | decide +kernel)
set_option maxRecDepth 20000 in
theorem tw_92 : (Cond.code yX3_triple cX3_triple (4 : Nat) (Option.some FieldType.int)) ∈ tg := tg_at 126 (by first | rfl | decide +kernel) (by first | rfl | decide +kernel)
set_option maxRecDepth 20000 in
theorem tw_93 : (Cond.methodLink RX3 (40 : Nat) yX3_isNode) ∈ tg := tg_at 127 (by first | rfl | decide +kernel) (by first | rfl | decide +kernel)
set_option maxRecDepth 20000 in
theorem tw_94 : (Cond.static yX3_isNode) ∈ tg := tg_at 128 (by first | rfl | decide +kernel) (by first | rfl | decide +kernel)
set_option maxRecDepth 20000 in
theorem tw_95 : (Cond.code yX3_isNode cX3_isNode (1 : Nat) (Option.some FieldType.boolean)) ∈ tg := tg_at 129 (by first | rfl | decide +kernel) (by first | rfl | decide +kernel)
set_option maxRecDepth 20000 in
theorem tw_96 : (Cond.methodLink RX3 (44 : Nat) yX3_isPredicate) ∈ tg := tg_at 130 (by first | rfl | decide +kernel) (by first | rfl | decide +kernel)
set_option maxRecDepth 20000 in
theorem tw_97 : (Cond.static yX3_isPredicate) ∈ tg := tg_at 131 (by first | rfl | decide +kernel) (by first | rfl | decide +kernel)
set_option maxRecDepth 20000 in
theorem tw_98 : (Cond.code yX3_isPredicate cX3_isPredicate (1 : Nat) (Option.some FieldType.boolean)) ∈ tg := tg_at 132 (by first | rfl | decide +kernel) (by first | rfl | decide +kernel)
set_option maxRecDepth 20000 in
theorem tw_99 : (Cond.methodLink RX3 (47 : Nat) yX2_has) ∈ tg := tg_at 133 (by first | rfl | decide +kernel) (by first | rfl | decide +kernel)
set_option maxRecDepth 20000 in
theorem tw_100 : (Cond.instanceMethod yX2_has) ∈ tg := tg_at 134 (by first | rfl | decide +kernel) (by first | rfl | decide +kernel)
set_option maxRecDepth 20000 in
theorem tw_101 : (Cond.selects RX2 yX2_has yX2_has) ∈ tg := tg_at 135 (by first | rfl | decide +kernel) (by first | rfl | decide +kernel)
set_option maxRecDepth 20000 in
theorem tw_102 : (Cond.code yX2_has cX2_has (4 : Nat) (Option.some FieldType.boolean)) ∈ tg := tg_at 136 (by first | rfl | decide +kernel) (by first | rfl | decide +kernel)
set_option maxRecDepth 20000 in
theorem tn_103 : (Cond.methodLinkNest RX2 (22 : Nat) yX3_holds "PathSteps") ∈ lw_tbl := List.mem_of_getElem? (i := 137) (by first | rfl | decide +kernel)
set_option maxRecDepth 20000 in
theorem tw_104 : (Cond.static yX3_holds) ∈ tg := tg_at 138 (by first | rfl | decide +kernel) (by first | rfl | decide +kernel)
set_option maxRecDepth 20000 in
theorem tw_105 : (Cond.code yX3_holds cX3_holds (2 : Nat) (Option.some FieldType.boolean)) ∈ tg := tg_at 139 (by first | rfl | decide +kernel) (by first | rfl | decide +kernel)
set_option maxRecDepth 20000 in
theorem tw_106 : (Cond.methodLink RX3 (54 : Nat) yX2_add) ∈ tg := tg_at 140 (by first | rfl | decide +kernel) (by first | rfl | decide +kernel)
set_option maxRecDepth 20000 in
theorem tw_107 : (Cond.instanceMethod yX2_add) ∈ tg := tg_at 141 (by first | rfl | decide +kernel) (by first | rfl | decide +kernel)
set_option maxRecDepth 20000 in
theorem tw_108 : (Cond.selects RX2 yX2_add yX2_add) ∈ tg := tg_at 142 (by first | rfl | decide +kernel) (by first | rfl | decide +kernel)
set_option maxRecDepth 20000 in
theorem tw_109 : (Cond.code yX2_add cX2_add (4 : Nat) (Option.none : Option FieldType)) ∈ tg := tg_at 143 (by first | rfl | decide +kernel) (by first | rfl | decide +kernel)
set_option maxRecDepth 20000 in
theorem tw_110 : (Cond.methodLink RL (24 : Nat) yX3_path) ∈ tg := tg_at 144 (by first | rfl | decide +kernel) (by first | rfl | decide +kernel)
set_option maxRecDepth 20000 in
theorem tw_111 : (Cond.instanceMethod yX3_path) ∈ tg := tg_at 145 (by first | rfl | decide +kernel) (by first | rfl | decide +kernel)
set_option maxRecDepth 20000 in
theorem tw_112 : (Cond.selects RX3 yX3_path yX3_path) ∈ tg := tg_at 146 (by first | rfl | decide +kernel) (by first | rfl | decide +kernel)
set_option maxRecDepth 20000 in
theorem tw_113 : (Cond.code yX3_path cX3_path (4 : Nat) (Option.some FieldType.int)) ∈ tg := tg_at 147 (by first | rfl | decide +kernel) (by first | rfl | decide +kernel)
set_option maxRecDepth 20000 in
theorem tw_114 : (Cond.methodLink RX3 (58 : Nat) yX3_keepPath) ∈ tg := tg_at 148 (by first | rfl | decide +kernel) (by first | rfl | decide +kernel)
set_option maxRecDepth 20000 in
theorem tw_116 : (Cond.instanceMethod yX3_keepPath) ∈ tg := tg_at 150 (by first | rfl | decide +kernel) (by first | rfl | decide +kernel)
set_option maxRecDepth 20000 in
theorem tw_117 : (Cond.code yX3_keepPath cX3_keepPath (5 : Nat) (Option.some FieldType.int)) ∈ tg := tg_at 151 (by first | rfl | decide +kernel) (by first | rfl | decide +kernel)
set_option maxRecDepth 20000 in
theorem tw_118 : (Cond.instantiable RX0 (10 : Nat)) ∈ tg := tg_at 152 (by first | rfl | decide +kernel) (by first | rfl | decide +kernel)
set_option maxRecDepth 20000 in
theorem tw_119 : (Cond.methodLink RX3 (119 : Nat) yX0_init) ∈ tg := tg_at 153 (by first | rfl | decide +kernel) (by first | rfl | decide +kernel)
set_option maxRecDepth 20000 in
theorem tw_120 : (Cond.instanceMethod yX0_init) ∈ tg := tg_at 154 (by first | rfl | decide +kernel) (by first | rfl | decide +kernel)
set_option maxRecDepth 20000 in
theorem tw_121 : (Cond.code yX0_init cX0_init (8 : Nat) (Option.none : Option FieldType)) ∈ tg := tg_at 155 (by first | rfl | decide +kernel) (by first | rfl | decide +kernel)
set_option maxRecDepth 20000 in
theorem tw_122 : (Cond.methodLink RX0 (3 : Nat) objectInit) ∈ tg := tg_at 156 (by first | rfl | decide +kernel) (by first | rfl | decide +kernel)
set_option maxRecDepth 20000 in
theorem tw_123 : (Cond.fieldLink RX0 (9 : Nat) "PathSteps$Path" "number" "I") ∈ tg := tg_at 157 (by first | rfl | decide +kernel) (by first | rfl | decide +kernel)
set_option maxRecDepth 20000 in
theorem tw_124 : (Cond.fieldLink RX3 (128 : Nat) "PathSteps$Path" "number" "I") ∈ tg := tg_at 158 (by first | rfl | decide +kernel) (by first | rfl | decide +kernel)
set_option maxRecDepth 20000 in
theorem tw_125 : (Cond.fieldLink RX0 (15 : Nat) "PathSteps$Path" "kind" "I") ∈ tg := tg_at 159 (by first | rfl | decide +kernel) (by first | rfl | decide +kernel)
set_option maxRecDepth 20000 in
theorem tw_126 : (Cond.fieldLink RX0 (18 : Nat) "PathSteps$Path" "links" "I") ∈ tg := tg_at 160 (by first | rfl | decide +kernel) (by first | rfl | decide +kernel)
set_option maxRecDepth 20000 in
theorem tw_127 : (Cond.fieldLink RX0 (21 : Nat) "PathSteps$Path" "inner" "LPathSteps$Path;") ∈ tg := tg_at 161 (by first | rfl | decide +kernel) (by first | rfl | decide +kernel)
set_option maxRecDepth 20000 in
theorem tw_128 : (Cond.fieldLink RX0 (25 : Nat) "PathSteps$Path" "other" "LPathSteps$Path;") ∈ tg := tg_at 162 (by first | rfl | decide +kernel) (by first | rfl | decide +kernel)
set_option maxRecDepth 20000 in
theorem tw_129 : (Cond.fieldLink RX0 (28 : Nat) "PathSteps$Path" "parts" "J") ∈ tg := tg_at 163 (by first | rfl | decide +kernel) (by first | rfl | decide +kernel)
set_option maxRecDepth 20000 in
theorem tw_130 : (Cond.fieldLink RX0 (32 : Nat) "PathSteps$Path" "times" "[I") ∈ tg := tg_at 164 (by first | rfl | decide +kernel) (by first | rfl | decide +kernel)
set_option maxRecDepth 20000 in
theorem tw_131 : (Cond.fieldLink RX0 (36 : Nat) "PathSteps$Path" "joined" "[I") ∈ tg := tg_at 165 (by first | rfl | decide +kernel) (by first | rfl | decide +kernel)
set_option maxRecDepth 20000 in
theorem tw_132 : (Cond.fieldLink RX3 (155 : Nat) "PathSteps$Path" "joined" "[I") ∈ tg := tg_at 166 (by first | rfl | decide +kernel) (by first | rfl | decide +kernel)
set_option maxRecDepth 20000 in
theorem tw_133 : (Cond.fieldLink RX0 (39 : Nat) "PathSteps$Path" "countedSize" "I") ∈ tg := tg_at 167 (by first | rfl | decide +kernel) (by first | rfl | decide +kernel)
set_option maxRecDepth 20000 in
theorem tw_134 : (Cond.fieldLink RX0 (42 : Nat) "PathSteps$Path" "countedGraph" "I") ∈ tg := tg_at 168 (by first | rfl | decide +kernel) (by first | rfl | decide +kernel)
set_option maxRecDepth 20000 in
theorem tw_135 : (Cond.laysFinal RX0 "PathSteps$Path" "number" "I") ∈ tg := tg_at 169 (by first | rfl | decide +kernel) (by first | rfl | decide +kernel)
set_option maxRecDepth 20000 in
theorem tw_137 : (Cond.laysFinal RX0 "PathSteps$Path" "kind" "I") ∈ tg := tg_at 171 (by first | rfl | decide +kernel) (by first | rfl | decide +kernel)
set_option maxRecDepth 20000 in
theorem tw_139 : (Cond.laysFinal RX0 "PathSteps$Path" "links" "I") ∈ tg := tg_at 173 (by first | rfl | decide +kernel) (by first | rfl | decide +kernel)
set_option maxRecDepth 20000 in
theorem tw_141 : (Cond.laysFinal RX0 "PathSteps$Path" "inner" "LPathSteps$Path;") ∈ tg := tg_at 175 (by first | rfl | decide +kernel) (by first | rfl | decide +kernel)
set_option maxRecDepth 20000 in
theorem tw_143 : (Cond.laysFinal RX0 "PathSteps$Path" "other" "LPathSteps$Path;") ∈ tg := tg_at 177 (by first | rfl | decide +kernel) (by first | rfl | decide +kernel)
set_option maxRecDepth 20000 in
theorem tw_145 : (Cond.laysFinal RX0 "PathSteps$Path" "parts" "J") ∈ tg := tg_at 179 (by first | rfl | decide +kernel) (by first | rfl | decide +kernel)
set_option maxRecDepth 20000 in
theorem tw_147 : (Cond.laysFinal RX0 "PathSteps$Path" "times" "[I") ∈ tg := tg_at 181 (by first | rfl | decide +kernel) (by first | rfl | decide +kernel)
set_option maxRecDepth 20000 in
theorem tw_149 : (Cond.laysFinal RX0 "PathSteps$Path" "joined" "[I") ∈ tg := tg_at 183 (by first | rfl | decide +kernel) (by first | rfl | decide +kernel)
set_option maxRecDepth 20000 in
theorem tw_151 : (Cond.lays RX0 "PathSteps$Path" "countedSize" "I") ∈ tg := tg_at 185 (by first | rfl | decide +kernel) (by first | rfl | decide +kernel)
set_option maxRecDepth 20000 in
theorem tw_153 : (Cond.lays RX0 "PathSteps$Path" "countedGraph" "I") ∈ tg := tg_at 187 (by first | rfl | decide +kernel) (by first | rfl | decide +kernel)
set_option maxRecDepth 20000 in
theorem tw_155 : (Cond.superclass "PathSteps$Path" "java/lang/Object") ∈ tg := tg_at 189 (by first | rfl | decide +kernel) (by first | rfl | decide +kernel)
set_option maxRecDepth 20000 in
theorem tw_156 : (Cond.methodLink RX3 (62 : Nat) yX3_known) ∈ tg := tg_at 190 (by first | rfl | decide +kernel) (by first | rfl | decide +kernel)
set_option maxRecDepth 20000 in
theorem tw_158 : (Cond.instanceMethod yX3_known) ∈ tg := tg_at 192 (by first | rfl | decide +kernel) (by first | rfl | decide +kernel)
set_option maxRecDepth 20000 in
theorem tw_159 : (Cond.code yX3_known cX3_known (2 : Nat) (Option.some (FieldType.object "PathSteps$Path"))) ∈ tg := tg_at 193 (by first | rfl | decide +kernel) (by first | rfl | decide +kernel)
set_option maxRecDepth 20000 in
theorem tw_160 : (Cond.methodLink RX3 (66 : Nat) yX3_keepOverTwo) ∈ tg := tg_at 194 (by first | rfl | decide +kernel) (by first | rfl | decide +kernel)
set_option maxRecDepth 20000 in
theorem tw_162 : (Cond.instanceMethod yX3_keepOverTwo) ∈ tg := tg_at 196 (by first | rfl | decide +kernel) (by first | rfl | decide +kernel)
set_option maxRecDepth 20000 in
theorem tw_163 : (Cond.code yX3_keepOverTwo cX3_keepOverTwo (4 : Nat) (Option.some FieldType.int)) ∈ tg := tg_at 197 (by first | rfl | decide +kernel) (by first | rfl | decide +kernel)
set_option maxRecDepth 20000 in
theorem tw_164 : (Cond.methodLink RX3 (70 : Nat) yX3_keepOverOne) ∈ tg := tg_at 198 (by first | rfl | decide +kernel) (by first | rfl | decide +kernel)
set_option maxRecDepth 20000 in
theorem tw_166 : (Cond.instanceMethod yX3_keepOverOne) ∈ tg := tg_at 200 (by first | rfl | decide +kernel) (by first | rfl | decide +kernel)
set_option maxRecDepth 20000 in
theorem tw_167 : (Cond.code yX3_keepOverOne cX3_keepOverOne (3 : Nat) (Option.some FieldType.int)) ∈ tg := tg_at 201 (by first | rfl | decide +kernel) (by first | rfl | decide +kernel)
set_option maxRecDepth 20000 in
theorem tw_168 : (Cond.methodLink RL (28 : Nat) yX3_from) ∈ tg := tg_at 202 (by first | rfl | decide +kernel) (by first | rfl | decide +kernel)
set_option maxRecDepth 20000 in
theorem tw_169 : (Cond.instanceMethod yX3_from) ∈ tg := tg_at 203 (by first | rfl | decide +kernel) (by first | rfl | decide +kernel)
set_option maxRecDepth 20000 in
theorem tw_170 : (Cond.selects RX3 yX3_from yX3_from) ∈ tg := tg_at 204 (by first | rfl | decide +kernel) (by first | rfl | decide +kernel)
set_option maxRecDepth 20000 in
theorem tw_171 : (Cond.code yX3_from cX3_from (2 : Nat) (Option.some FieldType.int)) ∈ tg := tg_at 205 (by first | rfl | decide +kernel) (by first | rfl | decide +kernel)
set_option maxRecDepth 20000 in
theorem tw_172 : (Cond.methodLink RX3 (74 : Nat) yX2_countFrom) ∈ tg := tg_at 206 (by first | rfl | decide +kernel) (by first | rfl | decide +kernel)
set_option maxRecDepth 20000 in
theorem tw_173 : (Cond.instanceMethod yX2_countFrom) ∈ tg := tg_at 207 (by first | rfl | decide +kernel) (by first | rfl | decide +kernel)
set_option maxRecDepth 20000 in
theorem tw_174 : (Cond.selects RX2 yX2_countFrom yX2_countFrom) ∈ tg := tg_at 208 (by first | rfl | decide +kernel) (by first | rfl | decide +kernel)
set_option maxRecDepth 20000 in
theorem tw_175 : (Cond.code yX2_countFrom cX2_countFrom (4 : Nat) (Option.some FieldType.int)) ∈ tg := tg_at 209 (by first | rfl | decide +kernel) (by first | rfl | decide +kernel)
set_option maxRecDepth 20000 in
theorem tw_176 : (Cond.methodLink RX2 (26 : Nat) yJ6_bitCount_0f7a4) ∈ tg := tg_at 210 (by first | rfl | decide +kernel) (by first | rfl | decide +kernel)
set_option maxRecDepth 20000 in
theorem tw_177 : (Cond.static yJ6_bitCount_0f7a4) ∈ tg := tg_at 211 (by first | rfl | decide +kernel) (by first | rfl | decide +kernel)
set_option maxRecDepth 20000 in
theorem tw_178 : (Cond.code yJ6_bitCount_0f7a4 cJ6_bitCount_0f7a4 (1 : Nat) (Option.some FieldType.int)) ∈ tg := tg_at 212 (by first | rfl | decide +kernel) (by first | rfl | decide +kernel)
set_option maxRecDepth 20000 in
theorem tw_179 : (Cond.constant RJ6 (265 : Nat) (1431655765 : Int32)) ∈ tg := tg_at 213 (by first | rfl | decide +kernel) (by first | rfl | decide +kernel)
set_option maxRecDepth 20000 in
theorem tw_180 : (Cond.constant RJ6 (266 : Nat) (858993459 : Int32)) ∈ tg := tg_at 214 (by first | rfl | decide +kernel) (by first | rfl | decide +kernel)
set_option maxRecDepth 20000 in
theorem tw_181 : (Cond.constant RJ6 (267 : Nat) (252645135 : Int32)) ∈ tg := tg_at 215 (by first | rfl | decide +kernel) (by first | rfl | decide +kernel)
set_option maxRecDepth 20000 in
theorem tw_182 : (Cond.methodLink RL (32 : Nat) yX3_run) ∈ tg := tg_at 216 (by first | rfl | decide +kernel) (by first | rfl | decide +kernel)
set_option maxRecDepth 20000 in
theorem tw_183 : (Cond.instanceMethod yX3_run) ∈ tg := tg_at 217 (by first | rfl | decide +kernel) (by first | rfl | decide +kernel)
set_option maxRecDepth 20000 in
theorem tw_184 : (Cond.selects RX3 yX3_run yX3_run) ∈ tg := tg_at 218 (by first | rfl | decide +kernel) (by first | rfl | decide +kernel)
set_option maxRecDepth 20000 in
theorem tw_185 : (Cond.code yX3_run cX3_run (6 : Nat) (Option.some FieldType.int)) ∈ tg := tg_at 219 (by first | rfl | decide +kernel) (by first | rfl | decide +kernel)
set_option maxRecDepth 20000 in
theorem tw_186 : (Cond.methodLink RX3 (78 : Nat) yX3_isEnd) ∈ tg := tg_at 220 (by first | rfl | decide +kernel) (by first | rfl | decide +kernel)
set_option maxRecDepth 20000 in
theorem tw_187 : (Cond.static yX3_isEnd) ∈ tg := tg_at 221 (by first | rfl | decide +kernel) (by first | rfl | decide +kernel)
set_option maxRecDepth 20000 in
theorem tw_188 : (Cond.code yX3_isEnd cX3_isEnd (1 : Nat) (Option.some FieldType.boolean)) ∈ tg := tg_at 222 (by first | rfl | decide +kernel) (by first | rfl | decide +kernel)
set_option maxRecDepth 20000 in
theorem tw_189 : (Cond.methodLink RX3 (81 : Nat) yX3_countParts) ∈ tg := tg_at 223 (by first | rfl | decide +kernel) (by first | rfl | decide +kernel)
set_option maxRecDepth 20000 in
theorem tw_191 : (Cond.instanceMethod yX3_countParts) ∈ tg := tg_at 225 (by first | rfl | decide +kernel) (by first | rfl | decide +kernel)
set_option maxRecDepth 20000 in
theorem tw_192 : (Cond.code yX3_countParts cX3_countParts (7 : Nat) (Option.none : Option FieldType)) ∈ tg := tg_at 226 (by first | rfl | decide +kernel) (by first | rfl | decide +kernel)
set_option maxRecDepth 20000 in
theorem tw_193 : (Cond.methodLink RX3 (125 : Nat) yX3_bitOf) ∈ tg := tg_at 227 (by first | rfl | decide +kernel) (by first | rfl | decide +kernel)
set_option maxRecDepth 20000 in
theorem tw_194 : (Cond.static yX3_bitOf) ∈ tg := tg_at 228 (by first | rfl | decide +kernel) (by first | rfl | decide +kernel)
set_option maxRecDepth 20000 in
theorem tw_195 : (Cond.code yX3_bitOf cX3_bitOf (1 : Nat) (Option.some FieldType.int)) ∈ tg := tg_at 229 (by first | rfl | decide +kernel) (by first | rfl | decide +kernel)
set_option maxRecDepth 20000 in
theorem tw_196 : (Cond.methodLink RX3 (131 : Nat) yX0_isMadeOf) ∈ tg := tg_at 230 (by first | rfl | decide +kernel) (by first | rfl | decide +kernel)
set_option maxRecDepth 20000 in
theorem tw_197 : (Cond.instanceMethod yX0_isMadeOf) ∈ tg := tg_at 231 (by first | rfl | decide +kernel) (by first | rfl | decide +kernel)
set_option maxRecDepth 20000 in
theorem tw_198 : (Cond.selects RX0 yX0_isMadeOf yX0_isMadeOf) ∈ tg := tg_at 232 (by first | rfl | decide +kernel) (by first | rfl | decide +kernel)
set_option maxRecDepth 20000 in
theorem tw_199 : (Cond.code yX0_isMadeOf cX0_isMadeOf (2 : Nat) (Option.some FieldType.boolean)) ∈ tg := tg_at 233 (by first | rfl | decide +kernel) (by first | rfl | decide +kernel)
set_option maxRecDepth 20000 in
theorem tw_200 : (Cond.methodLink RX3 (134 : Nat) yX0_countIn) ∈ tg := tg_at 234 (by first | rfl | decide +kernel) (by first | rfl | decide +kernel)
set_option maxRecDepth 20000 in
theorem tw_201 : (Cond.instanceMethod yX0_countIn) ∈ tg := tg_at 235 (by first | rfl | decide +kernel) (by first | rfl | decide +kernel)
set_option maxRecDepth 20000 in
theorem tw_202 : (Cond.selects RX0 yX0_countIn yX0_countIn) ∈ tg := tg_at 236 (by first | rfl | decide +kernel) (by first | rfl | decide +kernel)
set_option maxRecDepth 20000 in
theorem tw_203 : (Cond.code yX0_countIn cX0_countIn (3 : Nat) (Option.none : Option FieldType)) ∈ tg := tg_at 237 (by first | rfl | decide +kernel) (by first | rfl | decide +kernel)
set_option maxRecDepth 20000 in
theorem tw_204 : (Cond.methodLink RX0 (66 : Nat) yX0_forget) ∈ tg := tg_at 238 (by first | rfl | decide +kernel) (by first | rfl | decide +kernel)
set_option maxRecDepth 20000 in
theorem tw_206 : (Cond.instanceMethod yX0_forget) ∈ tg := tg_at 240 (by first | rfl | decide +kernel) (by first | rfl | decide +kernel)
set_option maxRecDepth 20000 in
theorem tw_207 : (Cond.code yX0_forget cX0_forget (2 : Nat) (Option.none : Option FieldType)) ∈ tg := tg_at 241 (by first | rfl | decide +kernel) (by first | rfl | decide +kernel)
set_option maxRecDepth 20000 in
theorem tw_208 : (Cond.methodLink RX0 (69 : Nat) yX0_countLinks) ∈ tg := tg_at 242 (by first | rfl | decide +kernel) (by first | rfl | decide +kernel)
set_option maxRecDepth 20000 in
theorem tw_210 : (Cond.instanceMethod yX0_countLinks) ∈ tg := tg_at 244 (by first | rfl | decide +kernel) (by first | rfl | decide +kernel)
set_option maxRecDepth 20000 in
theorem tw_211 : (Cond.code yX0_countLinks cX0_countLinks (4 : Nat) (Option.none : Option FieldType)) ∈ tg := tg_at 245 (by first | rfl | decide +kernel) (by first | rfl | decide +kernel)
set_option maxRecDepth 20000 in
theorem tw_212 : (Cond.methodLink RX0 (45 : Nat) yJ6_bitCount_0f7a4) ∈ tg := tg_at 246 (by first | rfl | decide +kernel) (by first | rfl | decide +kernel)
set_option maxRecDepth 20000 in
theorem tw_213 : (Cond.methodLink RX0 (91 : Nat) yX0_addTimes) ∈ tg := tg_at 247 (by first | rfl | decide +kernel) (by first | rfl | decide +kernel)
set_option maxRecDepth 20000 in
theorem tw_215 : (Cond.instanceMethod yX0_addTimes) ∈ tg := tg_at 249 (by first | rfl | decide +kernel) (by first | rfl | decide +kernel)
set_option maxRecDepth 20000 in
theorem tw_216 : (Cond.code yX0_addTimes cX0_addTimes (6 : Nat) (Option.none : Option FieldType)) ∈ tg := tg_at 250 (by first | rfl | decide +kernel) (by first | rfl | decide +kernel)
set_option maxRecDepth 20000 in
theorem tw_217 : (Cond.constantLong RX0 (81 : Nat) (1000000 : Int64)) ∈ tg := tg_at 251 (by first | rfl | decide +kernel) (by first | rfl | decide +kernel)
set_option maxRecDepth 20000 in
theorem tw_218 : (Cond.methodLink RX0 (83 : Nat) yJ9_min_f86c9) ∈ tg := tg_at 252 (by first | rfl | decide +kernel) (by first | rfl | decide +kernel)
set_option maxRecDepth 20000 in
theorem tw_219 : (Cond.static yJ9_min_f86c9) ∈ tg := tg_at 253 (by first | rfl | decide +kernel) (by first | rfl | decide +kernel)
set_option maxRecDepth 20000 in
theorem tw_220 : (Cond.code yJ9_min_f86c9 cJ9_min_f86c9 (4 : Nat) (Option.some FieldType.long)) ∈ tg := tg_at 254 (by first | rfl | decide +kernel) (by first | rfl | decide +kernel)
set_option maxRecDepth 20000 in
theorem tw_221 : (Cond.methodLink RX0 (73 : Nat) yX0_countOverOne) ∈ tg := tg_at 255 (by first | rfl | decide +kernel) (by first | rfl | decide +kernel)
set_option maxRecDepth 20000 in
theorem tw_223 : (Cond.instanceMethod yX0_countOverOne) ∈ tg := tg_at 257 (by first | rfl | decide +kernel) (by first | rfl | decide +kernel)
set_option maxRecDepth 20000 in
theorem tw_224 : (Cond.code yX0_countOverOne cX0_countOverOne (3 : Nat) (Option.none : Option FieldType)) ∈ tg := tg_at 258 (by first | rfl | decide +kernel) (by first | rfl | decide +kernel)
set_option maxRecDepth 20000 in
theorem tw_225 : (Cond.methodLink RX0 (95 : Nat) yX0_countTurned) ∈ tg := tg_at 259 (by first | rfl | decide +kernel) (by first | rfl | decide +kernel)
set_option maxRecDepth 20000 in
theorem tw_227 : (Cond.instanceMethod yX0_countTurned) ∈ tg := tg_at 261 (by first | rfl | decide +kernel) (by first | rfl | decide +kernel)
set_option maxRecDepth 20000 in
theorem tw_228 : (Cond.code yX0_countTurned cX0_countTurned (4 : Nat) (Option.none : Option FieldType)) ∈ tg := tg_at 262 (by first | rfl | decide +kernel) (by first | rfl | decide +kernel)
set_option maxRecDepth 20000 in
theorem tw_229 : (Cond.methodLink RX0 (57 : Nat) yX0_timesOf) ∈ tg := tg_at 263 (by first | rfl | decide +kernel) (by first | rfl | decide +kernel)
set_option maxRecDepth 20000 in
theorem tw_230 : (Cond.instanceMethod yX0_timesOf) ∈ tg := tg_at 264 (by first | rfl | decide +kernel) (by first | rfl | decide +kernel)
set_option maxRecDepth 20000 in
theorem tw_231 : (Cond.selects RX0 yX0_timesOf yX0_timesOf) ∈ tg := tg_at 265 (by first | rfl | decide +kernel) (by first | rfl | decide +kernel)
set_option maxRecDepth 20000 in
theorem tw_232 : (Cond.code yX0_timesOf cX0_timesOf (3 : Nat) (Option.some FieldType.int)) ∈ tg := tg_at 266 (by first | rfl | decide +kernel) (by first | rfl | decide +kernel)
set_option maxRecDepth 20000 in
theorem tw_233 : (Cond.methodLink RX0 (99 : Nat) yX0_joinByStep) ∈ tg := tg_at 267 (by first | rfl | decide +kernel) (by first | rfl | decide +kernel)
set_option maxRecDepth 20000 in
theorem tw_235 : (Cond.instanceMethod yX0_joinByStep) ∈ tg := tg_at 269 (by first | rfl | decide +kernel) (by first | rfl | decide +kernel)
set_option maxRecDepth 20000 in
theorem tw_236 : (Cond.code yX0_joinByStep cX0_joinByStep (4 : Nat) (Option.none : Option FieldType)) ∈ tg := tg_at 270 (by first | rfl | decide +kernel) (by first | rfl | decide +kernel)
set_option maxRecDepth 20000 in
theorem tw_237 : (Cond.methodLink RX0 (115 : Nat) yX0_walks) ∈ tg := tg_at 271 (by first | rfl | decide +kernel) (by first | rfl | decide +kernel)
set_option maxRecDepth 20000 in
theorem tw_238 : (Cond.instanceMethod yX0_walks) ∈ tg := tg_at 272 (by first | rfl | decide +kernel) (by first | rfl | decide +kernel)
set_option maxRecDepth 20000 in
theorem tw_239 : (Cond.selects RX0 yX0_walks yX0_walks) ∈ tg := tg_at 273 (by first | rfl | decide +kernel) (by first | rfl | decide +kernel)
set_option maxRecDepth 20000 in
theorem tw_240 : (Cond.code yX0_walks cX0_walks (1 : Nat) (Option.some FieldType.boolean)) ∈ tg := tg_at 274 (by first | rfl | decide +kernel) (by first | rfl | decide +kernel)
set_option maxRecDepth 20000 in
theorem tw_241 : (Cond.methodLink RX0 (119 : Nat) yX0_joinOnwards) ∈ tg := tg_at 275 (by first | rfl | decide +kernel) (by first | rfl | decide +kernel)
set_option maxRecDepth 20000 in
theorem tw_243 : (Cond.instanceMethod yX0_joinOnwards) ∈ tg := tg_at 277 (by first | rfl | decide +kernel) (by first | rfl | decide +kernel)
set_option maxRecDepth 20000 in
theorem tw_244 : (Cond.code yX0_joinOnwards cX0_joinOnwards (3 : Nat) (Option.none : Option FieldType)) ∈ tg := tg_at 278 (by first | rfl | decide +kernel) (by first | rfl | decide +kernel)
set_option maxRecDepth 20000 in
theorem tn_245 : (Cond.methodLinkNest RX0 (126 : Nat) yX3_holds "PathSteps") ∈ lw_tbl := List.mem_of_getElem? (i := 279) (by first | rfl | decide +kernel)
set_option maxRecDepth 20000 in
theorem tw_246 : (Cond.methodLink RX0 (122 : Nat) yX0_joinSelves) ∈ tg := tg_at 280 (by first | rfl | decide +kernel) (by first | rfl | decide +kernel)
set_option maxRecDepth 20000 in
theorem tw_248 : (Cond.instanceMethod yX0_joinSelves) ∈ tg := tg_at 282 (by first | rfl | decide +kernel) (by first | rfl | decide +kernel)
set_option maxRecDepth 20000 in
theorem tw_249 : (Cond.code yX0_joinSelves cX0_joinSelves (3 : Nat) (Option.none : Option FieldType)) ∈ tg := tg_at 283 (by first | rfl | decide +kernel) (by first | rfl | decide +kernel)
set_option maxRecDepth 20000 in
theorem tw_250 : (Cond.methodLink RX0 (102 : Nat) yX0_countJoinedOnce) ∈ tg := tg_at 284 (by first | rfl | decide +kernel) (by first | rfl | decide +kernel)
set_option maxRecDepth 20000 in
theorem tw_252 : (Cond.instanceMethod yX0_countJoinedOnce) ∈ tg := tg_at 286 (by first | rfl | decide +kernel) (by first | rfl | decide +kernel)
set_option maxRecDepth 20000 in
theorem tw_253 : (Cond.code yX0_countJoinedOnce cX0_countJoinedOnce (3 : Nat) (Option.none : Option FieldType)) ∈ tg := tg_at 287 (by first | rfl | decide +kernel) (by first | rfl | decide +kernel)
set_option maxRecDepth 20000 in
theorem tw_254 : (Cond.methodLink RX0 (77 : Nat) yX0_countOverTwo) ∈ tg := tg_at 288 (by first | rfl | decide +kernel) (by first | rfl | decide +kernel)
set_option maxRecDepth 20000 in
theorem tw_256 : (Cond.instanceMethod yX0_countOverTwo) ∈ tg := tg_at 290 (by first | rfl | decide +kernel) (by first | rfl | decide +kernel)
set_option maxRecDepth 20000 in
theorem tw_257 : (Cond.code yX0_countOverTwo cX0_countOverTwo (3 : Nat) (Option.none : Option FieldType)) ∈ tg := tg_at 291 (by first | rfl | decide +kernel) (by first | rfl | decide +kernel)
set_option maxRecDepth 20000 in
theorem tw_258 : (Cond.methodLink RX0 (105 : Nat) yX0_countAll) ∈ tg := tg_at 292 (by first | rfl | decide +kernel) (by first | rfl | decide +kernel)
set_option maxRecDepth 20000 in
theorem tw_260 : (Cond.instanceMethod yX0_countAll) ∈ tg := tg_at 294 (by first | rfl | decide +kernel) (by first | rfl | decide +kernel)
set_option maxRecDepth 20000 in
theorem tw_261 : (Cond.code yX0_countAll cX0_countAll (4 : Nat) (Option.none : Option FieldType)) ∈ tg := tg_at 295 (by first | rfl | decide +kernel) (by first | rfl | decide +kernel)
set_option maxRecDepth 20000 in
theorem tw_262 : (Cond.methodLink RX0 (108 : Nat) yX0_countBehind) ∈ tg := tg_at 296 (by first | rfl | decide +kernel) (by first | rfl | decide +kernel)
set_option maxRecDepth 20000 in
theorem tw_264 : (Cond.instanceMethod yX0_countBehind) ∈ tg := tg_at 298 (by first | rfl | decide +kernel) (by first | rfl | decide +kernel)
set_option maxRecDepth 20000 in
theorem tw_265 : (Cond.code yX0_countBehind cX0_countBehind (7 : Nat) (Option.none : Option FieldType)) ∈ tg := tg_at 299 (by first | rfl | decide +kernel) (by first | rfl | decide +kernel)
set_option maxRecDepth 20000 in
theorem tw_266 : (Cond.methodLink RX0 (111 : Nat) yX0_addBehind) ∈ tg := tg_at 300 (by first | rfl | decide +kernel) (by first | rfl | decide +kernel)
set_option maxRecDepth 20000 in
theorem tw_268 : (Cond.instanceMethod yX0_addBehind) ∈ tg := tg_at 302 (by first | rfl | decide +kernel) (by first | rfl | decide +kernel)
set_option maxRecDepth 20000 in
theorem tw_269 : (Cond.code yX0_addBehind cX0_addBehind (7 : Nat) (Option.none : Option FieldType)) ∈ tg := tg_at 303 (by first | rfl | decide +kernel) (by first | rfl | decide +kernel)
set_option maxRecDepth 20000 in
theorem tw_270 : (Cond.methodLink RX3 (85 : Nat) yX3_goesBeyond) ∈ tg := tg_at 304 (by first | rfl | decide +kernel) (by first | rfl | decide +kernel)
set_option maxRecDepth 20000 in
theorem tw_272 : (Cond.instanceMethod yX3_goesBeyond) ∈ tg := tg_at 306 (by first | rfl | decide +kernel) (by first | rfl | decide +kernel)
set_option maxRecDepth 20000 in
theorem tw_273 : (Cond.code yX3_goesBeyond cX3_goesBeyond (4 : Nat) (Option.some FieldType.boolean)) ∈ tg := tg_at 307 (by first | rfl | decide +kernel) (by first | rfl | decide +kernel)
set_option maxRecDepth 20000 in
theorem tw_274 : (Cond.methodLink RX3 (138 : Nat) yX0_walks) ∈ tg := tg_at 308 (by first | rfl | decide +kernel) (by first | rfl | decide +kernel)
set_option maxRecDepth 20000 in
theorem tw_275 : (Cond.methodLink RX3 (142 : Nat) yX0_pairs) ∈ tg := tg_at 309 (by first | rfl | decide +kernel) (by first | rfl | decide +kernel)
set_option maxRecDepth 20000 in
theorem tw_276 : (Cond.instanceMethod yX0_pairs) ∈ tg := tg_at 310 (by first | rfl | decide +kernel) (by first | rfl | decide +kernel)
set_option maxRecDepth 20000 in
theorem tw_277 : (Cond.selects RX0 yX0_pairs yX0_pairs) ∈ tg := tg_at 311 (by first | rfl | decide +kernel) (by first | rfl | decide +kernel)
set_option maxRecDepth 20000 in
theorem tw_278 : (Cond.code yX0_pairs cX0_pairs (3 : Nat) (Option.some FieldType.int)) ∈ tg := tg_at 312 (by first | rfl | decide +kernel) (by first | rfl | decide +kernel)
set_option maxRecDepth 20000 in
theorem tw_279 : (Cond.methodLink RX3 (89 : Nat) yX0_countBetween) ∈ tg := tg_at 313 (by first | rfl | decide +kernel) (by first | rfl | decide +kernel)
set_option maxRecDepth 20000 in
theorem tw_280 : (Cond.instanceMethod yX0_countBetween) ∈ tg := tg_at 314 (by first | rfl | decide +kernel) (by first | rfl | decide +kernel)
set_option maxRecDepth 20000 in
theorem tw_281 : (Cond.selects RX0 yX0_countBetween yX0_countBetween) ∈ tg := tg_at 315 (by first | rfl | decide +kernel) (by first | rfl | decide +kernel)
set_option maxRecDepth 20000 in
theorem tw_282 : (Cond.code yX0_countBetween cX0_countBetween (6 : Nat) (Option.some FieldType.int)) ∈ tg := tg_at 316 (by first | rfl | decide +kernel) (by first | rfl | decide +kernel)
set_option maxRecDepth 20000 in
theorem tn_283 : (Cond.methodLinkNest RX0 (51 : Nat) yX3_lowest "PathSteps") ∈ lw_tbl := List.mem_of_getElem? (i := 317) (by first | rfl | decide +kernel)
set_option maxRecDepth 20000 in
theorem tw_284 : (Cond.static yX3_lowest) ∈ tg := tg_at 318 (by first | rfl | decide +kernel) (by first | rfl | decide +kernel)
set_option maxRecDepth 20000 in
theorem tw_285 : (Cond.code yX3_lowest cX3_lowest (1 : Nat) (Option.some FieldType.int)) ∈ tg := tg_at 319 (by first | rfl | decide +kernel) (by first | rfl | decide +kernel)
set_option maxRecDepth 20000 in
theorem tn_286 : (Cond.methodLinkNest RX0 (54 : Nat) yX3_highest "PathSteps") ∈ lw_tbl := List.mem_of_getElem? (i := 320) (by first | rfl | decide +kernel)
set_option maxRecDepth 20000 in
theorem tw_287 : (Cond.static yX3_highest) ∈ tg := tg_at 321 (by first | rfl | decide +kernel) (by first | rfl | decide +kernel)
set_option maxRecDepth 20000 in
theorem tw_288 : (Cond.code yX3_highest cX3_highest (1 : Nat) (Option.some FieldType.int)) ∈ tg := tg_at 322 (by first | rfl | decide +kernel) (by first | rfl | decide +kernel)
set_option maxRecDepth 20000 in
theorem tw_289 : (Cond.methodLink RX3 (93 : Nat) yX3_keepRows) ∈ tg := tg_at 323 (by first | rfl | decide +kernel) (by first | rfl | decide +kernel)
set_option maxRecDepth 20000 in
theorem tw_291 : (Cond.instanceMethod yX3_keepRows) ∈ tg := tg_at 325 (by first | rfl | decide +kernel) (by first | rfl | decide +kernel)
set_option maxRecDepth 20000 in
theorem tw_292 : (Cond.code yX3_keepRows cX3_keepRows (6 : Nat) (Option.none : Option FieldType)) ∈ tg := tg_at 326 (by first | rfl | decide +kernel) (by first | rfl | decide +kernel)
set_option maxRecDepth 20000 in
theorem tw_293 : (Cond.methodLink RX3 (146 : Nat) yX1_begin) ∈ tg := tg_at 327 (by first | rfl | decide +kernel) (by first | rfl | decide +kernel)
set_option maxRecDepth 20000 in
theorem tw_294 : (Cond.instanceMethod yX1_begin) ∈ tg := tg_at 328 (by first | rfl | decide +kernel) (by first | rfl | decide +kernel)
set_option maxRecDepth 20000 in
theorem tw_295 : (Cond.selects RX1 yX1_begin yX1_begin) ∈ tg := tg_at 329 (by first | rfl | decide +kernel) (by first | rfl | decide +kernel)
set_option maxRecDepth 20000 in
theorem tw_296 : (Cond.code yX1_begin cX1_begin (1 : Nat) (Option.none : Option FieldType)) ∈ tg := tg_at 330 (by first | rfl | decide +kernel) (by first | rfl | decide +kernel)
set_option maxRecDepth 20000 in
theorem tw_297 : (Cond.methodLink RX3 (149 : Nat) yX3_lowest) ∈ tg := tg_at 331 (by first | rfl | decide +kernel) (by first | rfl | decide +kernel)
set_option maxRecDepth 20000 in
theorem tw_298 : (Cond.methodLink RX3 (152 : Nat) yX3_highest) ∈ tg := tg_at 332 (by first | rfl | decide +kernel) (by first | rfl | decide +kernel)
set_option maxRecDepth 20000 in
theorem tw_299 : (Cond.methodLink RX3 (158 : Nat) yX0_measure) ∈ tg := tg_at 333 (by first | rfl | decide +kernel) (by first | rfl | decide +kernel)
set_option maxRecDepth 20000 in
theorem tw_300 : (Cond.instanceMethod yX0_measure) ∈ tg := tg_at 334 (by first | rfl | decide +kernel) (by first | rfl | decide +kernel)
set_option maxRecDepth 20000 in
theorem tw_301 : (Cond.selects RX0 yX0_measure yX0_measure) ∈ tg := tg_at 335 (by first | rfl | decide +kernel) (by first | rfl | decide +kernel)
set_option maxRecDepth 20000 in
theorem tw_302 : (Cond.code yX0_measure cX0_measure (4 : Nat) (Option.none : Option FieldType)) ∈ tg := tg_at 336 (by first | rfl | decide +kernel) (by first | rfl | decide +kernel)
set_option maxRecDepth 20000 in
theorem tw_303 : (Cond.methodLink RX0 (130 : Nat) yX0_measureWalk) ∈ tg := tg_at 337 (by first | rfl | decide +kernel) (by first | rfl | decide +kernel)
set_option maxRecDepth 20000 in
theorem tw_304 : (Cond.static yX0_measureWalk) ∈ tg := tg_at 338 (by first | rfl | decide +kernel) (by first | rfl | decide +kernel)
set_option maxRecDepth 20000 in
theorem tw_305 : (Cond.code yX0_measureWalk cX0_measureWalk (8 : Nat) (Option.none : Option FieldType)) ∈ tg := tg_at 339 (by first | rfl | decide +kernel) (by first | rfl | decide +kernel)
set_option maxRecDepth 20000 in
theorem tw_306 : (Cond.methodLink RX3 (162 : Nat) yX0_timesOf) ∈ tg := tg_at 340 (by first | rfl | decide +kernel) (by first | rfl | decide +kernel)
set_option maxRecDepth 20000 in
theorem tw_307 : (Cond.methodLink RX3 (165 : Nat) yX1_add) ∈ tg := tg_at 341 (by first | rfl | decide +kernel) (by first | rfl | decide +kernel)
set_option maxRecDepth 20000 in
theorem tw_308 : (Cond.instanceMethod yX1_add) ∈ tg := tg_at 342 (by first | rfl | decide +kernel) (by first | rfl | decide +kernel)
set_option maxRecDepth 20000 in
theorem tw_309 : (Cond.selects RX1 yX1_add yX1_add) ∈ tg := tg_at 343 (by first | rfl | decide +kernel) (by first | rfl | decide +kernel)
set_option maxRecDepth 20000 in
theorem tw_310 : (Cond.code yX1_add cX1_add (6 : Nat) (Option.none : Option FieldType)) ∈ tg := tg_at 344 (by first | rfl | decide +kernel) (by first | rfl | decide +kernel)
set_option maxRecDepth 20000 in
theorem tw_311 : (Cond.methodLink RL (36 : Nat) yX3_at) ∈ tg := tg_at 345 (by first | rfl | decide +kernel) (by first | rfl | decide +kernel)
set_option maxRecDepth 20000 in
theorem tw_312 : (Cond.instanceMethod yX3_at) ∈ tg := tg_at 346 (by first | rfl | decide +kernel) (by first | rfl | decide +kernel)
set_option maxRecDepth 20000 in
theorem tw_313 : (Cond.selects RX3 yX3_at yX3_at) ∈ tg := tg_at 347 (by first | rfl | decide +kernel) (by first | rfl | decide +kernel)
set_option maxRecDepth 20000 in
theorem tw_314 : (Cond.code yX3_at cX3_at (3 : Nat) (Option.some FieldType.int)) ∈ tg := tg_at 348 (by first | rfl | decide +kernel) (by first | rfl | decide +kernel)
set_option maxRecDepth 20000 in
theorem tw_315 : (Cond.methodLink RX3 (100 : Nat) yX1_has) ∈ tg := tg_at 349 (by first | rfl | decide +kernel) (by first | rfl | decide +kernel)
set_option maxRecDepth 20000 in
theorem tw_316 : (Cond.instanceMethod yX1_has) ∈ tg := tg_at 350 (by first | rfl | decide +kernel) (by first | rfl | decide +kernel)
set_option maxRecDepth 20000 in
theorem tw_317 : (Cond.selects RX1 yX1_has yX1_has) ∈ tg := tg_at 351 (by first | rfl | decide +kernel) (by first | rfl | decide +kernel)
set_option maxRecDepth 20000 in
theorem tw_318 : (Cond.code yX1_has cX1_has (2 : Nat) (Option.some FieldType.boolean)) ∈ tg := tg_at 352 (by first | rfl | decide +kernel) (by first | rfl | decide +kernel)
set_option maxRecDepth 20000 in
theorem tw_319 : (Cond.methodLink RL (41 : Nat) yX3_plain) ∈ tg := tg_at 353 (by first | rfl | decide +kernel) (by first | rfl | decide +kernel)
set_option maxRecDepth 20000 in
theorem tw_320 : (Cond.instanceMethod yX3_plain) ∈ tg := tg_at 354 (by first | rfl | decide +kernel) (by first | rfl | decide +kernel)
set_option maxRecDepth 20000 in
theorem tw_321 : (Cond.selects RX3 yX3_plain yX3_plain) ∈ tg := tg_at 355 (by first | rfl | decide +kernel) (by first | rfl | decide +kernel)
set_option maxRecDepth 20000 in
theorem tw_322 : (Cond.code yX3_plain cX3_plain (5 : Nat) (Option.some FieldType.int)) ∈ tg := tg_at 356 (by first | rfl | decide +kernel) (by first | rfl | decide +kernel)
set_option maxRecDepth 20000 in
theorem tw_323 : (Cond.methodLink RL (45 : Nat) yX3_steps) ∈ tg := tg_at 357 (by first | rfl | decide +kernel) (by first | rfl | decide +kernel)
set_option maxRecDepth 20000 in
theorem tw_324 : (Cond.instanceMethod yX3_steps) ∈ tg := tg_at 358 (by first | rfl | decide +kernel) (by first | rfl | decide +kernel)
set_option maxRecDepth 20000 in
theorem tw_325 : (Cond.selects RX3 yX3_steps yX3_steps) ∈ tg := tg_at 359 (by first | rfl | decide +kernel) (by first | rfl | decide +kernel)
set_option maxRecDepth 20000 in
theorem tw_326 : (Cond.code yX3_steps cX3_steps (2 : Nat) (Option.some FieldType.int)) ∈ tg := tg_at 360 (by first | rfl | decide +kernel) (by first | rfl | decide +kernel)
set_option maxRecDepth 20000 in
theorem tw_327 : (Cond.methodLink RL (49 : Nat) yX3_cycle) ∈ tg := tg_at 361 (by first | rfl | decide +kernel) (by first | rfl | decide +kernel)
set_option maxRecDepth 20000 in
theorem tw_328 : (Cond.instanceMethod yX3_cycle) ∈ tg := tg_at 362 (by first | rfl | decide +kernel) (by first | rfl | decide +kernel)
set_option maxRecDepth 20000 in
theorem tw_329 : (Cond.selects RX3 yX3_cycle yX3_cycle) ∈ tg := tg_at 363 (by first | rfl | decide +kernel) (by first | rfl | decide +kernel)
set_option maxRecDepth 20000 in
theorem tw_330 : (Cond.code yX3_cycle cX3_cycle (2 : Nat) (Option.some FieldType.boolean)) ∈ tg := tg_at 364 (by first | rfl | decide +kernel) (by first | rfl | decide +kernel)
set_option maxRecDepth 20000 in
theorem tw_331 : (Cond.methodLink RL (64 : Nat) yX3_inverse) ∈ tg := tg_at 365 (by first | rfl | decide +kernel) (by first | rfl | decide +kernel)
set_option maxRecDepth 20000 in
theorem tw_332 : (Cond.instanceMethod yX3_inverse) ∈ tg := tg_at 366 (by first | rfl | decide +kernel) (by first | rfl | decide +kernel)
set_option maxRecDepth 20000 in
theorem tw_333 : (Cond.selects RX3 yX3_inverse yX3_inverse) ∈ tg := tg_at 367 (by first | rfl | decide +kernel) (by first | rfl | decide +kernel)
set_option maxRecDepth 20000 in
theorem tw_334 : (Cond.code yX3_inverse cX3_inverse (2 : Nat) (Option.some FieldType.int)) ∈ tg := tg_at 368 (by first | rfl | decide +kernel) (by first | rfl | decide +kernel)
set_option maxRecDepth 20000 in
theorem tw_335 : (Cond.methodLink RL (68 : Nat) yX3_negated) ∈ tg := tg_at 369 (by first | rfl | decide +kernel) (by first | rfl | decide +kernel)
set_option maxRecDepth 20000 in
theorem tw_336 : (Cond.instanceMethod yX3_negated) ∈ tg := tg_at 370 (by first | rfl | decide +kernel) (by first | rfl | decide +kernel)
set_option maxRecDepth 20000 in
theorem tw_337 : (Cond.selects RX3 yX3_negated yX3_negated) ∈ tg := tg_at 371 (by first | rfl | decide +kernel) (by first | rfl | decide +kernel)
set_option maxRecDepth 20000 in
theorem tw_338 : (Cond.code yX3_negated cX3_negated (4 : Nat) (Option.some FieldType.int)) ∈ tg := tg_at 372 (by first | rfl | decide +kernel) (by first | rfl | decide +kernel)
set_option maxRecDepth 20000 in
theorem tw_339 : (Cond.constant RX3 (118 : Nat) (65535 : Int32)) ∈ tg := tg_at 373 (by first | rfl | decide +kernel) (by first | rfl | decide +kernel)
set_option maxRecDepth 20000 in
theorem tw_340 : (Cond.methodLink RL (54 : Nat) yL_depth) ∈ tg := tg_at 374 (by first | rfl | decide +kernel) (by first | rfl | decide +kernel)
set_option maxRecDepth 20000 in
theorem tw_341 : (Cond.static yL_depth) ∈ tg := tg_at 375 (by first | rfl | decide +kernel) (by first | rfl | decide +kernel)
set_option maxRecDepth 20000 in
theorem tw_342 : (Cond.codeWith yL_depth cL_depth (4 : Nat) (Option.some FieldType.int) [((0 : Nat), (9 : Nat), (12 : Nat), (13 : Nat))]) ∈ tg := tg_at 376 (by first | rfl | decide +kernel) (by first | rfl | decide +kernel)
set_option maxRecDepth 20000 in
theorem tw_343 : (Cond.classLink RL (13 : Nat) RJx00060) ∈ tg := tg_at 377 (by first | rfl | decide +kernel) (by first | rfl | decide +kernel)
set_option maxRecDepth 20000 in
theorem tw_344 : (Cond.methodLink RL (7 : Nat) yX3_depth) ∈ tg := tg_at 378 (by first | rfl | decide +kernel) (by first | rfl | decide +kernel)
set_option maxRecDepth 20000 in
theorem tw_345 : (Cond.instanceMethod yX3_depth) ∈ tg := tg_at 379 (by first | rfl | decide +kernel) (by first | rfl | decide +kernel)
set_option maxRecDepth 20000 in
theorem tw_346 : (Cond.selects RX3 yX3_depth yX3_depth) ∈ tg := tg_at 380 (by first | rfl | decide +kernel) (by first | rfl | decide +kernel)
set_option maxRecDepth 20000 in
theorem tw_347 : (Cond.code yX3_depth cX3_depth (2 : Nat) (Option.some FieldType.int)) ∈ tg := tg_at 381 (by first | rfl | decide +kernel) (by first | rfl | decide +kernel)
set_option maxRecDepth 20000 in
theorem tw_348 : (Cond.classLink RX3 (108 : Nat) RJx00060) ∈ tg := tg_at 382 (by first | rfl | decide +kernel) (by first | rfl | decide +kernel)
set_option maxRecDepth 20000 in
theorem tw_349 : (Cond.instantiable RJx00060 (6 : Nat)) ∈ tg := tg_at 383 (by first | rfl | decide +kernel) (by first | rfl | decide +kernel)
set_option maxRecDepth 20000 in
theorem tn_350 : (Cond.castable "java/lang/ArrayIndexOutOfBoundsException" "java/lang/ArrayIndexOutOfBoundsException") ∈ lw_tbl := List.mem_of_getElem? (i := 384) (by first | rfl | decide +kernel)
set_option maxRecDepth 20000 in
theorem tn_351 : (Cond.declares (⟨"java/lang/IndexOutOfBoundsException", "<init>", "()V"⟩ : MethodName)) ∈ lw_tbl := List.mem_of_getElem? (i := 385) (by first | rfl | decide +kernel)
set_option maxRecDepth 20000 in
theorem tn_352 : (Cond.declares (⟨"java/lang/IndexOutOfBoundsException", "<init>", "(Ljava/lang/String;)V"⟩ : MethodName)) ∈ lw_tbl := List.mem_of_getElem? (i := 386) (by first | rfl | decide +kernel)
set_option maxRecDepth 20000 in
theorem tn_353 : (Cond.declares (⟨"java/lang/RuntimeException", "<init>", "()V"⟩ : MethodName)) ∈ lw_tbl := List.mem_of_getElem? (i := 387) (by first | rfl | decide +kernel)
set_option maxRecDepth 20000 in
theorem tn_354 : (Cond.declares (⟨"java/lang/RuntimeException", "<init>", "(Ljava/lang/String;)V"⟩ : MethodName)) ∈ lw_tbl := List.mem_of_getElem? (i := 388) (by first | rfl | decide +kernel)
set_option maxRecDepth 20000 in
theorem tn_355 : (Cond.declares (⟨"java/lang/Exception", "<init>", "()V"⟩ : MethodName)) ∈ lw_tbl := List.mem_of_getElem? (i := 389) (by first | rfl | decide +kernel)
set_option maxRecDepth 20000 in
theorem tn_356 : (Cond.declares (⟨"java/lang/Exception", "<init>", "(Ljava/lang/String;)V"⟩ : MethodName)) ∈ lw_tbl := List.mem_of_getElem? (i := 390) (by first | rfl | decide +kernel)
set_option maxRecDepth 20000 in
theorem tn_357 : (Cond.declares (⟨"java/lang/Throwable", "<init>", "()V"⟩ : MethodName)) ∈ lw_tbl := List.mem_of_getElem? (i := 391) (by first | rfl | decide +kernel)
set_option maxRecDepth 20000 in
theorem tn_358 : (Cond.declares (⟨"java/lang/Throwable", "<init>", "(Ljava/lang/String;)V"⟩ : MethodName)) ∈ lw_tbl := List.mem_of_getElem? (i := 392) (by first | rfl | decide +kernel)
set_option maxRecDepth 20000 in
theorem tw_359 : (Cond.selects RJx00060 (⟨"java/lang/Throwable", "fillInStackTrace", "(I)Ljava/lang/Throwable;"⟩ : MethodName) (⟨"java/lang/Throwable", "fillInStackTrace", "(I)Ljava/lang/Throwable;"⟩ : MethodName)) ∈ tg := tg_at 393 (by first | rfl | decide +kernel) (by first | rfl | decide +kernel)
set_option maxRecDepth 20000 in
theorem tw_360 : (Cond.selects RJx00060 (⟨"java/lang/Throwable", "fillInStackTrace", "()Ljava/lang/Throwable;"⟩ : MethodName) (⟨"java/lang/Throwable", "fillInStackTrace", "()Ljava/lang/Throwable;"⟩ : MethodName)) ∈ tg := tg_at 394 (by first | rfl | decide +kernel) (by first | rfl | decide +kernel)
set_option maxRecDepth 20000 in
theorem tw_361 : (Cond.lays RJx00060 "java/lang/Throwable" "cause" "Ljava/lang/Throwable;") ∈ tg := tg_at 395 (by first | rfl | decide +kernel) (by first | rfl | decide +kernel)
set_option maxRecDepth 20000 in
theorem tw_362 : (Cond.lays "java/lang/Throwable" "java/lang/Throwable" "cause" "Ljava/lang/Throwable;") ∈ tg := tg_at 396 (by first | rfl | decide +kernel) (by first | rfl | decide +kernel)
set_option maxRecDepth 20000 in
theorem tw_363 : (Cond.lays RJx00060 "java/lang/Throwable" "stackTrace" "[Ljava/lang/StackTraceElement;") ∈ tg := tg_at 397 (by first | rfl | decide +kernel) (by first | rfl | decide +kernel)
set_option maxRecDepth 20000 in
theorem tw_364 : (Cond.lays "java/lang/Throwable" "java/lang/Throwable" "stackTrace" "[Ljava/lang/StackTraceElement;") ∈ tg := tg_at 398 (by first | rfl | decide +kernel) (by first | rfl | decide +kernel)
set_option maxRecDepth 20000 in
theorem tw_365 : (Cond.lays RJx00060 "java/lang/Throwable" "suppressedExceptions" "Ljava/util/List;") ∈ tg := tg_at 399 (by first | rfl | decide +kernel) (by first | rfl | decide +kernel)
set_option maxRecDepth 20000 in
theorem tw_366 : (Cond.lays "java/lang/Throwable" "java/lang/Throwable" "suppressedExceptions" "Ljava/util/List;") ∈ tg := tg_at 400 (by first | rfl | decide +kernel) (by first | rfl | decide +kernel)
set_option maxRecDepth 20000 in
theorem tw_367 : (Cond.lays RJx00060 "java/lang/Throwable" "detailMessage" "Ljava/lang/String;") ∈ tg := tg_at 401 (by first | rfl | decide +kernel) (by first | rfl | decide +kernel)
set_option maxRecDepth 20000 in
theorem tw_368 : (Cond.lays "java/lang/Throwable" "java/lang/Throwable" "detailMessage" "Ljava/lang/String;") ∈ tg := tg_at 402 (by first | rfl | decide +kernel) (by first | rfl | decide +kernel)
set_option maxRecDepth 20000 in
theorem tw_369 : (Cond.lays RJx00060 "java/lang/Throwable" "backtrace" "Ljava/lang/Object;") ∈ tg := tg_at 403 (by first | rfl | decide +kernel) (by first | rfl | decide +kernel)
set_option maxRecDepth 20000 in
theorem tw_370 : (Cond.lays "java/lang/Throwable" "java/lang/Throwable" "backtrace" "Ljava/lang/Object;") ∈ tg := tg_at 404 (by first | rfl | decide +kernel) (by first | rfl | decide +kernel)
set_option maxRecDepth 20000 in
theorem tw_371 : (Cond.fieldLink "java/lang/Throwable" (198 : Nat) "java/lang/Throwable" "backtrace" "Ljava/lang/Object;") ∈ tg := tg_at 405 (by first | rfl | decide +kernel) (by first | rfl | decide +kernel)
set_option maxRecDepth 20000 in
theorem tw_372 : (Cond.superclass "java/lang/Throwable" "java/lang/Object") ∈ tg := tg_at 406 (by first | rfl | decide +kernel) (by first | rfl | decide +kernel)
set_option maxRecDepth 20000 in
theorem tw_373 : (Cond.instanceMethod (⟨"java/lang/Throwable", "<init>", "()V"⟩ : MethodName)) ∈ tg := tg_at 407 (by first | rfl | decide +kernel) (by first | rfl | decide +kernel)
set_option maxRecDepth 20000 in
theorem tw_374 : (Cond.code (⟨"java/lang/Throwable", "<init>", "()V"⟩ : MethodName) prog_14_method_1_code (1 : Nat) (Option.none : Option FieldType)) ∈ tg := tg_at 408 (by first | rfl | decide +kernel) (by first | rfl | decide +kernel)
set_option maxRecDepth 20000 in
theorem tw_375 : (Cond.methodLink "java/lang/Throwable" (1 : Nat) objectInit) ∈ tg := tg_at 409 (by first | rfl | decide +kernel) (by first | rfl | decide +kernel)
set_option maxRecDepth 20000 in
theorem tw_376 : (Cond.fieldLink "java/lang/Throwable" (13 : Nat) "java/lang/Throwable" "UNASSIGNED_STACK" "[Ljava/lang/StackTraceElement;") ∈ tg := tg_at 410 (by first | rfl | decide +kernel) (by first | rfl | decide +kernel)
set_option maxRecDepth 20000 in
theorem tn_377 : (Cond.laysStatic "java/lang/Throwable" "UNASSIGNED_STACK" "[Ljava/lang/StackTraceElement;") ∈ lw_tbl := List.mem_of_getElem? (i := 411) (by first | rfl | decide +kernel)
set_option maxRecDepth 20000 in
theorem tw_378 : (Cond.fieldLink "java/lang/Throwable" (20 : Nat) "java/lang/Throwable" "SUPPRESSED_SENTINEL" "Ljava/util/List;") ∈ tg := tg_at 412 (by first | rfl | decide +kernel) (by first | rfl | decide +kernel)
set_option maxRecDepth 20000 in
theorem tn_379 : (Cond.laysStatic "java/lang/Throwable" "SUPPRESSED_SENTINEL" "Ljava/util/List;") ∈ lw_tbl := List.mem_of_getElem? (i := 413) (by first | rfl | decide +kernel)
set_option maxRecDepth 20000 in
theorem tw_380 : (Cond.methodLink "java/lang/Throwable" (27 : Nat) (⟨"java/lang/Throwable", "fillInStackTrace", "()Ljava/lang/Throwable;"⟩ : MethodName)) ∈ tg := tg_at 414 (by first | rfl | decide +kernel) (by first | rfl | decide +kernel)
set_option maxRecDepth 20000 in
theorem tw_381 : (Cond.instanceMethod (⟨"java/lang/Throwable", "fillInStackTrace", "()Ljava/lang/Throwable;"⟩ : MethodName)) ∈ tg := tg_at 415 (by first | rfl | decide +kernel) (by first | rfl | decide +kernel)
set_option maxRecDepth 20000 in
theorem tw_382 : (Cond.sameMethod "java/lang/Throwable" "java/lang/Throwable" "fillInStackTrace" "()Ljava/lang/Throwable;") ∈ tg := tg_at 416 (by first | rfl | decide +kernel) (by first | rfl | decide +kernel)
set_option maxRecDepth 20000 in
theorem tw_383 : (Cond.codeSync (⟨"java/lang/Throwable", "fillInStackTrace", "()Ljava/lang/Throwable;"⟩ : MethodName) prog_14_method_18_code (1 : Nat) (Option.some (FieldType.object "java/lang/Throwable"))) ∈ tg := tg_at 417 (by first | rfl | decide +kernel) (by first | rfl | decide +kernel)
set_option maxRecDepth 20000 in
theorem tw_384 : (Cond.methodLink "java/lang/Throwable" (202 : Nat) (⟨"java/lang/Throwable", "fillInStackTrace", "(I)Ljava/lang/Throwable;"⟩ : MethodName)) ∈ tg := tg_at 418 (by first | rfl | decide +kernel) (by first | rfl | decide +kernel)
set_option maxRecDepth 20000 in
theorem tw_386 : (Cond.instanceMethod (⟨"java/lang/Throwable", "fillInStackTrace", "(I)Ljava/lang/Throwable;"⟩ : MethodName)) ∈ tg := tg_at 420 (by first | rfl | decide +kernel) (by first | rfl | decide +kernel)
set_option maxRecDepth 20000 in
theorem tw_387 : (Cond.instantiable "java/lang/Throwable" (6 : Nat)) ∈ tg := tg_at 421 (by first | rfl | decide +kernel) (by first | rfl | decide +kernel)
set_option maxRecDepth 20000 in
theorem tw_388 : (Cond.native (⟨"java/lang/Throwable", "fillInStackTrace", "(I)Ljava/lang/Throwable;"⟩ : MethodName)) ∈ tg := tg_at 422 (by first | rfl | decide +kernel) (by first | rfl | decide +kernel)
set_option maxRecDepth 20000 in
theorem tn_389 : (Cond.stringRef "PathSteps" (110 : Nat) "no such row") ∈ lw_tbl := List.mem_of_getElem? (i := 423) (by first | rfl | decide +kernel)
set_option maxRecDepth 20000 in
theorem tw_390 : (Cond.methodLink RX3 (112 : Nat) yJx00060_init_a7421) ∈ tg := tg_at 424 (by first | rfl | decide +kernel) (by first | rfl | decide +kernel)
set_option maxRecDepth 20000 in
theorem tw_391 : (Cond.instanceMethod yJx00060_init_a7421) ∈ tg := tg_at 425 (by first | rfl | decide +kernel) (by first | rfl | decide +kernel)
set_option maxRecDepth 20000 in
theorem tw_392 : (Cond.code yJx00060_init_a7421 cJx00060_init_a7421 (2 : Nat) (Option.none : Option FieldType)) ∈ tg := tg_at 426 (by first | rfl | decide +kernel) (by first | rfl | decide +kernel)
set_option maxRecDepth 20000 in
theorem tw_393 : (Cond.methodLink RJx00060 (7 : Nat) (⟨"java/lang/IndexOutOfBoundsException", "<init>", "(Ljava/lang/String;)V"⟩ : MethodName)) ∈ tg := tg_at 427 (by first | rfl | decide +kernel) (by first | rfl | decide +kernel)
set_option maxRecDepth 20000 in
theorem tw_394 : (Cond.instanceMethod (⟨"java/lang/IndexOutOfBoundsException", "<init>", "(Ljava/lang/String;)V"⟩ : MethodName)) ∈ tg := tg_at 428 (by first | rfl | decide +kernel) (by first | rfl | decide +kernel)
set_option maxRecDepth 20000 in
theorem tw_395 : (Cond.code (⟨"java/lang/IndexOutOfBoundsException", "<init>", "(Ljava/lang/String;)V"⟩ : MethodName) prog_9_method_2_code (2 : Nat) (Option.none : Option FieldType)) ∈ tg := tg_at 429 (by first | rfl | decide +kernel) (by first | rfl | decide +kernel)
set_option maxRecDepth 20000 in
theorem tw_396 : (Cond.methodLink "java/lang/IndexOutOfBoundsException" (7 : Nat) (⟨"java/lang/RuntimeException", "<init>", "(Ljava/lang/String;)V"⟩ : MethodName)) ∈ tg := tg_at 430 (by first | rfl | decide +kernel) (by first | rfl | decide +kernel)
set_option maxRecDepth 20000 in
theorem tw_397 : (Cond.instanceMethod (⟨"java/lang/RuntimeException", "<init>", "(Ljava/lang/String;)V"⟩ : MethodName)) ∈ tg := tg_at 431 (by first | rfl | decide +kernel) (by first | rfl | decide +kernel)
set_option maxRecDepth 20000 in
theorem tw_398 : (Cond.code (⟨"java/lang/RuntimeException", "<init>", "(Ljava/lang/String;)V"⟩ : MethodName) prog_12_method_2_code (2 : Nat) (Option.none : Option FieldType)) ∈ tg := tg_at 432 (by first | rfl | decide +kernel) (by first | rfl | decide +kernel)
set_option maxRecDepth 20000 in
theorem tw_399 : (Cond.methodLink "java/lang/RuntimeException" (7 : Nat) (⟨"java/lang/Exception", "<init>", "(Ljava/lang/String;)V"⟩ : MethodName)) ∈ tg := tg_at 433 (by first | rfl | decide +kernel) (by first | rfl | decide +kernel)
set_option maxRecDepth 20000 in
theorem tw_400 : (Cond.instanceMethod (⟨"java/lang/Exception", "<init>", "(Ljava/lang/String;)V"⟩ : MethodName)) ∈ tg := tg_at 434 (by first | rfl | decide +kernel) (by first | rfl | decide +kernel)
set_option maxRecDepth 20000 in
theorem tw_401 : (Cond.code (⟨"java/lang/Exception", "<init>", "(Ljava/lang/String;)V"⟩ : MethodName) prog_8_method_2_code (2 : Nat) (Option.none : Option FieldType)) ∈ tg := tg_at 435 (by first | rfl | decide +kernel) (by first | rfl | decide +kernel)
set_option maxRecDepth 20000 in
theorem tw_402 : (Cond.methodLink "java/lang/Exception" (7 : Nat) (⟨"java/lang/Throwable", "<init>", "(Ljava/lang/String;)V"⟩ : MethodName)) ∈ tg := tg_at 436 (by first | rfl | decide +kernel) (by first | rfl | decide +kernel)
set_option maxRecDepth 20000 in
theorem tw_403 : (Cond.instanceMethod (⟨"java/lang/Throwable", "<init>", "(Ljava/lang/String;)V"⟩ : MethodName)) ∈ tg := tg_at 437 (by first | rfl | decide +kernel) (by first | rfl | decide +kernel)
set_option maxRecDepth 20000 in
theorem tw_404 : (Cond.code (⟨"java/lang/Throwable", "<init>", "(Ljava/lang/String;)V"⟩ : MethodName) prog_14_method_2_code (2 : Nat) (Option.none : Option FieldType)) ∈ tg := tg_at 438 (by first | rfl | decide +kernel) (by first | rfl | decide +kernel)
set_option maxRecDepth 20000 in
theorem tw_405 : (Cond.fieldLink "java/lang/Throwable" (198 : Nat) "java/lang/Throwable" "backtrace" "Ljava/lang/Object;") ∈ tg := tg_at 439 (by first | rfl | decide +kernel) (by first | rfl | decide +kernel)
set_option maxRecDepth 20000 in
theorem tw_406 : (Cond.fieldLink "java/lang/Throwable" (31 : Nat) "java/lang/Throwable" "detailMessage" "Ljava/lang/String;") ∈ tg := tg_at 440 (by first | rfl | decide +kernel) (by first | rfl | decide +kernel)
set_option maxRecDepth 20000 in
theorem tw_407 : (Cond.fieldLink "java/lang/Throwable" (7 : Nat) "java/lang/Throwable" "cause" "Ljava/lang/Throwable;") ∈ tg := tg_at 441 (by first | rfl | decide +kernel) (by first | rfl | decide +kernel)
set_option maxRecDepth 20000 in
theorem tw_408 : (Cond.fieldLink "java/lang/Throwable" (17 : Nat) "java/lang/Throwable" "stackTrace" "[Ljava/lang/StackTraceElement;") ∈ tg := tg_at 442 (by first | rfl | decide +kernel) (by first | rfl | decide +kernel)
set_option maxRecDepth 20000 in
theorem tw_409 : (Cond.fieldLink "java/lang/Throwable" (24 : Nat) "java/lang/Throwable" "suppressedExceptions" "Ljava/util/List;") ∈ tg := tg_at 443 (by first | rfl | decide +kernel) (by first | rfl | decide +kernel)
set_option maxRecDepth 20000 in
theorem tw_414 : (Cond.lays RJx00060 "java/lang/Throwable" "depth" "I") ∈ tg := tg_at 448 (by first | rfl | decide +kernel) (by first | rfl | decide +kernel)
set_option maxRecDepth 20000 in
theorem tw_417 : (Cond.superclass "java/lang/ArrayIndexOutOfBoundsException" "java/lang/IndexOutOfBoundsException") ∈ tg := tg_at 451 (by first | rfl | decide +kernel) (by first | rfl | decide +kernel)
set_option maxRecDepth 20000 in
theorem tw_418 : (Cond.arrayClass FieldType.byte) ∈ tg := tg_at 452 (by first | rfl | decide +kernel) (by first | rfl | decide +kernel)
set_option maxRecDepth 20000 in
theorem tw_419 : (Cond.classLink RL (16 : Nat) RX4) ∈ tg := tg_at 453 (by first | rfl | decide +kernel) (by first | rfl | decide +kernel)
set_option maxRecDepth 20000 in
theorem tw_420 : (Cond.instantiable RX4 (21 : Nat)) ∈ tg := tg_at 454 (by first | rfl | decide +kernel) (by first | rfl | decide +kernel)
set_option maxRecDepth 20000 in
theorem tw_421 : (Cond.methodLink RL (18 : Nat) yX4_init) ∈ tg := tg_at 455 (by first | rfl | decide +kernel) (by first | rfl | decide +kernel)
set_option maxRecDepth 20000 in
theorem tw_422 : (Cond.instanceMethod yX4_init) ∈ tg := tg_at 456 (by first | rfl | decide +kernel) (by first | rfl | decide +kernel)
set_option maxRecDepth 20000 in
theorem tw_423 : (Cond.code yX4_init cX4_init (1 : Nat) (Option.none : Option FieldType)) ∈ tg := tg_at 457 (by first | rfl | decide +kernel) (by first | rfl | decide +kernel)
set_option maxRecDepth 20000 in
theorem tw_424 : (Cond.methodLink RX4 (1 : Nat) objectInit) ∈ tg := tg_at 458 (by first | rfl | decide +kernel) (by first | rfl | decide +kernel)
set_option maxRecDepth 20000 in
theorem tw_425 : (Cond.constant RX4 (32 : Nat) (41984 : Int32)) ∈ tg := tg_at 459 (by first | rfl | decide +kernel) (by first | rfl | decide +kernel)
set_option maxRecDepth 20000 in
theorem tw_426 : (Cond.fieldLink RX4 (58 : Nat) "PathStepsModel" "refusal" "I") ∈ tg := tg_at 460 (by first | rfl | decide +kernel) (by first | rfl | decide +kernel)
set_option maxRecDepth 20000 in
theorem tw_427 : (Cond.fieldLink RX4 (7 : Nat) "PathStepsModel" "subjects" "[I") ∈ tg := tg_at 461 (by first | rfl | decide +kernel) (by first | rfl | decide +kernel)
set_option maxRecDepth 20000 in
theorem tw_428 : (Cond.fieldLink RX4 (13 : Nat) "PathStepsModel" "predicates" "[I") ∈ tg := tg_at 462 (by first | rfl | decide +kernel) (by first | rfl | decide +kernel)
set_option maxRecDepth 20000 in
theorem tw_429 : (Cond.fieldLink RX4 (16 : Nat) "PathStepsModel" "objects" "[I") ∈ tg := tg_at 463 (by first | rfl | decide +kernel) (by first | rfl | decide +kernel)
set_option maxRecDepth 20000 in
theorem tw_430 : (Cond.fieldLink RX4 (72 : Nat) "PathStepsModel" "triples" "I") ∈ tg := tg_at 464 (by first | rfl | decide +kernel) (by first | rfl | decide +kernel)
set_option maxRecDepth 20000 in
theorem tw_431 : (Cond.fieldLink RX4 (19 : Nat) "PathStepsModel" "kinds" "[I") ∈ tg := tg_at 465 (by first | rfl | decide +kernel) (by first | rfl | decide +kernel)
set_option maxRecDepth 20000 in
theorem tw_432 : (Cond.fieldLink RX4 (22 : Nat) "PathStepsModel" "first" "[I") ∈ tg := tg_at 466 (by first | rfl | decide +kernel) (by first | rfl | decide +kernel)
set_option maxRecDepth 20000 in
theorem tw_433 : (Cond.fieldLink RX4 (25 : Nat) "PathStepsModel" "second" "[I") ∈ tg := tg_at 467 (by first | rfl | decide +kernel) (by first | rfl | decide +kernel)
set_option maxRecDepth 20000 in
theorem tw_434 : (Cond.fieldLink RX4 (65 : Nat) "PathStepsModel" "paths" "I") ∈ tg := tg_at 468 (by first | rfl | decide +kernel) (by first | rfl | decide +kernel)
set_option maxRecDepth 20000 in
theorem tw_435 : (Cond.fieldLink RX4 (28 : Nat) "PathStepsModel" "most" "I") ∈ tg := tg_at 469 (by first | rfl | decide +kernel) (by first | rfl | decide +kernel)
set_option maxRecDepth 20000 in
theorem tw_436 : (Cond.fieldLink RX4 (33 : Nat) "PathStepsModel" "table" "[I") ∈ tg := tg_at 470 (by first | rfl | decide +kernel) (by first | rfl | decide +kernel)
set_option maxRecDepth 20000 in
theorem tw_437 : (Cond.fieldLink RX4 (36 : Nat) "PathStepsModel" "isNeeded" "[Z") ∈ tg := tg_at 471 (by first | rfl | decide +kernel) (by first | rfl | decide +kernel)
set_option maxRecDepth 20000 in
theorem tw_438 : (Cond.fieldLink RX4 (40 : Nat) "PathStepsModel" "isIn" "[Z") ∈ tg := tg_at 472 (by first | rfl | decide +kernel) (by first | rfl | decide +kernel)
set_option maxRecDepth 20000 in
theorem tw_439 : (Cond.fieldLink RX4 (95 : Nat) "PathStepsModel" "goesBeyond" "Z") ∈ tg := tg_at 473 (by first | rfl | decide +kernel) (by first | rfl | decide +kernel)
set_option maxRecDepth 20000 in
theorem tw_440 : (Cond.fieldLink RX4 (43 : Nat) "PathStepsModel" "steps" "[I") ∈ tg := tg_at 474 (by first | rfl | decide +kernel) (by first | rfl | decide +kernel)
set_option maxRecDepth 20000 in
theorem tw_441 : (Cond.fieldLink RX4 (46 : Nat) "PathStepsModel" "queue" "[I") ∈ tg := tg_at 475 (by first | rfl | decide +kernel) (by first | rfl | decide +kernel)
set_option maxRecDepth 20000 in
theorem tw_442 : (Cond.fieldLink RX4 (129 : Nat) "PathStepsModel" "wasRun" "Z") ∈ tg := tg_at 476 (by first | rfl | decide +kernel) (by first | rfl | decide +kernel)
set_option maxRecDepth 20000 in
theorem tw_443 : (Cond.fieldLink RX4 (132 : Nat) "PathStepsModel" "rows" "I") ∈ tg := tg_at 477 (by first | rfl | decide +kernel) (by first | rfl | decide +kernel)
set_option maxRecDepth 20000 in
theorem tw_444 : (Cond.fieldLink RX4 (49 : Nat) "PathStepsModel" "rowFrom" "[I") ∈ tg := tg_at 478 (by first | rfl | decide +kernel) (by first | rfl | decide +kernel)
set_option maxRecDepth 20000 in
theorem tw_445 : (Cond.fieldLink RX4 (52 : Nat) "PathStepsModel" "rowTo" "[I") ∈ tg := tg_at 479 (by first | rfl | decide +kernel) (by first | rfl | decide +kernel)
set_option maxRecDepth 20000 in
theorem tw_446 : (Cond.fieldLink RX4 (55 : Nat) "PathStepsModel" "rowDepth" "[I") ∈ tg := tg_at 480 (by first | rfl | decide +kernel) (by first | rfl | decide +kernel)
set_option maxRecDepth 20000 in
theorem tw_447 : (Cond.lays RX4 "PathStepsModel" "refusal" "I") ∈ tg := tg_at 481 (by first | rfl | decide +kernel) (by first | rfl | decide +kernel)
set_option maxRecDepth 20000 in
theorem tw_449 : (Cond.laysFinal RX4 "PathStepsModel" "subjects" "[I") ∈ tg := tg_at 483 (by first | rfl | decide +kernel) (by first | rfl | decide +kernel)
set_option maxRecDepth 20000 in
theorem tw_451 : (Cond.laysFinal RX4 "PathStepsModel" "predicates" "[I") ∈ tg := tg_at 485 (by first | rfl | decide +kernel) (by first | rfl | decide +kernel)
set_option maxRecDepth 20000 in
theorem tw_453 : (Cond.laysFinal RX4 "PathStepsModel" "objects" "[I") ∈ tg := tg_at 487 (by first | rfl | decide +kernel) (by first | rfl | decide +kernel)
set_option maxRecDepth 20000 in
theorem tw_455 : (Cond.lays RX4 "PathStepsModel" "triples" "I") ∈ tg := tg_at 489 (by first | rfl | decide +kernel) (by first | rfl | decide +kernel)
set_option maxRecDepth 20000 in
theorem tw_457 : (Cond.laysFinal RX4 "PathStepsModel" "kinds" "[I") ∈ tg := tg_at 491 (by first | rfl | decide +kernel) (by first | rfl | decide +kernel)
set_option maxRecDepth 20000 in
theorem tw_459 : (Cond.laysFinal RX4 "PathStepsModel" "first" "[I") ∈ tg := tg_at 493 (by first | rfl | decide +kernel) (by first | rfl | decide +kernel)
set_option maxRecDepth 20000 in
theorem tw_461 : (Cond.laysFinal RX4 "PathStepsModel" "second" "[I") ∈ tg := tg_at 495 (by first | rfl | decide +kernel) (by first | rfl | decide +kernel)
set_option maxRecDepth 20000 in
theorem tw_463 : (Cond.lays RX4 "PathStepsModel" "paths" "I") ∈ tg := tg_at 497 (by first | rfl | decide +kernel) (by first | rfl | decide +kernel)
set_option maxRecDepth 20000 in
theorem tw_465 : (Cond.lays RX4 "PathStepsModel" "most" "I") ∈ tg := tg_at 499 (by first | rfl | decide +kernel) (by first | rfl | decide +kernel)
set_option maxRecDepth 20000 in
theorem tw_467 : (Cond.laysFinal RX4 "PathStepsModel" "table" "[I") ∈ tg := tg_at 501 (by first | rfl | decide +kernel) (by first | rfl | decide +kernel)
set_option maxRecDepth 20000 in
theorem tw_469 : (Cond.laysFinal RX4 "PathStepsModel" "isNeeded" "[Z") ∈ tg := tg_at 503 (by first | rfl | decide +kernel) (by first | rfl | decide +kernel)
set_option maxRecDepth 20000 in
theorem tw_471 : (Cond.laysFinal RX4 "PathStepsModel" "isIn" "[Z") ∈ tg := tg_at 505 (by first | rfl | decide +kernel) (by first | rfl | decide +kernel)
set_option maxRecDepth 20000 in
theorem tw_473 : (Cond.lays RX4 "PathStepsModel" "goesBeyond" "Z") ∈ tg := tg_at 507 (by first | rfl | decide +kernel) (by first | rfl | decide +kernel)
set_option maxRecDepth 20000 in
theorem tw_475 : (Cond.laysFinal RX4 "PathStepsModel" "steps" "[I") ∈ tg := tg_at 509 (by first | rfl | decide +kernel) (by first | rfl | decide +kernel)
set_option maxRecDepth 20000 in
theorem tw_477 : (Cond.laysFinal RX4 "PathStepsModel" "queue" "[I") ∈ tg := tg_at 511 (by first | rfl | decide +kernel) (by first | rfl | decide +kernel)
set_option maxRecDepth 20000 in
theorem tw_479 : (Cond.lays RX4 "PathStepsModel" "wasRun" "Z") ∈ tg := tg_at 513 (by first | rfl | decide +kernel) (by first | rfl | decide +kernel)
set_option maxRecDepth 20000 in
theorem tw_481 : (Cond.lays RX4 "PathStepsModel" "rows" "I") ∈ tg := tg_at 515 (by first | rfl | decide +kernel) (by first | rfl | decide +kernel)
set_option maxRecDepth 20000 in
theorem tw_483 : (Cond.laysFinal RX4 "PathStepsModel" "rowFrom" "[I") ∈ tg := tg_at 517 (by first | rfl | decide +kernel) (by first | rfl | decide +kernel)
set_option maxRecDepth 20000 in
theorem tw_485 : (Cond.laysFinal RX4 "PathStepsModel" "rowTo" "[I") ∈ tg := tg_at 519 (by first | rfl | decide +kernel) (by first | rfl | decide +kernel)
set_option maxRecDepth 20000 in
theorem tw_487 : (Cond.laysFinal RX4 "PathStepsModel" "rowDepth" "[I") ∈ tg := tg_at 521 (by first | rfl | decide +kernel) (by first | rfl | decide +kernel)
set_option maxRecDepth 20000 in
theorem tw_489 : (Cond.superclass "PathStepsModel" "java/lang/Object") ∈ tg := tg_at 523 (by first | rfl | decide +kernel) (by first | rfl | decide +kernel)
set_option maxRecDepth 20000 in
theorem tw_490 : (Cond.arrayClass FieldType.boolean) ∈ tg := tg_at 524 (by first | rfl | decide +kernel) (by first | rfl | decide +kernel)
set_option maxRecDepth 20000 in
theorem tw_491 : (Cond.methodLink RL (60 : Nat) yX4_thrown) ∈ tg := tg_at 525 (by first | rfl | decide +kernel) (by first | rfl | decide +kernel)
set_option maxRecDepth 20000 in
theorem tw_492 : (Cond.instanceMethod yX4_thrown) ∈ tg := tg_at 526 (by first | rfl | decide +kernel) (by first | rfl | decide +kernel)
set_option maxRecDepth 20000 in
theorem tw_493 : (Cond.selects RX4 yX4_thrown yX4_thrown) ∈ tg := tg_at 527 (by first | rfl | decide +kernel) (by first | rfl | decide +kernel)
set_option maxRecDepth 20000 in
theorem tw_494 : (Cond.code yX4_thrown cX4_thrown (1 : Nat) (Option.some FieldType.int)) ∈ tg := tg_at 528 (by first | rfl | decide +kernel) (by first | rfl | decide +kernel)
set_option maxRecDepth 20000 in
theorem tw_495 : (Cond.methodLink RL (23 : Nat) yX4_triple) ∈ tg := tg_at 529 (by first | rfl | decide +kernel) (by first | rfl | decide +kernel)
set_option maxRecDepth 20000 in
theorem tw_496 : (Cond.instanceMethod yX4_triple) ∈ tg := tg_at 530 (by first | rfl | decide +kernel) (by first | rfl | decide +kernel)
set_option maxRecDepth 20000 in
theorem tw_497 : (Cond.selects RX4 yX4_triple yX4_triple) ∈ tg := tg_at 531 (by first | rfl | decide +kernel) (by first | rfl | decide +kernel)
set_option maxRecDepth 20000 in
theorem tw_498 : (Cond.code yX4_triple cX4_triple (5 : Nat) (Option.some FieldType.int)) ∈ tg := tg_at 532 (by first | rfl | decide +kernel) (by first | rfl | decide +kernel)
set_option maxRecDepth 20000 in
theorem tw_499 : (Cond.methodLink RX4 (68 : Nat) yX4_isNode) ∈ tg := tg_at 533 (by first | rfl | decide +kernel) (by first | rfl | decide +kernel)
set_option maxRecDepth 20000 in
theorem tw_500 : (Cond.static yX4_isNode) ∈ tg := tg_at 534 (by first | rfl | decide +kernel) (by first | rfl | decide +kernel)
set_option maxRecDepth 20000 in
theorem tw_501 : (Cond.code yX4_isNode cX4_isNode (1 : Nat) (Option.some FieldType.boolean)) ∈ tg := tg_at 535 (by first | rfl | decide +kernel) (by first | rfl | decide +kernel)
set_option maxRecDepth 20000 in
theorem tw_502 : (Cond.methodLink RX4 (61 : Nat) yX4_isBetween) ∈ tg := tg_at 536 (by first | rfl | decide +kernel) (by first | rfl | decide +kernel)
set_option maxRecDepth 20000 in
theorem tw_503 : (Cond.static yX4_isBetween) ∈ tg := tg_at 537 (by first | rfl | decide +kernel) (by first | rfl | decide +kernel)
set_option maxRecDepth 20000 in
theorem tw_504 : (Cond.code yX4_isBetween cX4_isBetween (3 : Nat) (Option.some FieldType.boolean)) ∈ tg := tg_at 538 (by first | rfl | decide +kernel) (by first | rfl | decide +kernel)
set_option maxRecDepth 20000 in
theorem tw_505 : (Cond.methodLink RL (27 : Nat) yX4_path) ∈ tg := tg_at 539 (by first | rfl | decide +kernel) (by first | rfl | decide +kernel)
set_option maxRecDepth 20000 in
theorem tw_506 : (Cond.instanceMethod yX4_path) ∈ tg := tg_at 540 (by first | rfl | decide +kernel) (by first | rfl | decide +kernel)
set_option maxRecDepth 20000 in
theorem tw_507 : (Cond.selects RX4 yX4_path yX4_path) ∈ tg := tg_at 541 (by first | rfl | decide +kernel) (by first | rfl | decide +kernel)
set_option maxRecDepth 20000 in
theorem tw_508 : (Cond.code yX4_path cX4_path (4 : Nat) (Option.some FieldType.int)) ∈ tg := tg_at 542 (by first | rfl | decide +kernel) (by first | rfl | decide +kernel)
set_option maxRecDepth 20000 in
theorem tw_509 : (Cond.methodLink RX4 (75 : Nat) yX4_isPath) ∈ tg := tg_at 543 (by first | rfl | decide +kernel) (by first | rfl | decide +kernel)
set_option maxRecDepth 20000 in
theorem tw_511 : (Cond.instanceMethod yX4_isPath) ∈ tg := tg_at 545 (by first | rfl | decide +kernel) (by first | rfl | decide +kernel)
set_option maxRecDepth 20000 in
theorem tw_512 : (Cond.code yX4_isPath cX4_isPath (2 : Nat) (Option.some FieldType.boolean)) ∈ tg := tg_at 546 (by first | rfl | decide +kernel) (by first | rfl | decide +kernel)
set_option maxRecDepth 20000 in
theorem tw_513 : (Cond.methodLink RX4 (78 : Nat) yX4_made) ∈ tg := tg_at 547 (by first | rfl | decide +kernel) (by first | rfl | decide +kernel)
set_option maxRecDepth 20000 in
theorem tw_515 : (Cond.instanceMethod yX4_made) ∈ tg := tg_at 549 (by first | rfl | decide +kernel) (by first | rfl | decide +kernel)
set_option maxRecDepth 20000 in
theorem tw_516 : (Cond.code yX4_made cX4_made (4 : Nat) (Option.some FieldType.int)) ∈ tg := tg_at 550 (by first | rfl | decide +kernel) (by first | rfl | decide +kernel)
set_option maxRecDepth 20000 in
theorem tw_517 : (Cond.methodLink RL (67 : Nat) yX4_inverse) ∈ tg := tg_at 551 (by first | rfl | decide +kernel) (by first | rfl | decide +kernel)
set_option maxRecDepth 20000 in
theorem tw_518 : (Cond.instanceMethod yX4_inverse) ∈ tg := tg_at 552 (by first | rfl | decide +kernel) (by first | rfl | decide +kernel)
set_option maxRecDepth 20000 in
theorem tw_519 : (Cond.selects RX4 yX4_inverse yX4_inverse) ∈ tg := tg_at 553 (by first | rfl | decide +kernel) (by first | rfl | decide +kernel)
set_option maxRecDepth 20000 in
theorem tw_520 : (Cond.code yX4_inverse cX4_inverse (2 : Nat) (Option.some FieldType.int)) ∈ tg := tg_at 554 (by first | rfl | decide +kernel) (by first | rfl | decide +kernel)
set_option maxRecDepth 20000 in
theorem tw_521 : (Cond.methodLink RL (71 : Nat) yX4_negated) ∈ tg := tg_at 555 (by first | rfl | decide +kernel) (by first | rfl | decide +kernel)
set_option maxRecDepth 20000 in
theorem tw_522 : (Cond.instanceMethod yX4_negated) ∈ tg := tg_at 556 (by first | rfl | decide +kernel) (by first | rfl | decide +kernel)
set_option maxRecDepth 20000 in
theorem tw_523 : (Cond.selects RX4 yX4_negated yX4_negated) ∈ tg := tg_at 557 (by first | rfl | decide +kernel) (by first | rfl | decide +kernel)
set_option maxRecDepth 20000 in
theorem tw_524 : (Cond.code yX4_negated cX4_negated (3 : Nat) (Option.some FieldType.int)) ∈ tg := tg_at 558 (by first | rfl | decide +kernel) (by first | rfl | decide +kernel)
set_option maxRecDepth 20000 in
theorem tw_525 : (Cond.methodLink RL (31 : Nat) yX4_from) ∈ tg := tg_at 559 (by first | rfl | decide +kernel) (by first | rfl | decide +kernel)
set_option maxRecDepth 20000 in
theorem tw_526 : (Cond.instanceMethod yX4_from) ∈ tg := tg_at 560 (by first | rfl | decide +kernel) (by first | rfl | decide +kernel)
set_option maxRecDepth 20000 in
theorem tw_527 : (Cond.selects RX4 yX4_from yX4_from) ∈ tg := tg_at 561 (by first | rfl | decide +kernel) (by first | rfl | decide +kernel)
set_option maxRecDepth 20000 in
theorem tw_528 : (Cond.code yX4_from cX4_from (4 : Nat) (Option.some FieldType.int)) ∈ tg := tg_at 562 (by first | rfl | decide +kernel) (by first | rfl | decide +kernel)
set_option maxRecDepth 20000 in
theorem tw_529 : (Cond.methodLink RL (48 : Nat) yX4_steps) ∈ tg := tg_at 563 (by first | rfl | decide +kernel) (by first | rfl | decide +kernel)
set_option maxRecDepth 20000 in
theorem tw_530 : (Cond.instanceMethod yX4_steps) ∈ tg := tg_at 564 (by first | rfl | decide +kernel) (by first | rfl | decide +kernel)
set_option maxRecDepth 20000 in
theorem tw_531 : (Cond.selects RX4 yX4_steps yX4_steps) ∈ tg := tg_at 565 (by first | rfl | decide +kernel) (by first | rfl | decide +kernel)
set_option maxRecDepth 20000 in
theorem tw_532 : (Cond.code yX4_steps cX4_steps (2 : Nat) (Option.some FieldType.int)) ∈ tg := tg_at 566 (by first | rfl | decide +kernel) (by first | rfl | decide +kernel)
set_option maxRecDepth 20000 in
theorem tw_533 : (Cond.methodLink RL (35 : Nat) yX4_run) ∈ tg := tg_at 567 (by first | rfl | decide +kernel) (by first | rfl | decide +kernel)
set_option maxRecDepth 20000 in
theorem tw_534 : (Cond.instanceMethod yX4_run) ∈ tg := tg_at 568 (by first | rfl | decide +kernel) (by first | rfl | decide +kernel)
set_option maxRecDepth 20000 in
theorem tw_535 : (Cond.selects RX4 yX4_run yX4_run) ∈ tg := tg_at 569 (by first | rfl | decide +kernel) (by first | rfl | decide +kernel)
set_option maxRecDepth 20000 in
theorem tw_536 : (Cond.code yX4_run cX4_run (11 : Nat) (Option.some FieldType.int)) ∈ tg := tg_at 570 (by first | rfl | decide +kernel) (by first | rfl | decide +kernel)
set_option maxRecDepth 20000 in
theorem tw_537 : (Cond.methodLink RX4 (123 : Nat) yX4_isEnd) ∈ tg := tg_at 571 (by first | rfl | decide +kernel) (by first | rfl | decide +kernel)
set_option maxRecDepth 20000 in
theorem tw_538 : (Cond.static yX4_isEnd) ∈ tg := tg_at 572 (by first | rfl | decide +kernel) (by first | rfl | decide +kernel)
set_option maxRecDepth 20000 in
theorem tw_539 : (Cond.code yX4_isEnd cX4_isEnd (1 : Nat) (Option.some FieldType.boolean)) ∈ tg := tg_at 573 (by first | rfl | decide +kernel) (by first | rfl | decide +kernel)
set_option maxRecDepth 20000 in
theorem tw_540 : (Cond.methodLink RX4 (126 : Nat) yX4_prepare) ∈ tg := tg_at 574 (by first | rfl | decide +kernel) (by first | rfl | decide +kernel)
set_option maxRecDepth 20000 in
theorem tw_542 : (Cond.instanceMethod yX4_prepare) ∈ tg := tg_at 576 (by first | rfl | decide +kernel) (by first | rfl | decide +kernel)
set_option maxRecDepth 20000 in
theorem tw_543 : (Cond.code yX4_prepare cX4_prepare (7 : Nat) (Option.some FieldType.int)) ∈ tg := tg_at 577 (by first | rfl | decide +kernel) (by first | rfl | decide +kernel)
set_option maxRecDepth 20000 in
theorem tw_544 : (Cond.methodLink RX4 (110 : Nat) yX4_findNeeded) ∈ tg := tg_at 578 (by first | rfl | decide +kernel) (by first | rfl | decide +kernel)
set_option maxRecDepth 20000 in
theorem tw_546 : (Cond.instanceMethod yX4_findNeeded) ∈ tg := tg_at 580 (by first | rfl | decide +kernel) (by first | rfl | decide +kernel)
set_option maxRecDepth 20000 in
theorem tw_547 : (Cond.code yX4_findNeeded cX4_findNeeded (3 : Nat) (Option.none : Option FieldType)) ∈ tg := tg_at 581 (by first | rfl | decide +kernel) (by first | rfl | decide +kernel)
set_option maxRecDepth 20000 in
theorem tw_548 : (Cond.methodLink RX4 (113 : Nat) yX4_findGraph) ∈ tg := tg_at 582 (by first | rfl | decide +kernel) (by first | rfl | decide +kernel)
set_option maxRecDepth 20000 in
theorem tw_550 : (Cond.instanceMethod yX4_findGraph) ∈ tg := tg_at 584 (by first | rfl | decide +kernel) (by first | rfl | decide +kernel)
set_option maxRecDepth 20000 in
theorem tw_551 : (Cond.code yX4_findGraph cX4_findGraph (4 : Nat) (Option.none : Option FieldType)) ∈ tg := tg_at 585 (by first | rfl | decide +kernel) (by first | rfl | decide +kernel)
set_option maxRecDepth 20000 in
theorem tw_552 : (Cond.methodLink RX4 (116 : Nat) yX4_makeTable) ∈ tg := tg_at 586 (by first | rfl | decide +kernel) (by first | rfl | decide +kernel)
set_option maxRecDepth 20000 in
theorem tw_554 : (Cond.instanceMethod yX4_makeTable) ∈ tg := tg_at 588 (by first | rfl | decide +kernel) (by first | rfl | decide +kernel)
set_option maxRecDepth 20000 in
theorem tw_555 : (Cond.code yX4_makeTable cX4_makeTable (4 : Nat) (Option.none : Option FieldType)) ∈ tg := tg_at 589 (by first | rfl | decide +kernel) (by first | rfl | decide +kernel)
set_option maxRecDepth 20000 in
theorem tw_556 : (Cond.methodLink RX4 (99 : Nat) yX4_makeLinks) ∈ tg := tg_at 590 (by first | rfl | decide +kernel) (by first | rfl | decide +kernel)
set_option maxRecDepth 20000 in
theorem tw_558 : (Cond.instanceMethod yX4_makeLinks) ∈ tg := tg_at 592 (by first | rfl | decide +kernel) (by first | rfl | decide +kernel)
set_option maxRecDepth 20000 in
theorem tw_559 : (Cond.code yX4_makeLinks cX4_makeLinks (5 : Nat) (Option.none : Option FieldType)) ∈ tg := tg_at 593 (by first | rfl | decide +kernel) (by first | rfl | decide +kernel)
set_option maxRecDepth 20000 in
theorem tw_560 : (Cond.methodLink RX4 (84 : Nat) yX4_cell) ∈ tg := tg_at 594 (by first | rfl | decide +kernel) (by first | rfl | decide +kernel)
set_option maxRecDepth 20000 in
theorem tw_562 : (Cond.instanceMethod yX4_cell) ∈ tg := tg_at 596 (by first | rfl | decide +kernel) (by first | rfl | decide +kernel)
set_option maxRecDepth 20000 in
theorem tw_563 : (Cond.code yX4_cell cX4_cell (4 : Nat) (Option.some FieldType.int)) ∈ tg := tg_at 597 (by first | rfl | decide +kernel) (by first | rfl | decide +kernel)
set_option maxRecDepth 20000 in
theorem tw_564 : (Cond.methodLink RX4 (87 : Nat) yX4_put) ∈ tg := tg_at 598 (by first | rfl | decide +kernel) (by first | rfl | decide +kernel)
set_option maxRecDepth 20000 in
theorem tw_566 : (Cond.instanceMethod yX4_put) ∈ tg := tg_at 600 (by first | rfl | decide +kernel) (by first | rfl | decide +kernel)
set_option maxRecDepth 20000 in
theorem tw_567 : (Cond.code yX4_put cX4_put (6 : Nat) (Option.none : Option FieldType)) ∈ tg := tg_at 601 (by first | rfl | decide +kernel) (by first | rfl | decide +kernel)
set_option maxRecDepth 20000 in
theorem tw_568 : (Cond.constantLong RX4 (82 : Nat) (1000000 : Int64)) ∈ tg := tg_at 602 (by first | rfl | decide +kernel) (by first | rfl | decide +kernel)
set_option maxRecDepth 20000 in
theorem tw_569 : (Cond.methodLink RX4 (103 : Nat) yX4_makeWalks) ∈ tg := tg_at 603 (by first | rfl | decide +kernel) (by first | rfl | decide +kernel)
set_option maxRecDepth 20000 in
theorem tw_571 : (Cond.instanceMethod yX4_makeWalks) ∈ tg := tg_at 605 (by first | rfl | decide +kernel) (by first | rfl | decide +kernel)
set_option maxRecDepth 20000 in
theorem tw_572 : (Cond.code yX4_makeWalks cX4_makeWalks (6 : Nat) (Option.none : Option FieldType)) ∈ tg := tg_at 606 (by first | rfl | decide +kernel) (by first | rfl | decide +kernel)
set_option maxRecDepth 20000 in
theorem tw_573 : (Cond.methodLink RX4 (91 : Nat) yX4_walk) ∈ tg := tg_at 607 (by first | rfl | decide +kernel) (by first | rfl | decide +kernel)
set_option maxRecDepth 20000 in
theorem tw_575 : (Cond.instanceMethod yX4_walk) ∈ tg := tg_at 609 (by first | rfl | decide +kernel) (by first | rfl | decide +kernel)
set_option maxRecDepth 20000 in
theorem tw_576 : (Cond.code yX4_walk cX4_walk (7 : Nat) (Option.none : Option FieldType)) ∈ tg := tg_at 610 (by first | rfl | decide +kernel) (by first | rfl | decide +kernel)
set_option maxRecDepth 20000 in
theorem tw_577 : (Cond.methodLink RX4 (106 : Nat) yX4_joined) ∈ tg := tg_at 611 (by first | rfl | decide +kernel) (by first | rfl | decide +kernel)
set_option maxRecDepth 20000 in
theorem tw_579 : (Cond.instanceMethod yX4_joined) ∈ tg := tg_at 613 (by first | rfl | decide +kernel) (by first | rfl | decide +kernel)
set_option maxRecDepth 20000 in
theorem tw_580 : (Cond.code yX4_joined cX4_joined (9 : Nat) (Option.some FieldType.long)) ∈ tg := tg_at 614 (by first | rfl | decide +kernel) (by first | rfl | decide +kernel)
set_option maxRecDepth 20000 in
theorem tw_581 : (Cond.methodLink RX4 (119 : Nat) yX4_fits) ∈ tg := tg_at 615 (by first | rfl | decide +kernel) (by first | rfl | decide +kernel)
set_option maxRecDepth 20000 in
theorem tw_582 : (Cond.static yX4_fits) ∈ tg := tg_at 616 (by first | rfl | decide +kernel) (by first | rfl | decide +kernel)
set_option maxRecDepth 20000 in
theorem tw_583 : (Cond.code yX4_fits cX4_fits (4 : Nat) (Option.some FieldType.boolean)) ∈ tg := tg_at 617 (by first | rfl | decide +kernel) (by first | rfl | decide +kernel)
set_option maxRecDepth 20000 in
theorem tw_584 : (Cond.methodLink RL (44 : Nat) yX4_plain) ∈ tg := tg_at 618 (by first | rfl | decide +kernel) (by first | rfl | decide +kernel)
set_option maxRecDepth 20000 in
theorem tw_585 : (Cond.instanceMethod yX4_plain) ∈ tg := tg_at 619 (by first | rfl | decide +kernel) (by first | rfl | decide +kernel)
set_option maxRecDepth 20000 in
theorem tw_586 : (Cond.selects RX4 yX4_plain yX4_plain) ∈ tg := tg_at 620 (by first | rfl | decide +kernel) (by first | rfl | decide +kernel)
set_option maxRecDepth 20000 in
theorem tw_587 : (Cond.code yX4_plain cX4_plain (4 : Nat) (Option.some FieldType.int)) ∈ tg := tg_at 621 (by first | rfl | decide +kernel) (by first | rfl | decide +kernel)
set_option maxRecDepth 20000 in
theorem tw_588 : (Cond.methodLink RL (40 : Nat) yX4_at) ∈ tg := tg_at 622 (by first | rfl | decide +kernel) (by first | rfl | decide +kernel)
set_option maxRecDepth 20000 in
theorem tw_589 : (Cond.instanceMethod yX4_at) ∈ tg := tg_at 623 (by first | rfl | decide +kernel) (by first | rfl | decide +kernel)
set_option maxRecDepth 20000 in
theorem tw_590 : (Cond.selects RX4 yX4_at yX4_at) ∈ tg := tg_at 624 (by first | rfl | decide +kernel) (by first | rfl | decide +kernel)
set_option maxRecDepth 20000 in
theorem tw_591 : (Cond.code yX4_at cX4_at (3 : Nat) (Option.some FieldType.int)) ∈ tg := tg_at 625 (by first | rfl | decide +kernel) (by first | rfl | decide +kernel)
set_option maxRecDepth 20000 in
theorem tw_592 : (Cond.methodLink RX4 (135 : Nat) yX4_isRow) ∈ tg := tg_at 626 (by first | rfl | decide +kernel) (by first | rfl | decide +kernel)
set_option maxRecDepth 20000 in
theorem tw_594 : (Cond.instanceMethod yX4_isRow) ∈ tg := tg_at 628 (by first | rfl | decide +kernel) (by first | rfl | decide +kernel)
set_option maxRecDepth 20000 in
theorem tw_595 : (Cond.code yX4_isRow cX4_isRow (2 : Nat) (Option.some FieldType.boolean)) ∈ tg := tg_at 629 (by first | rfl | decide +kernel) (by first | rfl | decide +kernel)
set_option maxRecDepth 20000 in
theorem tw_596 : (Cond.methodLink RL (53 : Nat) yX4_cycle) ∈ tg := tg_at 630 (by first | rfl | decide +kernel) (by first | rfl | decide +kernel)
set_option maxRecDepth 20000 in
theorem tw_597 : (Cond.instanceMethod yX4_cycle) ∈ tg := tg_at 631 (by first | rfl | decide +kernel) (by first | rfl | decide +kernel)
set_option maxRecDepth 20000 in
theorem tw_598 : (Cond.selects RX4 yX4_cycle yX4_cycle) ∈ tg := tg_at 632 (by first | rfl | decide +kernel) (by first | rfl | decide +kernel)
set_option maxRecDepth 20000 in
theorem tw_599 : (Cond.code yX4_cycle cX4_cycle (2 : Nat) (Option.some FieldType.boolean)) ∈ tg := tg_at 633 (by first | rfl | decide +kernel) (by first | rfl | decide +kernel)
set_option maxRecDepth 20000 in
theorem tw_600 : (Cond.methodLink RL (59 : Nat) yX4_depth) ∈ tg := tg_at 634 (by first | rfl | decide +kernel) (by first | rfl | decide +kernel)
set_option maxRecDepth 20000 in
theorem tw_601 : (Cond.instanceMethod yX4_depth) ∈ tg := tg_at 635 (by first | rfl | decide +kernel) (by first | rfl | decide +kernel)
set_option maxRecDepth 20000 in
theorem tw_602 : (Cond.selects RX4 yX4_depth yX4_depth) ∈ tg := tg_at 636 (by first | rfl | decide +kernel) (by first | rfl | decide +kernel)
set_option maxRecDepth 20000 in
theorem tw_603 : (Cond.code yX4_depth cX4_depth (2 : Nat) (Option.some FieldType.int)) ∈ tg := tg_at 637 (by first | rfl | decide +kernel) (by first | rfl | decide +kernel)
set_option maxRecDepth 20000 in
theorem tw_604 : (Cond.arrayClass FieldType.long) ∈ tg := tg_at 638 (by first | rfl | decide +kernel) (by first | rfl | decide +kernel)
set_option maxRecDepth 20000 in
theorem tw_605 : (Cond.sameMethod "java/lang/Throwable" "java/lang/Throwable" "fillInStackTrace" "(I)Ljava/lang/Throwable;") ∈ tg := tg_at 639 (by first | rfl | decide +kernel) (by first | rfl | decide +kernel)
theorem tp_0 : Cond.selects RX3 yX3_keepPath yX3_keepPath ∈ tg := tg_at 0 (by first | rfl | decide +kernel) (by first | rfl | decide +kernel)
theorem tp_1 : Cond.selects RX3 yX3_known yX3_known ∈ tg := tg_at 1 (by first | rfl | decide +kernel) (by first | rfl | decide +kernel)
theorem tp_2 : Cond.selects RX3 yX3_keepOverTwo yX3_keepOverTwo ∈ tg := tg_at 2 (by first | rfl | decide +kernel) (by first | rfl | decide +kernel)
theorem tp_3 : Cond.selects RX3 yX3_keepOverOne yX3_keepOverOne ∈ tg := tg_at 3 (by first | rfl | decide +kernel) (by first | rfl | decide +kernel)
theorem tp_4 : Cond.selects RX3 yX3_countParts yX3_countParts ∈ tg := tg_at 4 (by first | rfl | decide +kernel) (by first | rfl | decide +kernel)
theorem tp_5 : Cond.selects RX0 yX0_forget yX0_forget ∈ tg := tg_at 5 (by first | rfl | decide +kernel) (by first | rfl | decide +kernel)
theorem tp_6 : Cond.selects RX0 yX0_countLinks yX0_countLinks ∈ tg := tg_at 6 (by first | rfl | decide +kernel) (by first | rfl | decide +kernel)
theorem tp_7 : Cond.selects RX0 yX0_addTimes yX0_addTimes ∈ tg := tg_at 7 (by first | rfl | decide +kernel) (by first | rfl | decide +kernel)
theorem tp_8 : Cond.selects RX0 yX0_countOverOne yX0_countOverOne ∈ tg := tg_at 8 (by first | rfl | decide +kernel) (by first | rfl | decide +kernel)
theorem tp_9 : Cond.selects RX0 yX0_countTurned yX0_countTurned ∈ tg := tg_at 9 (by first | rfl | decide +kernel) (by first | rfl | decide +kernel)
theorem tp_10 : Cond.selects RX0 yX0_joinByStep yX0_joinByStep ∈ tg := tg_at 10 (by first | rfl | decide +kernel) (by first | rfl | decide +kernel)
theorem tp_11 : Cond.selects RX0 yX0_joinOnwards yX0_joinOnwards ∈ tg := tg_at 11 (by first | rfl | decide +kernel) (by first | rfl | decide +kernel)
theorem tp_12 : Cond.selects RX0 yX0_joinSelves yX0_joinSelves ∈ tg := tg_at 12 (by first | rfl | decide +kernel) (by first | rfl | decide +kernel)
theorem tp_13 : Cond.selects RX0 yX0_countJoinedOnce yX0_countJoinedOnce ∈ tg := tg_at 13 (by first | rfl | decide +kernel) (by first | rfl | decide +kernel)
theorem tp_14 : Cond.selects RX0 yX0_countOverTwo yX0_countOverTwo ∈ tg := tg_at 14 (by first | rfl | decide +kernel) (by first | rfl | decide +kernel)
theorem tp_15 : Cond.selects RX0 yX0_countAll yX0_countAll ∈ tg := tg_at 15 (by first | rfl | decide +kernel) (by first | rfl | decide +kernel)
theorem tp_16 : Cond.selects RX0 yX0_countBehind yX0_countBehind ∈ tg := tg_at 16 (by first | rfl | decide +kernel) (by first | rfl | decide +kernel)
theorem tp_17 : Cond.selects RX0 yX0_addBehind yX0_addBehind ∈ tg := tg_at 17 (by first | rfl | decide +kernel) (by first | rfl | decide +kernel)
theorem tp_18 : Cond.selects RX3 yX3_goesBeyond yX3_goesBeyond ∈ tg := tg_at 18 (by first | rfl | decide +kernel) (by first | rfl | decide +kernel)
theorem tp_19 : Cond.selects RX3 yX3_keepRows yX3_keepRows ∈ tg := tg_at 19 (by first | rfl | decide +kernel) (by first | rfl | decide +kernel)
theorem tp_20 : Cond.selects "java/lang/Throwable" (⟨"java/lang/Throwable", "fillInStackTrace", "(I)Ljava/lang/Throwable;"⟩ : MethodName) (⟨"java/lang/Throwable", "fillInStackTrace", "(I)Ljava/lang/Throwable;"⟩ : MethodName) ∈ tg := tg_at 20 (by first | rfl | decide +kernel) (by first | rfl | decide +kernel)
theorem tp_21 : Cond.selects RX4 yX4_isPath yX4_isPath ∈ tg := tg_at 21 (by first | rfl | decide +kernel) (by first | rfl | decide +kernel)
theorem tp_22 : Cond.selects RX4 yX4_made yX4_made ∈ tg := tg_at 22 (by first | rfl | decide +kernel) (by first | rfl | decide +kernel)
theorem tp_23 : Cond.selects RX4 yX4_prepare yX4_prepare ∈ tg := tg_at 23 (by first | rfl | decide +kernel) (by first | rfl | decide +kernel)
theorem tp_24 : Cond.selects RX4 yX4_findNeeded yX4_findNeeded ∈ tg := tg_at 24 (by first | rfl | decide +kernel) (by first | rfl | decide +kernel)
theorem tp_25 : Cond.selects RX4 yX4_findGraph yX4_findGraph ∈ tg := tg_at 25 (by first | rfl | decide +kernel) (by first | rfl | decide +kernel)
theorem tp_26 : Cond.selects RX4 yX4_makeTable yX4_makeTable ∈ tg := tg_at 26 (by first | rfl | decide +kernel) (by first | rfl | decide +kernel)
theorem tp_27 : Cond.selects RX4 yX4_makeLinks yX4_makeLinks ∈ tg := tg_at 27 (by first | rfl | decide +kernel) (by first | rfl | decide +kernel)
theorem tp_28 : Cond.selects RX4 yX4_cell yX4_cell ∈ tg := tg_at 28 (by first | rfl | decide +kernel) (by first | rfl | decide +kernel)
theorem tp_29 : Cond.selects RX4 yX4_put yX4_put ∈ tg := tg_at 29 (by first | rfl | decide +kernel) (by first | rfl | decide +kernel)
theorem tp_30 : Cond.selects RX4 yX4_makeWalks yX4_makeWalks ∈ tg := tg_at 30 (by first | rfl | decide +kernel) (by first | rfl | decide +kernel)
theorem tp_31 : Cond.selects RX4 yX4_walk yX4_walk ∈ tg := tg_at 31 (by first | rfl | decide +kernel) (by first | rfl | decide +kernel)
theorem tp_32 : Cond.selects RX4 yX4_joined yX4_joined ∈ tg := tg_at 32 (by first | rfl | decide +kernel) (by first | rfl | decide +kernel)
theorem tp_33 : Cond.selects RX4 yX4_isRow yX4_isRow ∈ tg := tg_at 33 (by first | rfl | decide +kernel) (by first | rfl | decide +kernel)
end
section
/-! MY OWN WORLD: a map from addresses to contents (no list, no places): what a cell holds is 'w a = some e'; a store is wd_up; every contract speaks of the whole map, so no frame rule is wanted. s0: the heap's size at the law's entry; all that is written lies from s0 on. -/
abbrev wd_M : Type := Nat → Option va_E
def wd_up (w : wd_M) (a : Nat) (e : va_E) : wd_M := fun b => if b = a then some e else w b
theorem wd_us {w : wd_M} {a : Nat} {e : va_E} : wd_up w a e a = some e := if_pos rfl
theorem wd_un {w : wd_M} {a b : Nat} {e : va_E} (h : b ≠ a) : wd_up w a e b = w b := if_neg h
theorem wd_uu {w : wd_M} {a : Nat} {e e' : va_E} : wd_up (wd_up w a e) a e' = wd_up w a e' := by
  funext b
  unfold wd_up
  by_cases h : b = a <;> simp [h]
theorem wd_self {w : wd_M} {a : Nat} {e : va_E} (h : w a = some e) : wd_up w a e = w := by
  funext b
  unfold wd_up
  by_cases hb : b = a
  · rw [if_pos hb, hb, h]
  · rw [if_neg hb]
def wd_P (D : va_G) (cl : List vw_C) (w : wd_M) (H : Heap) : Prop := ∀ (a : Nat) (e : va_E), w a = some e → va_at D cl (a, e) H
theorem wd_P.lt {D : va_G} {cl : List vw_C} {w : wd_M} {H : Heap} (h : wd_P D cl w H) {a : Nat} {e : va_E} (ha : w a = some e) : a < H.size := (h a e ha).lt
theorem wd_P.fresh {D : va_G} {cl : List vw_C} {w : wd_M} {H : Heap} (h : wd_P D cl w H) {a : Nat} (ha : H.size ≤ a) : w a = none := by
  cases hw : w a with
  | none => rfl
  | some e => exact absurd (h.lt hw) (by omega)
theorem wd_P.set {D : va_G} {cl : List vw_C} {w : wd_M} {H H1 : Heap} {a : Nat} {e : va_E} (h : wd_P D cl w H) (ha : va_at D cl (a, e) H1) (oq : ∀ q : Nat, q ≠ a → H1[q]? = H[q]?) : wd_P D cl (wd_up w a e) H1 := by
  intro b x hb
  by_cases hq : b = a
  · subst hq
    rw [wd_us] at hb
    cases hb
    exact ha
  · rw [wd_un hq] at hb
    exact (h b x hb).kept (oq b hq)
theorem wd_P.push {D : va_G} {cl : List vw_C} {w : wd_M} {H H1 : Heap} {e : va_E} (h : wd_P D cl w H) (ha : va_at D cl (H.size, e) H1) (oq : ∀ q : Nat, q < H.size → H1[q]? = H[q]?) : wd_P D cl (wd_up w H.size e) H1 := by
  intro b x hb
  by_cases hq : b = H.size
  · subst hq
    rw [wd_us] at hb
    cases hb
    exact ha
  · rw [wd_un hq] at hb
    exact (h b x hb).kept (oq b (h.lt hb))
/-- the cells a map holds, as the kit's list of one -/
theorem wd_P.one {D : va_G} {cl : List vw_C} {w : wd_M} {H : Heap} (h : wd_P D cl w H) {a : Nat} {e : va_E} (ha : w a = some e) : va_P D cl [(a, e)] H := by
  intro k q hk
  cases k with
  | zero => cases hk; exact h a e ha
  | succ k => simp at hk
def wd_L (s0 : Nat) (H0 H : Heap) (locs : List Loc) : Prop := s0 ≤ H0.size ∧ va_S (fun q => s0 ≤ q) H0 H locs
abbrev wd_iA (cI : ClassId) (n : Nat) (f : Nat → Int32) : va_E := .inl (cI, n, .inl f)
abbrev wd_lA (cI : ClassId) (n : Nat) (f : Nat → Int64) : va_E := .inl (cI, n, .inr (.inl f))
abbrev wd_qA (cI : ClassId) (n : Nat) (f : Nat → Option Nat) : va_E := .inl (cI, n, .inr (.inr (.inr (.inr f))))
abbrev wd_ob (ci : Nat) (fs : List Value) : va_E := .inr (ci, fs)
section WDL
variable {p : Program} {l : Launch} {e : Env} {R : Room} {s : State} {m : MethodId} {args : Array Value} {below : List Frame} {meth : Method} {c : Code} {H : Heap} {locs : List Loc} {cells slots : Nat} {Q : State → Prop}
variable {cc : ByteArray} {pc : Nat} {ls : Array Slot} {rest : List Value} {D : va_G} {cl : List vw_C} {a s0 : Nat} {tys : List (ClassId × FieldType)} {w : wd_M} {H0 : Heap}
theorem wd_get (hexec : p.tables.exec = Jvm.exec) (hb : c.code = cc) {own ref C : String} {T : u_T} {N ci index : Nat} {Ts : List Cond} (hts : ∀ w ∈ Ts, w.before args s = true) (hin : ∀ w ∈ u_ws C T N, w ∈ Ts) (hown : s.vm.findClass own = some m.cls) (hK : va_K D cl tys s) (hP : wd_P D cl w H) {fs : List Value} (he : w a = some (.inr (ci, fs))) (hc : cl[ci]? = some (C, T, N)) (k : Nat) (hk : k < N) (hlink : (Cond.fieldLink own index ref (T k).2.1 (T k).2.2.1).before args s = true) (hsame : ∀ x, s.fieldFound? (T k).1 (T k).2.1 (T k).2.2.1 = some x → s.fieldFound? ref (T k).2.1 (T k).2.2.1 = some x) {v : Value} (hv : fs[k]? = some v) (hdg : decode cc pc = .ok (.getfield index, 3))
    (kk : W p l e R s m args below meth c H locs cells slots Q (F0 m (pc + 3) ls (v :: rest))) : W p l e R s m args below meth c H locs cells slots Q (F0 m pc ls (.ref a :: rest)) :=
  va_get hexec hb hts hin hown hK (hP.one he) 0 rfl hc k hk hlink hsame hv hdg kk
theorem wd_put (hexec : p.tables.exec = Jvm.exec) (hb : c.code = cc) {own ref C : String} {T : u_T} {N ci index : Nat} {Ts : List Cond} (hts : ∀ w ∈ Ts, w.before args s = true) (hin : ∀ w ∈ u_ws C T N, w ∈ Ts) (ty0 : Nat → FieldType) (hty : ∀ k, k < N → parseFieldDescriptor (T k).2.2.1 = some (ty0 k)) (hnm : ∀ a, a < N → ∀ b, b < N → a ≠ b → (T a).2.1 ≠ (T b).2.1) (hown : s.vm.findClass own = some m.cls) (hK : va_K D cl tys s) (hP : wd_P D cl w H) (hS0 : va_S (fun q => s0 ≤ q) H0 H locs) (ha0 : s0 ≤ a) {fs : List Value} (he : w a = some (.inr (ci, fs))) (hc : cl[ci]? = some (C, T, N)) (k : Nat) (hk : k < N) (hlink : (Cond.fieldLink own index ref (T k).2.1 (T k).2.2.1).before args s = true) (hsame : ∀ x, s.fieldFound? (T k).1 (T k).2.1 (T k).2.2.1 = some x → s.fieldFound? ref (T k).2.1 (T k).2.2.1 = some x) (hfin : (T k).2.2.2 = false) {ty : FieldType} {v : Value} (hd : parseFieldDescriptor (T k).2.2.1 = some ty) (hn : narrow ty v = v) (hfit : fits ty v = true) (hl : k < fs.length)
    (hdg : decode cc pc = .ok (.putfield index, 3)) (kk : ∀ (H1 : Heap) (locs1 : List Loc), wd_P D cl (wd_up w a (.inr (ci, fs.set k v))) H1 → va_S (fun q => s0 ≤ q) H0 H1 locs1 → H1.size = H.size → W p l e R s m args below meth c H1 locs1 cells slots Q (F0 m (pc + 3) ls rest)) : W p l e R s m args below meth c H locs cells slots Q (F0 m pc ls (v :: .ref a :: rest)) := by
  have hap := va_apart (own := own) hts hin ty0 hty hnm hK hc
  obtain ⟨r, h1, cell, q1, q2, q3, q4⟩ := hP a _ he
  have hr : r = (C, T, N) := Option.some.inj (h1.symm.trans hc)
  subst hr
  obtain ⟨hS, hfc, kC, hkC, hkind⟩ := hK.1 ci _ hc
  obtain ⟨cf, kf, fi, f, hi, hsl⟩ := hS k hk
  have hlay := hts _ (hin _ (u_in_lay hk))
  unfold u_lay at hlay
  rw [if_neg (by rw [hfin]; decide)] at hlay
  have hst := (u_facts hfc hkC (u_lays hts hin hk) hi).1
  have h6 := u_store hfc hkC hkind hlay hi hd hn hfit
  refine W.putK hexec hb (f := f) ⟨hown, hlink, ⟨_, _, _, hsame _ hi⟩, hst⟩ (by rw [q2]; exact h6) q1 q3 (by rw [hsl]; exact k2_hasslot (q4 k hk)) rfl rfl hdg fun H' e1 e2 e3 => ?_
  rw [hsl] at e1 ⊢
  exact kk H' _ (hP.set ⟨_, hc, t_OB.to (V := updV (vp_V fs) k v) ⟨_, e1, q2, q3, t_set q4 hap hk v⟩ (fun j _ => vp_updV_set hl v j)⟩ e3) (hS0.put e2 e3 ha0) e2
theorem wd_putF (hexec : p.tables.exec = Jvm.exec) (hb : c.code = cc) {own ref C : String} {T : u_T} {N ci index : Nat} {Ts : List Cond} (hts : ∀ w ∈ Ts, w.before args s = true) (hin : ∀ w ∈ u_ws C T N, w ∈ Ts) (ty0 : Nat → FieldType) (hty : ∀ k, k < N → parseFieldDescriptor (T k).2.2.1 = some (ty0 k)) (hnm : ∀ a, a < N → ∀ b, b < N → a ≠ b → (T a).2.1 ≠ (T b).2.1) (hown : s.vm.findClass own = some m.cls) (hK : va_K D cl tys s) (hP : wd_P D cl w H) (hS0 : va_S (fun q => s0 ≤ q) H0 H locs) (ha0 : s0 ≤ a) {fs : List Value} (he : w a = some (.inr (ci, fs))) (hc : cl[ci]? = some (C, T, N)) (k : Nat) (hk : k < N) (hlink : (Cond.fieldLink own index ref (T k).2.1 (T k).2.2.1).before args s = true) (hsame : ∀ x, s.fieldFound? (T k).1 (T k).2.1 (T k).2.2.1 = some x → s.fieldFound? ref (T k).2.1 (T k).2.2.1 = some x) (hfin : (T k).2.2.2 = true) (hin2 : meth.name = "<init>") (hdecl : (T k).1 = own) {ty : FieldType} {v : Value} (hd : parseFieldDescriptor (T k).2.2.1 = some ty) (hn : narrow ty v = v) (hfit : fits ty v = true) (hl : k < fs.length)
    (hdg : decode cc pc = .ok (.putfield index, 3)) (kk : ∀ (H1 : Heap) (locs1 : List Loc), wd_P D cl (wd_up w a (.inr (ci, fs.set k v))) H1 → va_S (fun q => s0 ≤ q) H0 H1 locs1 → H1.size = H.size → W p l e R s m args below meth c H1 locs1 cells slots Q (F0 m (pc + 3) ls rest)) : W p l e R s m args below meth c H locs cells slots Q (F0 m pc ls (v :: .ref a :: rest)) := by
  have hap := va_apart (own := own) hts hin ty0 hty hnm hK hc
  obtain ⟨r, h1, cell, q1, q2, q3, q4⟩ := hP a _ he
  have hr : r = (C, T, N) := Option.some.inj (h1.symm.trans hc)
  subst hr
  obtain ⟨hS, hfc, kC, hkC, hkind⟩ := hK.1 ci _ hc
  obtain ⟨cf, kf, fi, f, hi, hsl⟩ := hS k hk
  have hlay := hts _ (hin _ (u_in_lay hk))
  unfold u_lay at hlay
  rw [if_pos hfin] at hlay
  have hst := (u_facts hfc hkC (u_lays hts hin hk) hi).1
  have hcf : m.cls = cf := by
    obtain ⟨_, _, c', _, _, _, -, -, hf', -, -, -, hown2, -⟩ := Cond.laysFinal_spec hlay
    have e1 : c' = cf := by have := hi.symm.trans hf'; simp at this; exact this.1.symm
    rw [hdecl] at hown2
    rw [← e1]; exact Option.some.inj (hown.symm.trans hown2)
  have h6 := u_fits hfc hkC hkind (Or.inr hlay) hi hd hn hfit
  refine W.putFinK hexec hb hown hlink (hsame _ hi) hst hcf hin2 (by rw [q2]; exact h6) q1 q3 (by rw [hsl]; exact k2_hasslot (q4 k hk)) rfl rfl hdg fun H' e1 e2 e3 => ?_
  rw [hsl] at e1 ⊢
  exact kk H' _ (hP.set ⟨_, hc, t_OB.to (V := updV (vp_V fs) k v) ⟨_, e1, q2, q3, t_set q4 hap hk v⟩ (fun j _ => vp_updV_set hl v j)⟩ e3) (hS0.put e2 e3 ha0) e2
theorem wd_iald (hexec : p.tables.exec = Jvm.exec) (hb : c.code = cc) (hK : va_K D cl tys s) (hP : wd_P D cl w H) (t0 : Nat) {cA : ClassId} {n : Nat} {f : Nat → Int32} (ha : w a = some (.inl (cA, n, .inl f))) (ht : tys[t0]? = some (cA, .int)) {i : Int32} (hin : vp_in i n) (hdg : decode cc pc = .ok (.iaload, 1))
    (kk : W p l e R s m args below meth c H locs cells slots Q (F0 m (pc + 1) ls (.int (f i.toNatClampNeg) :: rest))) : W p l e R s m args below meth c H locs cells slots Q (F0 m pc ls (.int i :: .ref a :: rest)) :=
  va_iald hexec hb hK (hP.one ha) 0 t0 rfl ht hin hdg kk
theorem wd_lald (hexec : p.tables.exec = Jvm.exec) (hb : c.code = cc) (hK : va_K D cl tys s) (hP : wd_P D cl w H) (t0 : Nat) {cA : ClassId} {n : Nat} {f : Nat → Int64} (ha : w a = some (.inl (cA, n, .inr (.inl f)))) (ht : tys[t0]? = some (cA, .long)) {i : Int32} (hin : vp_in i n) (hdg : decode cc pc = .ok (.laload, 1))
    (kk : W p l e R s m args below meth c H locs cells slots Q (F0 m (pc + 1) ls (.long (f i.toNatClampNeg) :: rest))) : W p l e R s m args below meth c H locs cells slots Q (F0 m pc ls (.int i :: .ref a :: rest)) :=
  va_lald hexec hb hK (hP.one ha) 0 t0 rfl ht hin hdg kk
theorem wd_aldq (hexec : p.tables.exec = Jvm.exec) (hb : c.code = cc) (hK : va_K D cl tys s) (hP : wd_P D cl w H) (t0 : Nat) {cA : ClassId} {C : String} {n : Nat} {f : Nat → Option Nat} (ha : w a = some (.inl (cA, n, .inr (.inr (.inr (.inr f)))))) (ht : tys[t0]? = some (cA, .object C)) {i : Int32} (hin : vp_in i n) (hdg : decode cc pc = .ok (.aaload, 1))
    (kk : W p l e R s m args below meth c H locs cells slots Q (F0 m (pc + 1) ls (va_rf (f i.toNatClampNeg) :: rest))) : W p l e R s m args below meth c H locs cells slots Q (F0 m pc ls (.int i :: .ref a :: rest)) :=
  va_aldq hexec hb hK (hP.one ha) 0 t0 rfl ht hin hdg kk
theorem wd_iast (hexec : p.tables.exec = Jvm.exec) (hb : c.code = cc) (hK : va_K D cl tys s) (hP : wd_P D cl w H) (hS : va_S (fun q => s0 ≤ q) H0 H locs) (ha0 : s0 ≤ a) (t0 : Nat) {cA : ClassId} {n : Nat} {f : Nat → Int32} (ha : w a = some (.inl (cA, n, .inl f))) (ht : tys[t0]? = some (cA, .int)) {i : Int32} {x : Int32} (hin : vp_in i n) (hdg : decode cc pc = .ok (.iastore, 1))
    (kk : ∀ (H1 : Heap) (locs1 : List Loc), wd_P D cl (wd_up w a (.inl (cA, n, .inl (upd f i.toNatClampNeg x)))) H1 → va_S (fun q => s0 ≤ q) H0 H1 locs1 → H1.size = H.size → W p l e R s m args below meth c H1 locs1 cells slots Q (F0 m (pc + 1) ls rest)) : W p l e R s m args below meth c H locs cells slots Q (F0 m pc ls (.int x :: .int i :: .ref a :: rest)) := by
  refine W.iast hexec hb (hP a _ ha) ((hK.2 t0 _ ht).1 n (fun j => .int (f j))) (fun q => by cases q) (by show ¬ (i < 0 ∨ (arrV _ _ _).slots.size ≤ _); rw [arrV_size]; exact hin) rfl rfl hdg fun H1 e z oq => ?_
  refine kk H1 _ (hP.set ?_ oq) (hS.put z oq ha0) z
  show H1[a]? = some (vp_cell _ _)
  rw [e]
  rw [vp_cell_i, vp_cell_i, arrV_store]
  congr 2
  funext q
  by_cases hq : q = i.toNatClampNeg
  · subst hq
    simp [updV, upd]
  · simp [updV, upd, hq]
theorem wd_last (hexec : p.tables.exec = Jvm.exec) (hb : c.code = cc) (hK : va_K D cl tys s) (hP : wd_P D cl w H) (hS : va_S (fun q => s0 ≤ q) H0 H locs) (ha0 : s0 ≤ a) (t0 : Nat) {cA : ClassId} {n : Nat} {f : Nat → Int64} (ha : w a = some (.inl (cA, n, .inr (.inl f)))) (ht : tys[t0]? = some (cA, .long)) {i : Int32} {x : Int64} (hin : vp_in i n) (hdg : decode cc pc = .ok (.lastore, 1))
    (kk : ∀ (H1 : Heap) (locs1 : List Loc), wd_P D cl (wd_up w a (.inl (cA, n, .inr (.inl (vp_updL f i.toNatClampNeg x))))) H1 → va_S (fun q => s0 ≤ q) H0 H1 locs1 → H1.size = H.size → W p l e R s m args below meth c H1 locs1 cells slots Q (F0 m (pc + 1) ls rest)) : W p l e R s m args below meth c H locs cells slots Q (F0 m pc ls (.long x :: .int i :: .ref a :: rest)) := by
  refine W.last hexec hb (hP a _ ha) ((hK.2 t0 _ ht).1 n (fun j => .long (f j))) (fun q => by cases q) (by show ¬ (i < 0 ∨ (arrV _ _ _).slots.size ≤ _); rw [arrV_size]; exact hin) rfl rfl hdg fun H1 e z oq => ?_
  refine kk H1 _ (hP.set ?_ oq) (hS.put z oq ha0) z
  show H1[a]? = some (vp_cell _ _)
  rw [e]
  rw [vp_cell_l, vp_cell_l, arrV_store]
  congr 2
  funext q
  by_cases hq : q = i.toNatClampNeg
  · subst hq
    simp [updV, vp_updL]
  · simp [updV, vp_updL, hq]
theorem wd_astq (hexec : p.tables.exec = Jvm.exec) (hb : c.code = cc) (hK : va_K D cl tys s) (hP : wd_P D cl w H) (hS : va_S (fun q => s0 ≤ q) H0 H locs) (ha0 : s0 ≤ a) (t0 ci : Nat) {cA : ClassId} {r : vw_C} {n v : Nat} {vs : List Value} {f : Nat → Option Nat} (ha : w a = some (.inl (cA, n, .inr (.inr (.inr (.inr f)))))) (ht : tys[t0]? = some (cA, .object r.1)) (hv : w v = some (.inr (ci, vs))) (hc : cl[ci]? = some r) {i : Int32} (hin : vp_in i n) (hdg : decode cc pc = .ok (.aastore, 1))
    (kk : ∀ (H1 : Heap) (locs1 : List Loc), wd_P D cl (wd_up w a (.inl (cA, n, .inr (.inr (.inr (.inr (va_up f i.toNatClampNeg (some v)))))))) H1 → va_S (fun q => s0 ≤ q) H0 H1 locs1 → H1.size = H.size → W p l e R s m args below meth c H1 locs1 cells slots Q (F0 m (pc + 1) ls rest)) : W p l e R s m args below meth c H locs cells slots Q (F0 m pc ls (.ref v :: .int i :: .ref a :: rest)) := by
  have hlt : i.toNatClampNeg < n := Nat.not_le.mp fun q => hin (Or.inr q)
  have h0 : ¬ i < 0 := fun q => hin (Or.inl q)
  obtain ⟨r', hr', cellV, g1, g2, g3, -⟩ := hP v _ hv
  have hcls := (hK.1 ci r hc).2
  obtain ⟨kA, comp, k1, k2, k3, -⟩ := (hK.2 t0 _ ht).2
  have hcomp : comp = D.1 ci := Option.some.inj (k3.symm.trans hcls.1)
  subst hcomp
  obtain ⟨kC, hkC, -⟩ := hcls.2
  refine W.aast hexec hb (hP a _ ha) (fun q h => by cases h) (fun h => by cases h) k1 k2 rfl hkC ⟨h0, by show _ < (arrV _ _ _).slots.size; rw [arrV_size]; exact hlt⟩ g1 (fun q h => by rw [g3] at h; cases h) (by rw [g2]; exact hkC) (by rw [g2]; exact va_assign hcls) rfl rfl hdg fun H1 e z oq => ?_
  refine kk H1 _ (hP.set ?_ oq) (hS.put z oq ha0) z
  show H1[a]? = some (vp_cell _ _)
  rw [e]
  rw [vp_cell_q, vp_cell_q, arrV_store]
  congr 2
  funext q
  by_cases hq : q = i.toNatClampNeg
  · subst hq
    simp [updV, va_up, va_rf]
  · simp [updV, va_up, hq]
theorem wd_alen (hexec : p.tables.exec = Jvm.exec) (hb : c.code = cc) (hK : va_K D cl tys s) (hP : wd_P D cl w H) (t0 : Nat) {cA : ClassId} {ty : FieldType} {n : Nat} {f : Nat → Int32} (ha : w a = some (.inl (cA, n, .inl f))) (ht : tys[t0]? = some (cA, .int)) (hdg : decode cc pc = .ok (.arraylength, 1))
    (kk : W p l e R s m args below meth c H locs cells slots Q (F0 m (pc + 1) ls (.int (nI n) :: rest))) : W p l e R s m args below meth c H locs cells slots Q (F0 m pc ls (.ref a :: rest)) := by
  refine W.alen (n := nI n) hexec hb (hP a _ ha) ((hK.2 t0 _ ht).1 n (fun j => .int (f j))) ?_ rfl rfl hdg kk
  show (arrV _ _ _).slots.size.toInt32 = _
  rw [arrV_size]
  rfl
theorem wd_new {c0 : Code} (hexec : p.tables.exec = Jvm.exec) (hb : c0.code = cc) {own C : String} {T : u_T} {N ci index : Nat} {Ts : List Cond} (hts : ∀ w ∈ Ts, w.before args s = true) (hin : ∀ w ∈ u_ws C T N, w ∈ Ts) (ty : Nat → FieldType) (hty : ∀ k, k < N → parseFieldDescriptor (T k).2.2.1 = some (ty k)) (hown : s.vm.findClass own = some m.cls) (hcl : (Cond.classLink own index C).before args s = true) (hinst : (Cond.instantiable C N).before args s = true) (hini : (Cond.initialized C).before args s = true)
    (hK : va_K D cl tys s) (hP : wd_P D cl w H) (hS : va_S (fun q => s0 ≤ q) H0 H locs) (hc : cl[ci]? = some (C, T, N)) {fs : List Value} (hfs : ∀ j, j < N → defaultValue (ty j) = vp_V fs j) (hcells : cells + 1 ≤ R.cells) (hslots : slots + N ≤ R.slots) (hdg : decode cc pc = .ok (.new index, 3))
    (kk : ∀ (q : Nat) (H1 : Heap), q = H.size → H1.size = q + 1 → w q = none → wd_P D cl (wd_up w q (.inr (ci, fs))) H1 → va_S (fun q => s0 ≤ q) H0 H1 locs →
      W p l e R s m args below meth c0 H1 locs (cells + 1) (slots + N) Q (F0 m (pc + 3) ls (.ref q :: rest))) : W p l e R s m args below meth c0 H locs cells slots Q (F0 m pc ls rest) := by
  have hKn := hK.1 ci _ hc
  refine W.newcK hexec hb hown hcl hinst hini rfl hdg hcells hslots hKn.2.1 rfl fun H1 kC hkC e1 z1 o1 => ?_
  refine kk H.size H1 rfl z1 (hP.fresh (Nat.le_refl _)) (hP.push ⟨_, hc, (u_born ty hts hin hKn hkC e1 hty).to hfs⟩ o1) ⟨Nat.le_trans hS.1 (by omega), fun x h1 h2 => (o1 x (Nat.lt_of_lt_of_le h1 hS.1)).trans (hS.2.1 x h1 h2), hS.2.2⟩
theorem wd_newi (hexec : p.tables.exec = Jvm.exec) (hb : c.code = cc) {atype : ArrayType} (harr : (Cond.arrayClass (newarray.typeOf atype)).before args s = true) {ty : FieldType} (hty : newarray.typeOf atype = ty) (hK : va_K D cl tys s) (hP : wd_P D cl w H) (hS : va_S (fun q => s0 ≤ q) H0 H locs) (t0 : Nat) {cA : ClassId} (ht : tys[t0]? = some (cA, ty))
    {n : Int32} {N' : Nat} {a0 : vp_A} (ha : ∀ cA : ClassId, vp_cell cA a0 = arrV cA N' (fun _ => defaultValue ty)) (hn : ¬ n < 0) (hN : n.toNatClampNeg = N') (hbytes : N' * componentBytes ty ≤ 536870912) (hcells : cells + 1 ≤ R.cells) (hslots : slots + N' ≤ R.slots) (hdg : decode cc pc = .ok (.newarray atype, 2))
    (kk : ∀ (q : Nat) (H1 : Heap), q = H.size → H1.size = q + 1 → w q = none → wd_P D cl (wd_up w q (.inl (cA, a0))) H1 → va_S (fun q => s0 ≤ q) H0 H1 locs →
      W p l e R s m args below meth c H1 locs (cells + 1) (slots + N') Q (F0 m (pc + 2) ls (.ref q :: rest))) : W p l e R s m args below meth c H locs cells slots Q (F0 m pc ls (.int n :: rest)) := by
  subst hty
  refine va_newaK hexec hb harr rfl hdg rfl hn hN hbytes hcells hslots rfl fun H1 cA' e1 z1 o1 hAr hNm => ?_
  have h2 := (hK.2 t0 _ ht).2
  have hc : cA' = cA := by
    have h3 : s.vm.findClass ("[" ++ (newarray.typeOf atype).toString) = some cA := by
      cases atype <;> exact h2
    exact Option.some.inj (hNm.symm.trans h3)
  subst hc
  refine kk H.size H1 rfl z1 (hP.fresh (Nat.le_refl _)) (hP.push ?_ o1) ⟨Nat.le_trans hS.1 (by omega), fun x h1 h2 => (o1 x (Nat.lt_of_lt_of_le h1 hS.1)).trans (hS.2.1 x h1 h2), hS.2.2⟩
  show H1[H.size]? = some (vp_cell _ _)
  rw [ha]
  exact e1
theorem wd_newq (hexec : p.tables.exec = Jvm.exec) (hb : c.code = cc) {own C : String} {index : Nat} (hown : s.vm.findClass own = some m.cls) (hclink : (Cond.classLink own index C).before args s = true) (hover : va_AO C s) (hK : va_K D cl tys s) (hP : wd_P D cl w H) (hS : va_S (fun q => s0 ≤ q) H0 H locs) (t0 : Nat) {cA : ClassId} (ht : tys[t0]? = some (cA, .object C))
    {n : Int32} {N' : Nat} (hn : ¬ n < 0) (hN : n.toNatClampNeg = N') (hbytes : N' * 4 ≤ 536870912) (hcells : cells + 1 ≤ R.cells) (hslots : slots + N' ≤ R.slots) (hdg : decode cc pc = .ok (.anewarray index, 3))
    (kk : ∀ (q : Nat) (H1 : Heap), q = H.size → H1.size = q + 1 → w q = none → wd_P D cl (wd_up w q (.inl (cA, N', .inr (.inr (.inr (.inr (fun _ => none))))))) H1 → va_S (fun q => s0 ≤ q) H0 H1 locs →
      W p l e R s m args below meth c H1 locs (cells + 1) (slots + N') Q (F0 m (pc + 3) ls (.ref q :: rest))) : W p l e R s m args below meth c H locs cells slots Q (F0 m pc ls (.int n :: rest)) := by
  subst hN
  refine W.anew hexec hb hown hclink (va_AO.use hover) rfl hdg rfl hn hbytes hcells hslots fun cA' kA comp f1 f2 f3 f4 => ?_
  obtain ⟨kA', comp', -, -, -, h3⟩ := (hK.2 t0 _ ht).2
  have hc : cA' = cA := Option.some.inj (f1.symm.trans h3)
  subst hc
  generalize hH1 : H.push ({ cls := cA', slots := Array.replicate n.toNatClampNeg .null, vm := .none } : Cell) = H1
  have z1 : H1.size = H.size + 1 := by rw [← hH1, Array.size_push]
  have e1 : H1[H.size]? = some (arrV cA' n.toNatClampNeg (fun _ => .null)) := by rw [← hH1, Array.getElem?_push_size, ← arrV_new]
  have o1 : ∀ q : Nat, q < H.size → H1[q]? = H[q]? := fun q hq => by rw [← hH1, Array.getElem?_push, if_neg (Nat.ne_of_lt hq)]
  refine kk H.size H1 rfl z1 (hP.fresh (Nat.le_refl _)) (hP.push ?_ o1) ⟨Nat.le_trans hS.1 (by omega), fun x h1 h2 => (o1 x (Nat.lt_of_lt_of_le h1 hS.1)).trans (hS.2.1 x h1 h2), hS.2.2⟩
  show H1[H.size]? = some (vp_cell _ _)
  rw [vp_cell_q]
  exact e1
end WDL
end
