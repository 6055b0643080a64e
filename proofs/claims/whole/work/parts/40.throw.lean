/-! THE THROW: what the tables and the heap say of exceptions, carried along -/
def tnE : List Cond := [.castable RJx00060 RJx00060, .declares (⟨"java/lang/IndexOutOfBoundsException", "<init>", "(Ljava/lang/String;)V"⟩ : MethodName), .declares (⟨"java/lang/RuntimeException", "<init>", "(Ljava/lang/String;)V"⟩ : MethodName), .declares (⟨"java/lang/Exception", "<init>", "(Ljava/lang/String;)V"⟩ : MethodName), .declares (⟨"java/lang/Throwable", "<init>", "(Ljava/lang/String;)V"⟩ : MethodName)]
/-- a static of Throwable holds a reference, and its cell lies below s0 -/
def stO (s0 : Nat) (nm d : String) (U : State) : Prop := ∃ (c : ClassId) (k : Class) (i : Nat) (f : Field) (a : Nat) (cell : Cell) (v : Value), U.vm.findClass "java/lang/Throwable" = some c ∧ U.fieldFound? "java/lang/Throwable" nm d = some (c, k, i, f) ∧ f.isStatic = true ∧ k.statics = some a ∧ a < s0 ∧ U.heap[a]? = some cell ∧ cell.vm.isStatics = true ∧ cell.cls = c ∧ f.slot < cell.slots.size ∧ k.staticTypes[f.slot]? = some f.type ∧ cell.slots[f.slot]? = some v ∧ v.isRef = true
theorem stO.moved {s0 : Nat} {nm d : String} {s U : State} (hv : s.vm.Alike U.vm) (hh : ∀ q, q < s0 → U.heap[q]? = s.heap[q]?) (h : stO s0 nm d s) : stO s0 nm d U := by
  obtain ⟨c, k, i, f, a, cell, v, h1, h2, h3, h4, h5, h6, h7, h8, h9, h10, h11, h12⟩ := h
  obtain ⟨k', h2', hek⟩ := State.fieldFound?_setVm hv h2
  exact ⟨c, k', i, f, a, cell, v, by rw [hv.findClass]; exact h1, h2', h3, by rw [hek]; exact h4, h5, by rw [hh a h5]; exact h6, h7, h8, h9, by rw [hek]; exact h10, h11, h12⟩
theorem stO.lays {s0 : Nat} {nm d : String} {s : State} {A : Array Value} (h : stO s0 nm d s) : (Cond.laysStatic "java/lang/Throwable" nm d).before A s = true := by
  obtain ⟨c, k, i, f, a, cell, v, h1, h2, h3, h4, h5, h6, h7, h8, h9, h10, h11, h12⟩ := h
  exact Cond.laysStatic_of h1 h2 h3 h4 h6 h7 h8 h9 h10
theorem stO.ref {s0 : Nat} {nm d : String} {s : State} {A : Array Value} (h : stO s0 nm d s) : (Cond.isRef (.static "java/lang/Throwable" nm d)).before A s = true := by
  obtain ⟨c, k, i, f, a, cell, v, h1, h2, h3, h4, h5, h6, h7, h8, h9, h10, h11, h12⟩ := h
  have hev : (Term.static "java/lang/Throwable" nm d).eval A s none [] s = some v := by
    simp [Term.eval, State.fieldNamed?, h2, h3, h4, h6, h7, h11]
  cases v with
  | ref x => simp [Cond.before, Cond.holds, Cond.value, hev]
  | null => simp [Cond.before, Cond.holds, Cond.value, hev]
  | _ => simp [Value.isRef] at h12
theorem stO.of {nm d : String} {s : State} {A : Array Value} (h : (Cond.laysStatic "java/lang/Throwable" nm d).before A s = true) (h2 : (Cond.isRef (.static "java/lang/Throwable" nm d)).before A s = true) : stO s.heap.size nm d s := by
  obtain ⟨c, k, i, f, a, cell, h1, hf, h3, h4, h6, h7, h8, h9, h10⟩ := Cond.laysStatic_spec h
  have hv : cell.slots[f.slot]? = some cell.slots[f.slot] := Array.getElem?_eq_getElem h9
  have hev : (Term.static "java/lang/Throwable" nm d).eval A s none [] s = some cell.slots[f.slot] := by
    simp [Term.eval, State.fieldNamed?, hf, h3, h4, h6, h7, hv]
  refine ⟨c, k, i, f, a, cell, _, h1, hf, h3, h4, (Array.getElem?_eq_some_iff.mp h6).1, h6, h7, h8, h9, h10, hv, ?_⟩
  simp only [Cond.before, Cond.holds, Cond.value, hev] at h2
  generalize cell.slots[f.slot] = v at h2
  cases v <;> simp_all [Value.isRef]
abbrev usD : String := "[Ljava/lang/StackTraceElement;"
abbrev ssD : String := "Ljava/util/List;"
/-- all that a throw needs beyond the good words -/
def tE (s0 sa : Nat) (U : State) : Prop := (∀ w ∈ tnE, w.before #[] U = true) ∧ (stO s0 "UNASSIGNED_STACK" usD U ∧ stO s0 "SUPPRESSED_SENTINEL" ssD U) ∧ vk_R RX3 110 "no such row" sa U
theorem tnE_ok : ∀ w ∈ tnE, w.keepsFace = true ∧ w.onTables = true := by decide
theorem tE.moved {s0 sa : Nat} {s U : State} (hW : s.WarmedH U.vm) (hh : ∀ q, q < s0 → U.heap[q]? = s.heap[q]?) (h : tE s0 sa s) : tE s0 sa U :=
  ⟨fun w hw => va_tabs (tnE_ok w hw).2 (u := s.setVm U.vm) rfl (Cond.before_shiftedFace (State.Shifted.of_warmed hW) w (tnE_ok w hw).1 (h.1 w hw)), ⟨h.2.1.1.moved hW.alike hh, h.2.1.2.moved hW.alike hh⟩, vk_R.warm hW h.2.2⟩
theorem tE.any {s0 sa : Nat} {s : State} (h : tE s0 sa s) {A : Array Value} : ∀ w ∈ tnE, w.before A s = true := fun w hw => va_tabs (tnE_ok w hw).2 rfl (h.1 w hw)
