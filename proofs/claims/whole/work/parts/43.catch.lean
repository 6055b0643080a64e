/-! THE LAW'S depth: the throw is caught -/
theorem ct_find {e : Env} {s : State} {f : JFrame} {a : Addr} {meth : Method} {code9 : Code} {xe : ExceptionTableEntry} {cT : ClassId} {cell : Cell} (hm : s.vm.method? f.method = some meth) (hc : meth.code = some code9) (ht : code9.exceptionTable.toList = [xe]) (hx : covers xe f.pc = true) (h0 : xe.catchType ≠ 0) (hl : s.vm.ClassLinks e.platform f.method.cls xe.catchType cT) (hcell : s.heap[a]? = some cell) (hobj : cell.vm.isStatics = false) (hfit : s.vm.assignable cell.cls cT = true) (hT : ∃ k, s.vm.classes[cT]? = some k) (Q : Handler → Pre) (E : CtlPost) (d : Bool) (acts : List Action) :
    wp (findHandler f a) Q E e d acts s ↔ Q (.found xe.handlerPc) d acts (s.setVm (s.vm.noted f.method.cls xe.catchType (.cls cT))) := by
  obtain ⟨k2, hk2⟩ := hT
  obtain ⟨k1, hk1⟩ := Vm.classAt_of_assignable hfit ⟨k2, hk2⟩
  have hal : s.vm.Alike (s.vm.noted f.method.cls xe.catchType (.cls cT)) := (Vm.Alike.refl s.vm).noted _ _ _
  obtain ⟨k1', hk1', -⟩ := hal.2.2 _ _ hk1
  obtain ⟨k2', hk2', -⟩ := hal.2.2 _ _ hk2
  have hfit' : (s.vm.noted f.method.cls xe.catchType (.cls cT)).assignable cell.cls cT = true := by rw [hal.assignable]; exact hfit
  have hne := VmData.ne_statics_of hobj
  obtain ⟨ha, hta⟩ := (resolveClass_links e.toSetting hl).op (op := VmOp.resolveClass f.method.cls xe.catchType) rfl
  rw [Jvm.W.findHandler_eq hm hc, ht]
  simp only [covers] at hx
  simp [findHandler.go, hx, h0, ha, hta, hcell, hne, hk1', hk2', hfit', VmOp.dirties, VmOp.acts]
theorem ct_step {tb : Tables} {e : Env} {s target : State} {g : JFrame} {c : Code} {below : List Frame} {a : Addr} {pc : Nat} {vm' : Vm} (h : At s g.method c below)
    (hfind : ∀ (Q : Handler → Pre) (E : CtlPost) (d : Bool) (acts : List Action), wp (findHandler g a) Q E e d acts ((s.setTop g).pushFrame (.throwing a)) ↔ Q (.found pc) d acts (((s.setTop g).pushFrame (.throwing a)).setVm vm'))
    (hrest : Steps tb e below ((s.setVm vm').setTop { g with pc := pc, stack := [.ref a] }) target) : Steps tb e below ((s.setTop g).pushFrame (.throwing a)) target := by
  have key : (stepThrowing e ((s.setTop g).pushFrame (.throwing a)) a (.java g :: s.frames.tail)).Is ((((s.setTop g).pushFrame (.throwing a)).setVm vm').setFrames (.java { g with pc := pc, stack := [.ref a] } :: s.frames.tail)) [] := by
    simp only [stepThrowing, searchFrame, vmDo]
    generalize hr : Sem.go _ e false [] ((s.setTop g).pushFrame (.throwing a)) = res
    obtain ⟨as, rfl, ha⟩ := Sem.eq_ok_of hr (a := Handler.found pc) (s' := ((s.setTop g).pushFrame (.throwing a)).setVm vm') (acts' := []) (by simp [hfind _ _ _ _])
    exact ⟨rfl, ha⟩
  obtain ⟨hgo, hw⟩ := h.throwing a
  refine Steps.head hgo hw ?_
  rw [stepThread_throwing (frames_entered h.top _), key.1]
  obtain ⟨g₀, hg⟩ := Option.isSome_iff_exists.mp h.top
  obtain ⟨r, hr⟩ := State.topJava?_eq_some.mp hg
  have hr' : (s.setVm vm').frames = .java g₀ :: r := hr
  rw [State.setTop_of_frames _ hr'] at hrest
  have e1 : (((s.setTop g).pushFrame (.throwing a)).setVm vm').setFrames (.java { g with pc := pc, stack := [.ref a] } :: s.frames.tail) = (s.setVm vm').setFrames (.java { g with pc := pc, stack := [.ref a] } :: r) := by
    rw [hr, List.tail_cons, State.setTop_of_frames _ hr, State.pushFrame]
    show (((s.setVm vm').setFrames _).setFrames _).setFrames _ = _
    rw [State.setFrames_setFrames, State.setFrames_setFrames]
  rw [e1]
  exact hrest
section CRT
variable {p : Program} {l : Launch} {e : Env} {R : Room} {s : State} {m : MethodId} {args : Array Value} {below : List Frame} {meth : Method} {c : Code} {H : Heap} {locs : List Loc} {cells slots : Nat} {Q : State → Prop}
variable {y : MethodName} {bytes cc : ByteArray} {maxL nL mc ms n index pc : Nat} {ret : Option FieldType} {ws : List Cond} {rm : Room} {Ts : List Cond} {own C host : String} {b : Addr} {As rest st : List Value} {ls : Array Slot} {g : gX} {s0 : Nat} {w : wd_M} {H0 : Heap} {Pc : Array Value → State → Prop}
/-- a call that throws, and the one entry of the caller's table that catches it -/
theorem cr_Vt (S : CallFix p m c cc nL s args Ts own) (hM : MetFree l y (headSpec ws rm) Pc (fun _ _ _ _ _ => True) (QT g s0 w)) (cw : CallW R s args own C index y bytes maxL ret ws rm 1 6 n) (hp : PreV s H C b Pc As) {xe : ExceptionTableEntry} (htab : c.exceptionTable.toList = [xe]) (hcov : covers xe pc = true) (hct : xe.catchType ≠ 0) (hlc : (Cond.classLink own xe.catchType RJx00060).before args s = true) (hn : As.length = n) (hsize : ls.size = nL) (hst : st = As.reverse ++ .ref b :: rest) (hW : (rest.map fun v => v.category).sum ≤ 8) (hdg : decode cc pc = .ok (.invokevirtual index, 3)) (hf : cells + 1 ≤ R.cells ∧ slots + 6 ≤ R.slots)
    (kk : ∀ (xa : Nat) (H1 : Heap), gP g w H1 → H.size ≤ H1.size → (∀ q : Nat, q < H.size → H1[q]? = H[q]?) → W p l e R s m args below meth c H1 locs (cells + 1) (slots + 6) Q (F0 m xe.handlerPc ls [.ref xa])) : W p l e R s m args below meth c H locs cells slots Q (F0 m pc ls st) := by
  intro T hT X
  obtain ⟨⟨hrc, hrs, hfr, hlo, hws, hcw, hcode, hini, hy, hlen, hl⟩, hin, hse⟩ := cw
  obtain ⟨hx, hb, hml, ho, -⟩ := S
  obtain ⟨hbl, ⟨cellB, hcB, hoB, hclB⟩, hPc⟩ := hp
  have hpl : e.platform.magicAccessors = ({} : Platform).magicAccessors := by rw [X.admits.platform]
  obtain ⟨mk, methM, hnamed, hmethM, hstM, habM⟩ := Cond.instanceMethod_spec hin
  obtain ⟨methM', cM, hmethM', -, -, -, -, -, -, hsigM⟩ := Cond.code_spec hnamed hcode
  cases hmethM.symm.trans hmethM'
  obtain ⟨c2, r2, m2, q1, q2, q3, q4, kP, hkP, hkPi⟩ := Cond.selects_spec hse
  cases hclB.symm.trans q1
  cases (State.methodFound?_of_named hnamed hy).symm.trans q2
  cases hnamed.symm.trans q3
  have hselP : selectMethod e.platform s.vm cellB.cls mk = .method mk := by rw [Launch.admits_selectMethod X.admits]; exact q4
  obtain ⟨vm₁, X₁, hstep₁⟩ := X.invokevirtual hx ho hl hnamed hmethM hstM hkP hkPi hy (a := b) (cell := cellB) (by rw [hT]; exact hcB) (VmData.ne_statics_of hoB) hselP hmethM habM hkP hkPi (g := F0 m pc ls st) rfl (argsL := As) (rest := rest) (hn.trans (hlen _ hsigM)) hst (by rw [hb]; exact hdg)
  have hnT := X₁.named hnamed
  obtain ⟨methY, cY, hmY, hcY, -, hlY, -, -, -, -⟩ := Cond.code_spec hnT (hws _ hcw #[] (T.setVm vm₁) X₁.warmed)
  obtain ⟨kY, hkY, -⟩ := className_of_methodNamed hnT
  have hinitY : kY.init = .initialized := Cond.initialized_spec (findClass_of_methodNamed hnT) hkY (word_at (a' := #[]) X₁.warmed (Or.inl (by first | rfl | simp [Cond.onTables, Cond.keeps, Cond.steady])) hini)
  have hroom := X₁.room_calling (g := F0 m pc ls rest) (m' := mk) (args' := (Value.ref b :: As).toArray) (R' := rm) (hsize.trans hml.symm) hmY hcY hfr (by rw [hlY]; show 2 * (F0 m pc ls rest).monitorRoom + (rest.map fun v => v.category).sum + (maxL + 11) + rm.locals ≤ R.locals; have h8 : 2 * (F0 m pc ls rest).monitorRoom + (rest.map fun v => v.category).sum ≤ 8 := lv_room hW; omega) (by rw [hrc]; exact hf.1) (by rw [hrs]; exact hf.2)
  have hAt : At (T.setVm vm₁) (F0 m pc ls rest).method c below := X₁.here
  have happ : (headSpec ws rm).appliesLoose y e.platform ((T.setVm vm₁).calling (F0 m pc ls rest) mk (Value.ref b :: As).toArray) = true := Spec.appliesLoose_calling hAt (by rw [hb]; exact hdg) hnT hkY hinitY hroom (atoms_intro fun v hv => hws v hv _ _ X₁.warmed)
  have htl : (T.setVm vm₁).frames.tail = below := X₁.tail
  have hfr9 : ((T.setVm vm₁).setTop (F0 m pc ls rest)).frames = .java (F0 m pc ls rest) :: below := by rw [State.frames_setTop' (F0 m pc ls rest) hAt.top, htl]
  obtain ⟨o, s₂, hsteps, -, hend, hq⟩ := Steps.callFree hM p X.admits X.cas X.clock (acts := []) (mid := [.java (F0 m pc ls rest)]) (below := below) hfr9 happ (hbl _ _ _ _ (hPc (T.setVm vm₁) hT X₁.warmed)) trivial
  rw [hfr9] at hend
  obtain ⟨xa, rfl, hW2, ⟨L, hsame, hL⟩, hP2, hz, hk, cell, hce, hfc, hsta, hasg⟩ := hq
  have hL0 : L = [] := List.eq_nil_iff_forall_not_mem.mpr (fun q hq => hL q hq)
  subst hL0
  obtain ⟨T', X', hWT, hsm, ht⟩ := X₁.outOfThrown (g := F0 m pc ls rest) rfl hend hW2 hsame
  rw [List.append_nil] at X'
  obtain ⟨cT, hcT, hcl⟩ := Cond.classLink_spec ho hlc e.platform hpl
  have hfc' : (T.setVm vm₁).vm.findClass RJx00060 = some cell.cls := hfc
  rw [X₁.warmed.alike.findClass, hcT] at hfc'
  have hcT2 : cT = cell.cls := Option.some.inj hfc'
  obtain ⟨hg₁, hwarm₁, hready₁⟩ := State.classEntry (e := e) X'.warmed hcl
  have X'' := X'.noted hwarm₁
  have hheap : s₂.heap = T'.heap := by rw [ht]; exact Stand.throwing_heap _ _ _
  have hTh : ((T.setVm vm₁).calling (F0 m pc ls rest) mk (Value.ref b :: As).toArray).heap = H := hT
  obtain ⟨t, a1, b1⟩ := kk xa T'.heap (by rw [← hheap]; exact hP2) (by rw [← hheap, ← hTh]; exact hz) (fun q hq => by rw [← hheap, ← hTh]; exact hk q (by show q < T.heap.size; rw [hT]; exact hq)) (T'.setVm (T'.vm.noted m.cls xe.catchType (.cls cT))) rfl X''
  refine ⟨t, hstep₁ t (fun acts => ?_), b1⟩
  rw [doInvoke_state]
  refine hsteps.trans ?_
  rw [ht]
  have hkT : ∃ k, T'.vm.classes[cT]? = some k := by
    obtain ⟨k0, hk0⟩ := Vm.classAt_of_findClass hcT
    obtain ⟨k', hk', -⟩ := X'.warmed.alike.2.2 _ _ hk0
    exact ⟨k', hk'⟩
  have hasg2 : T'.vm.assignable cell.cls cT = true := by
    rw [hcT2]
    rw [hWT.alike.assignable]
    exact hasg
  refine ct_step (g := F0 m pc ls rest) (c := c) (vm' := T'.vm.noted m.cls xe.catchType (.cls cT)) X'.here (ct_find (cT := cT) (s := (T'.setTop (F0 m pc ls rest)).pushFrame (.throwing xa)) (f := F0 m pc ls rest) (meth := meth) (code9 := c) ?_ X'.code htab hcov hct ?_ ?_ hsta ?_ ?_) a1
  · rw [Stand.throwing_vm]; exact X'.method'
  · rw [Stand.throwing_vm]; exact X'.warmed.classLinks hcl
  · rw [Stand.throwing_heap, ← hheap]; exact hce
  · rw [Stand.throwing_vm]; exact hasg2
  · rw [Stand.throwing_vm]; exact hkT
end CRT
