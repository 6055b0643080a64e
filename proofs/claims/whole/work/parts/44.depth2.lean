/-! depth, where it answers; THE LAW'S depth -/
set_option maxHeartbeats 4000000 in
set_option maxRecDepth 100000 in
theorem c_X3_depth_r (l : Launch) (g : gX) (s0 : Nat) (w : wd_M) (x : Nat) (hs0 : s0 ≤ x) (pc : Int32) (mo : Int32) (no : Int32) (sz : Int32) (wr : Int32) (lk : Nat → Int32) (ps : Nat → Option Nat) (fs : Nat → Int32) (ss : Nat → Int32) (ds : Nat → Int32) (lv : Nat → Int32) (N : Nat) (hN : N ≤ 2000) (i : Int32) (hyes : ¬ i < 0 ∧ ¬ nI N ≤ i) : Met l yX3_depth (Cond.code yX3_depth cX3_depth 2 (some .int) :: tg) ({ frames := 1, cells := 0, slots := 0, locals := 21 }) (cP g s0 (xW g w x pc mo no sz (nI N) wr lk ps fs ss ds lv) [.ref x, .int (i)]) (cI g s0 (fun r w' => r = ds i.toNatClampNeg ∧ w' = (xW g w x pc mo no sz (nI N) wr lk ps fs ss ds lv))) 0 0 (cA s0) := by
  refine Met.ofW (cc := cX3_depth) (maxL := 2) (ret := some .int) (by decide) rfl ?_
  intro p e s m args below meth c s₁ B9 hml hv
  obtain ⟨rfl, h0s, hP, hK⟩ := hv
  have hx := B9.exec
  have hb := B9.bytes
  have hr := B9.returns
  have hts := atoms_spec (ws := Cond.code yX3_depth cX3_depth 2 (some .int) :: tg) B9.pre
  have hown : s.vm.findClass RX3 = some m.cls := findClass_of_methodNamed B9.named
  have hlocks := B9.notSynchronized
  have hS : gS s0 s.heap s.heap [] := va_S.rf
  have hRm : 1 ≤ (headSpec (Cond.code yX3_depth cX3_depth 2 (some .int) :: tg) ({ frames := 1, cells := 0, slots := 0, locals := 21 })).room.frames ∧ 21 ≤ (headSpec (Cond.code yX3_depth cX3_depth 2 (some .int) :: tg) ({ frames := 1, cells := 0, slots := 0, locals := 21 })).room.locals := ⟨Nat.le_refl _, Nat.le_refl _⟩
  have hcs : 0 + 0 ≤ (headSpec (Cond.code yX3_depth cX3_depth 2 (some .int) :: tg) ({ frames := 1, cells := 0, slots := 0, locals := 21 })).room.cells ∧ 0 + 0 ≤ (headSpec (Cond.code yX3_depth cX3_depth 2 (some .int) :: tg) ({ frames := 1, cells := 0, slots := 0, locals := 21 })).room.slots := ⟨Nat.zero_le _, Nat.zero_le _⟩
  have hl := lv_entry ([.ref x, .int (i)]) (n := 2) (Nat.le_of_ble_eq_true rfl)
  rw [lg_entry_eq]
  generalize (lg_sl ([.ref x, .int (i)]) ++ List.replicate (2 - (lg_sl ([.ref x, .int (i)])).length) Slot.unset).toArray = ls at hl ⊢
  have hl : lv_has ls 2 [(0, .ref x), (1, .int (i))] := hl
  refine lv_aload_n hx hb dX3_depth_0 rfl (lv_at hl 0 rfl) ?_
  refine wd_get (ci := 4) (v := .ref (x + 4)) (C := RX3) (T := TX3) (N := 6) hx hb hts iwX3 hown hK.1 hP (xW_0) rfl 2 (by decide) (hts _ (tg_tail _ tw_71)) (fun _ h9 => h9) rfl dX3_depth_1 ?_
  refine lv_iload_n hx hb dX3_depth_4 rfl (lv_at hl 1 rfl) ?_
  refine cr_Vi (As := [.int (i)]) (rest := []) ⟨hx, hb, hml, hown, hts⟩ (c_X1_has l g s0  w x hs0 pc mo no sz wr lk ps fs ss ds lv N i) (cw_V 1 hts tg_tail tw_312 tw_313 tw_314 tw_3 tw_315 rfl rfl (by decide +kernel) ⟨Nat.le_trans (by decide) hRm.1, Nat.le_trans (by decide) hRm.2⟩) hK hP h0s hS (xW_4) rfl rfl rfl hl.1 rfl (Nat.le_of_ble_eq_true rfl) dX3_depth_5 hcs (fun r9 w9 H locs hw hP hS => ?_)
  obtain ⟨e_r9, hw9⟩ := hw
  rw [hw9] at hP
  subst e_r9
  refine lv_if_ne (tgt := 21) hx hb dX3_depth_8 (by decide) (fun c_8 => ?_) (fun c_8 => ?_)
  · have c_8 := zB_1.mp c_8
    obtain ⟨k, hk, hik⟩ := ix_of (by omega) hyes.1 hyes.2
    have hcl := nI_clamp (n := k) (by omega)
    subst hik
    refine lv_aload_n hx hb dX3_depth_21 rfl (lv_at hl 0 rfl) ?_
    refine wd_get (ci := 4) (v := .ref (x + 4)) (C := RX3) (T := TX3) (N := 6) hx hb hts iwX3 hown hK.1 hP (xW_0) rfl 2 (by decide) (hts _ (tg_tail _ tw_71)) (fun _ h9 => h9) rfl dX3_depth_22 ?_
    refine wd_get (ci := 2) (v := .ref (x + 7)) (C := RX1) (T := TX1) (N := 5) hx hb hts iwX1 hown hK.1 hP (xW_4) rfl 2 (by decide) (hts _ (tg_tail _ tw_54)) (fun _ h9 => h9) rfl dX3_depth_25 ?_
    refine lv_iload_n hx hb dX3_depth_28 rfl (lv_at hl 1 rfl) ?_
    refine wd_ildN hx hb hK.1 hP 0 (k := k) (xW_7) rfl (by omega) (by decide) dX3_depth_29 ?_
    exact W.iret (v := ds k) hx hb hr (fun t9 ht hW => ⟨⟨_, (xW g w x pc mo no sz (nI N) wr lk ps fs ss ds lv), rfl, ⟨by rw [hcl], rfl⟩, cB_of ht hP⟩, hS.F ht⟩) hS.2.2 dX3_depth_30
  · have c_8 := zB_0.mp c_8
    exact absurd hyes c_8

theorem Met.ofWw {l : Launch} {y : MethodName} {ws ws' : List Cond} {rm : Room} {Pc : Array Value → State → Prop} {Qc : Array Value → State → Outcome → State → Prop} {mc ms : Nat} {free : Addr → Prop} {cc : ByteArray} {maxL : Nat} {ret : Option FieldType} {hs9 : List (Nat × Nat × Nat × Nat)}
    (hy : plainName y.cls = true) (hw : ws = Cond.codeWith y cc maxL ret hs9 :: ws')
    (body : ∀ p e s m args below meth c s₁, BodyLoose p l y (headSpec ws rm) cc maxL ret e s m args below meth c s₁ → c.maxLocals = maxL → c.exceptionTable.toList = tableOf hs9 → Pc args s →
      W p l e (headSpec ws rm).room s m args below meth c s.heap [] 0 0 (MQ below Qc args s mc ms free) (entryFrame m args maxL)) : Met l y ws rm Pc Qc mc ms free := by
  have hcw : Cond.codeWith y cc maxL ret hs9 ∈ ws := by rw [hw]; exact List.mem_cons_self
  refine MetFree.of_bodyS (code := cc) (maxLocals := maxL) (ret := ret) hy ?_ ?_
  · intro args s m h hn
    obtain ⟨m', meth, c, h0, h1, h2, h3, h4, -, h5, h6, -⟩ := Cond.codeWith_spec (atoms_spec (ws := ws) h _ hcw)
    cases hn.symm.trans h0
    exact ⟨meth, c, h1, h2, h3, h4, h5, h6⟩
  · intro p e s m args below meth c s₁ B hml hP _
    have hh0 : s₁.heap = s.heap := by rw [B.state]; rfl
    obtain ⟨m', meth', c', h0, h1, h2, h3, h4, h7, h5, h6, -⟩ := Cond.codeWith_spec (atoms_spec (ws := ws) B.pre _ hcw)
    cases B.named.symm.trans h0
    cases B.method.symm.trans h1
    cases (Stand.of_body B).code.symm.trans h2
    obtain ⟨t, a1, o, b1, b2, b3⟩ := body p e s m args below meth c s₁ B hml (by rw [← h7, table_eq]) hP s₁ hh0 (Stand.of_body B)
    exact ⟨t, o, a1, b1, b2, ⟨b3.1, b3.2⟩⟩
section CRW
variable {p : Program} {l : Launch} {e : Env} {R : Room} {s : State} {m : MethodId} {args : Array Value} {below : List Frame} {meth : Method} {c : Code} {H : Heap} {locs : List Loc} {cells slots : Nat} {Q : State → Prop}
variable {y : MethodName} {bytes cc : ByteArray} {maxL nL mc ms n index pc : Nat} {ret : Option FieldType} {ws : List Cond} {rm : Room} {Ts : List Cond} {own C host : String} {b : Addr} {As rest st : List Value} {ls : Array Slot} {g : gX} {s0 : Nat} {w : wd_M} {H0 : Heap} {Pc : Array Value → State → Prop} {hs9 : List (Nat × Nat × Nat × Nat)}
/-- a static call of a method with a handler table -/
theorem cr_Sw {post : Int32 → wd_M → Prop} (S : CallFix p m c cc nL s args Ts own) (hM : Met l y ws rm Pc (cI g s0 post) mc ms (cA s0)) (hrc : rm.cells = mc) (hrs : rm.slots = ms) (hfr : rm.frames + 1 ≤ R.frames) (hlo : 8 + (maxL + 11) + rm.locals ≤ R.locals) (hws : ∀ w ∈ ws, ∀ (a' : Array Value) (U : State), s.WarmedH U.vm → w.before a' U = true) (hcw : Cond.codeWith y bytes maxL ret hs9 ∈ ws) (hini : (Cond.initialized y.cls).before args s = true) (hy : y.cls ≠ "java/lang/invoke/MethodHandle" ∧ y.cls ≠ "java/lang/invoke/VarHandle") (hlen : (parseMethodDescriptor y.desc).map (fun d => d.parameters.length) = some n) (hl : (Cond.methodLink own index y).before args s = true) (hst9 : (Cond.static y).before args s = true)
    (hp : PreS s H Pc As) (hS : gS s0 H0 H locs) (hn : As.length = n) (hsize : ls.size = nL) (hst : st = As.reverse ++ rest) (hW : (rest.map fun v => v.category).sum ≤ 8) (hdg : decode cc pc = .ok (.invokestatic index, 3)) (hf : cells + mc ≤ R.cells ∧ slots + ms ≤ R.slots)
    (kk : ∀ (r : Int32) (w' : wd_M) (H1 : Heap) (locs1 : List Loc), post r w' → gP g w' H1 → gS s0 H0 H1 locs1 → W p l e R s m args below meth c H1 locs1 (cells + mc) (slots + ms) Q (F0 m (pc + 3) ls (.int r :: rest))) : W p l e R s m args below meth c H locs cells slots Q (F0 m pc ls st) := by
  intro T hT X
  obtain ⟨hx, hb, hml, ho, -⟩ := S
  obtain ⟨hbl, hPc⟩ := hp
  obtain ⟨mk, methM, cM, hnamed, hmethM, -, -, -, -, -, -, hsigM⟩ := Cond.codeWith_spec (by have h9 := hws _ hcw args s (State.WarmedH.refl s); exact h9)
  have hstatic : methM.isStatic = true := Cond.static_spec hnamed hmethM hst9
  obtain ⟨kP, hkP, -⟩ := className_of_methodNamed hnamed
  have hinitP : kP.init = .initialized := Cond.initialized_spec (findClass_of_methodNamed hnamed) hkP hini
  obtain ⟨vm₁, X₁, hstep₁⟩ := X.invokestatic hx ho hl hnamed hmethM hstatic hkP hinitP hy (g := F0 m pc ls st) rfl (argsL := As) (rest := rest) (by rw [hsigM] at hlen; exact hn.trans (Option.some.inj hlen).symm) hst (by rw [hb]; exact hdg)
  have hnT := X₁.named hnamed
  obtain ⟨mk', methY, cY, hnT', hmY, hcY, -, hlY, -, -, -, -⟩ := Cond.codeWith_spec (hws _ hcw #[] (T.setVm vm₁) X₁.warmed)
  cases hnT.symm.trans hnT'
  obtain ⟨kY, hkY, -⟩ := className_of_methodNamed hnT
  have hinitY : kY.init = .initialized := Cond.initialized_spec (findClass_of_methodNamed hnT) hkY (word_at (a' := #[]) X₁.warmed (Or.inl (by first | rfl | simp [Cond.onTables, Cond.keeps, Cond.steady])) hini)
  have hroom := X₁.room_calling (g := F0 m pc ls rest) (m' := mk) (args' := As.toArray) (R' := rm) (hsize.trans hml.symm) hmY hcY hfr (by rw [hlY]; show 2 * (F0 m pc ls rest).monitorRoom + (rest.map fun v => v.category).sum + (maxL + 11) + rm.locals ≤ R.locals; have h8 : 2 * (F0 m pc ls rest).monitorRoom + (rest.map fun v => v.category).sum ≤ 8 := lv_room hW; omega) (by rw [hrc]; exact hf.1) (by rw [hrs]; exact hf.2)
  have hAt : At (T.setVm vm₁) (F0 m pc ls rest).method c below := X₁.here
  have happ : (headSpec ws rm).appliesLoose y e.platform ((T.setVm vm₁).calling (F0 m pc ls rest) mk As.toArray) = true := Spec.appliesLoose_calling hAt (by rw [hb]; exact hdg) hnT hkY hinitY hroom (atoms_intro fun v hv => hws v hv _ _ X₁.warmed)
  have htl : (T.setVm vm₁).frames.tail = below := X₁.tail
  have hfr9 : ((T.setVm vm₁).setTop (F0 m pc ls rest)).frames = .java (F0 m pc ls rest) :: below := by rw [State.frames_setTop' (F0 m pc ls rest) hAt.top, htl]
  obtain ⟨o, s₂, hsteps, -, hend, hq⟩ := Steps.callFree hM p X.admits X.cas X.clock (acts := []) (mid := [.java (F0 m pc ls rest)]) (below := below) hfr9 happ (hbl _ _ _ _ (hPc (T.setVm vm₁) hT X₁.warmed)) trivial
  rw [hfr9] at hend
  obtain ⟨⟨⟨r, u, hv, hpo, hB⟩, hz, hk⟩, L, ⟨-, hW2, hsame⟩, hL⟩ := hq
  subst hv
  obtain ⟨T', X', hWT, hsm, ht⟩ := X₁.outOf (g := F0 m pc ls rest) rfl (by rw [hb]; exact hdg) hend hW2 hsame
  have hheap : s₂.heap = T'.heap := by rw [ht]; rfl
  have hz' : H.size ≤ T'.heap.size := by rw [← hheap, ← hT]; exact hz
  obtain ⟨t, a1, b1⟩ := kk r u T'.heap (locs ++ L) hpo (by rw [← hheap]; exact hB) ⟨Nat.le_trans hS.1 hz', fun q h1 h2 => by
    rw [← hheap]
    have h3 := hk q (by show q < T.heap.size; rw [hT]; exact Nat.lt_of_lt_of_le h1 hS.1) h2
    rw [h3]
    show T.heap[q]? = _
    rw [hT]
    exact hS.2.1 q h1 h2, fun q hq => by
      rcases List.mem_append.mp hq with h | h
      · exact hS.2.2 q h
      · exact hL q h⟩ T' rfl X'
  refine ⟨t, hstep₁ t (fun acts => ?_), b1⟩
  rw [doInvoke_state]
  refine hsteps.trans ?_
  rw [ht]
  exact a1
end CRW
