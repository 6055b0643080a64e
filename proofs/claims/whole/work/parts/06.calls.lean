/-! THE CONTRACTS' FORM and the rows of calls over my own world -/
theorem wd_ne {w : wd_M} {a b : Nat} {e f : va_E} (h1 : w a = some e) (h2 : w b = some f) (h : e ≠ f) : a ≠ b := fun q => h (Option.some.inj (h1.symm.trans ((congrArg w q).trans h2)))
theorem wd_nf {w : wd_M} {a b : Nat} {f : va_E} (h1 : w a = none) (h2 : w b = some f) : a ≠ b := fun q => by rw [q, h2] at h1; cases h1
theorem wd_c1 {w : wd_M} {a b : Nat} {e1 e2 e3 : va_E} (h : a ≠ b) : wd_up (wd_up (wd_up w a e1) b e2) a e3 = wd_up (wd_up w a e3) b e2 := by
  funext q
  unfold wd_up
  by_cases h1 : q = a
  · subst h1; simp [h]
  · simp [h1]
theorem wd_c2 {w : wd_M} {a b c : Nat} {e1 e2 e3 e4 : va_E} (h : a ≠ b) (h2 : a ≠ c) : wd_up (wd_up (wd_up (wd_up w a e1) b e2) c e3) a e4 = wd_up (wd_up (wd_up w a e4) b e2) c e3 := by
  funext q
  unfold wd_up
  by_cases h1 : q = a
  · subst h1; simp [h, h2]
  · simp [h1]
theorem wd_c3 {w : wd_M} {a b c d : Nat} {e1 e2 e3 e4 e5 : va_E} (h : a ≠ b) (h2 : a ≠ c) (h3 : a ≠ d) : wd_up (wd_up (wd_up (wd_up (wd_up w a e1) b e2) c e3) d e4) a e5 = wd_up (wd_up (wd_up (wd_up w a e5) b e2) c e3) d e4 := by
  funext q
  unfold wd_up
  by_cases h1 : q = a
  · subst h1; simp [h, h2, h3]
  · simp [h1]
abbrev gX : Type := va_G × (Nat → ClassId)
abbrev gT (g : gX) : List (ClassId × FieldType) := [(g.2 0, .int), (g.2 1, .boolean), (g.2 2, .object RX0), (g.2 3, .long)]
def gN : List Cond := [.methodLinkNest RX2 22 yX3_holds RX3, .methodLinkNest RX0 121 yX3_holds RX3, .methodLinkNest RX0 51 yX3_lowest RX3, .methodLinkNest RX0 54 yX3_highest RX3]
/-- what every method knows of the tables beyond tg: the classes' numbers, the array classes, the nest's links -/
def gK (g : gX) (U : State) : Prop := va_K g.1 vwCl (gT g) U ∧ va_AO RX0 U ∧ va_Nw (.methodLinkNest RX2 22 yX3_holds RX3) U ∧ va_Nw (.methodLinkNest RX0 121 yX3_holds RX3) U ∧ va_Nw (.methodLinkNest RX0 51 yX3_lowest RX3) U ∧ va_Nw (.methodLinkNest RX0 54 yX3_highest RX3) U
theorem gK.warm {g : gX} {s U : State} (hW : s.WarmedH U.vm) (h : gK g s) : gK g U := ⟨va_K.moved hW.alike h.1, h.2.1.moved hW.alike, h.2.2.1.warmM hW, h.2.2.2.1.warmM hW, h.2.2.2.2.1.warmM hW, h.2.2.2.2.2.warmM hW⟩
theorem gK.same {g : gX} {u U : State} (e : u.vm = U.vm) (h : gK g u) : gK g U := ⟨va_K.moved (by rw [e]; exact Vm.Alike.refl _) h.1, h.2.1.moved (by rw [e]; exact Vm.Alike.refl _), h.2.2.1.same rfl e, h.2.2.2.1.same rfl e, h.2.2.2.2.1.same rfl e, h.2.2.2.2.2.same rfl e⟩
abbrev gP (g : gX) (w : wd_M) (H : Heap) : Prop := wd_P g.1 vwCl w H
abbrev gS (s0 : Nat) (H0 H : Heap) (locs : List Loc) : Prop := va_S (fun q => s0 ≤ q) H0 H locs
def cP (g : gX) (s0 : Nat) (w : wd_M) (av : List Value) : Array Value → State → Prop := va_Pc av (fun U => s0 ≤ U.heap.size ∧ gP g w U.heap ∧ gK g U)
abbrev cB (g : gX) : wd_M → State → Prop := fun w' t => gP g w' t.heap
abbrev cA (s0 : Nat) : Nat → Prop := fun q => s0 ≤ q
abbrev cI (g : gX) (s0 : Nat) (post : Int32 → wd_M → Prop) := va_Qi post (cB g) (cA s0)
abbrev cL (g : gX) (s0 : Nat) (post : Int64 → wd_M → Prop) := va_Ql post (cB g) (cA s0)
abbrev cV (g : gX) (s0 : Nat) (post : wd_M → Prop) := va_Qv post (cB g) (cA s0)
abbrev cO (g : gX) (s0 : Nat) (post : Option Nat → wd_M → Prop) := va_Qq post (cB g) (cA s0)
theorem cP_blind {g : gX} {s0 : Nat} {w : wd_M} {av : List Value} : FrameBlind (cP g s0 w av) := fun a U f mk h => ⟨h.1, h.2.1, h.2.2.1, gK.same rfl h.2.2.2⟩
theorem cP_pre {g : gX} {s0 : Nat} {w : wd_M} {av : List Value} {s : State} {H H0 : Heap} {locs : List Loc} (hK : gK g s) (hP : gP g w H) (h0 : s0 ≤ H0.size) (hS : gS s0 H0 H locs) : ∀ U : State, U.heap = H → s.WarmedH U.vm → cP g s0 w av av.toArray U := fun U hU hW => ⟨rfl, by rw [hU]; exact Nat.le_trans h0 hS.1, by rw [hU]; exact hP, gK.warm hW hK⟩
theorem gP_recv {g : gX} {w : wd_M} {H : Heap} {s : State} {b ci : Nat} {fs : List Value} {q : vw_C} (hK : gK g s) (hP : gP g w H) (hr : w b = some (.inr (ci, fs))) (hc : vwCl[ci]? = some q) : ∃ cell : Cell, H[b]? = some cell ∧ cell.vm.isStatics = false ∧ s.vm.findClass q.1 = some cell.cls := va_recv hK.1 (hP.one hr) hc (rfl : ([(b, Sum.inr (ci, fs))] : va_W)[0]? = some (b, .inr (ci, fs)))
theorem gi_of {Ts ws : List Cond} (hT : ∀ w ∈ tg, w ∈ Ts) (h : ∀ w ∈ ws, w ∈ tg) : GoodIn Ts ws := fun w hw => ⟨hT w (h w hw), good_of_word (List.mem_filter.mp (h w hw)).2⟩
theorem tg_tail {x : Cond} : ∀ w ∈ tg, w ∈ x :: tg := fun w h => List.mem_cons_of_mem _ h
section CW
variable {R : Room} {s : State} {args : Array Value} {own C : String} {index maxL mc ms : Nat} {y : MethodName} {bytes : ByteArray} {ret : Option FieldType} {Ts : List Cond} {rm : Room}
theorem cw_V (n : Nat) (ht : ∀ w ∈ Ts, w.before args s = true) (hT : ∀ w ∈ tg, w ∈ Ts) (h1 : Cond.methodLink own index y ∈ tg) (h2 : Cond.instanceMethod y ∈ tg) (h3 : Cond.selects C y y ∈ tg) (h4 : Cond.initialized C ∈ tg) (h5 : Cond.code y bytes maxL ret ∈ tg) (hrc : rm.cells = mc) (hrs : rm.slots = ms)
    (hd : y.cls = C ∧ y.cls ≠ "java/lang/invoke/MethodHandle" ∧ y.cls ≠ "java/lang/invoke/VarHandle" ∧ (parseMethodDescriptor y.desc).map (fun d => d.parameters.length) = some n) (hR : rm.frames + 1 ≤ R.frames ∧ 8 + (maxL + 11) + rm.locals ≤ R.locals) :
    CallW R s args own C index y bytes maxL ret (Cond.code y bytes maxL ret :: tg) rm mc ms n := by
  refine cwV n ht (gi_of hT ?_) rfl hrc hrs hd hR
  intro w hw
  unfold wsV at hw
  rcases List.mem_append.mp hw with h | h
  · simp only [List.mem_cons, List.not_mem_nil, or_false] at h
    rcases h with rfl | rfl | rfl | rfl <;> assumption
  · rcases List.mem_cons.mp h with rfl | h
    · exact h5
    · exact h
theorem cw_S (n : Nat) (ht : ∀ w ∈ Ts, w.before args s = true) (hT : ∀ w ∈ tg, w ∈ Ts) (h1 : Cond.methodLink own index y ∈ tg) (h2 : Cond.static y ∈ tg) (h4 : Cond.initialized y.cls ∈ tg) (h5 : Cond.code y bytes maxL ret ∈ tg) (hrc : rm.cells = mc) (hrs : rm.slots = ms)
    (hd : y.cls ≠ "java/lang/invoke/MethodHandle" ∧ y.cls ≠ "java/lang/invoke/VarHandle" ∧ (parseMethodDescriptor y.desc).map (fun d => d.parameters.length) = some n) (hR : rm.frames + 1 ≤ R.frames ∧ 8 + (maxL + 11) + rm.locals ≤ R.locals) :
    CallB R s args own index y bytes maxL ret (Cond.code y bytes maxL ret :: tg) rm mc ms n ∧ (Cond.static y).before args s = true := by
  refine va_cwS n ht (gi_of hT ?_) rfl hrc hrs hd hR
  intro w hw
  unfold va_wsS at hw
  rcases List.mem_append.mp hw with h | h
  · simp only [List.mem_cons, List.not_mem_nil, or_false] at h
    rcases h with rfl | rfl | rfl <;> assumption
  · rcases List.mem_cons.mp h with rfl | h
    · exact h5
    · exact h
theorem cw_I (n : Nat) (ht : ∀ w ∈ Ts, w.before args s = true) (hT : ∀ w ∈ tg, w ∈ Ts) (h1 : Cond.methodLink own index y ∈ tg) (h2 : Cond.instanceMethod y ∈ tg) (h4 : Cond.initialized y.cls ∈ tg) (h5 : Cond.code y bytes maxL none ∈ tg) (hrc : rm.cells = mc) (hrs : rm.slots = ms) (hy1 : y.name = "<init>")
    (hd : y.cls ≠ "java/lang/invoke/MethodHandle" ∧ y.cls ≠ "java/lang/invoke/VarHandle" ∧ (parseMethodDescriptor y.desc).map (fun d => d.parameters.length) = some n) (hR : rm.frames + 1 ≤ R.frames ∧ 8 + (maxL + 11) + rm.locals ≤ R.locals) :
    CallB R s args own index y bytes maxL none (Cond.code y bytes maxL none :: tg) rm mc ms n ∧ y.name = "<init>" ∧ (Cond.instanceMethod y).before args s = true :=
  cwI n ht (gi_of hT (fun w hw => (List.mem_cons.mp hw).elim (fun e => e ▸ h5) id)) rfl hrc hrs (ht _ (hT _ h4)) (ht _ (hT _ h1)) (ht _ (hT _ h2)) hy1 hd hR
theorem cw_N {host : String} (n : Nat) (ht : ∀ w ∈ Ts, w.before args s = true) (hT : ∀ w ∈ tg, w ∈ Ts) (hl : va_Nw (.methodLinkNest own index y host) s) (h2 : Cond.static y ∈ tg) (h4 : Cond.initialized y.cls ∈ tg) (h5 : Cond.code y bytes maxL ret ∈ tg) (hrc : rm.cells = mc) (hrs : rm.slots = ms)
    (hd : y.cls ≠ "java/lang/invoke/MethodHandle" ∧ y.cls ≠ "java/lang/invoke/VarHandle" ∧ (parseMethodDescriptor y.desc).map (fun d => d.parameters.length) = some n) (hR : rm.frames + 1 ≤ R.frames ∧ 8 + (maxL + 11) + rm.locals ≤ R.locals) :
    va_CN R s args own index y host bytes maxL ret (Cond.code y bytes maxL ret :: tg) rm mc ms n ∧ (Cond.static y).before args s = true ∧ True :=
  ⟨va_cnB n ht (gi_of hT (fun w hw => (List.mem_cons.mp hw).elim (fun e => e ▸ h5) id)) rfl hrc hrs hl (ht _ (hT _ h4)) hd hR, ht _ (hT _ h2), trivial⟩
end CW
section CR
variable {p : Program} {l : Launch} {e : Env} {R : Room} {s : State} {m : MethodId} {args : Array Value} {below : List Frame} {meth : Method} {c : Code} {H : Heap} {locs : List Loc} {cells slots : Nat} {Q : State → Prop}
variable {y : MethodName} {bytes cc : ByteArray} {maxL nL mc ms n index pc : Nat} {ret : Option FieldType} {ws : List Cond} {rm : Room} {Ts : List Cond} {own C host : String} {b : Addr} {As rest st : List Value} {ls : Array Slot} {g : gX} {s0 : Nat} {w : wd_M} {H0 : Heap}
theorem cr_Vi {post : Int32 → wd_M → Prop} (S : CallFix p m c cc nL s args Ts own) (hM : Met l y ws rm (cP g s0 w (.ref b :: As)) (cI g s0 post) mc ms (cA s0)) (cw : CallW R s args own C index y bytes maxL ret ws rm mc ms n) (hK : gK g s) (hP : gP g w H) (h0 : s0 ≤ H0.size) (hS : gS s0 H0 H locs) {ci : Nat} {fs : List Value} {q : vw_C} (hr : w b = some (.inr (ci, fs))) (hc : vwCl[ci]? = some q) (hC : q.1 = C) (hn : As.length = n) (hsize : ls.size = nL) (hst : st = As.reverse ++ .ref b :: rest) (hW : (rest.map fun v => v.category).sum ≤ 8) (hdg : decode cc pc = .ok (.invokevirtual index, 3)) (hf : cells + mc ≤ R.cells ∧ slots + ms ≤ R.slots)
    (kk : ∀ (r : Int32) (w' : wd_M) (H1 : Heap) (locs1 : List Loc), post r w' → gP g w' H1 → gS s0 H0 H1 locs1 → W p l e R s m args below meth c H1 locs1 (cells + mc) (slots + ms) Q (F0 m (pc + 3) ls (.int r :: rest))) : W p l e R s m args below meth c H locs cells slots Q (F0 m pc ls st) := by
  subst hC
  refine va_calli (va_runV (As := As) (rest := rest) S hM cw ⟨cP_blind, gP_recv hK hP hr hc, cP_pre hK hP h0 hS⟩ rfl hn hsize hst (lv_room hW) hdg hf) hS (fun _ _ h => h) (fun _ h => h) ?_
  intro r w' t H1 locs1 ht hvm hp hB hz hk hS1
  exact kk r w' H1 locs1 hp (by rw [← ht]; exact hB) hS1
theorem cr_Vl {post : Int64 → wd_M → Prop} (S : CallFix p m c cc nL s args Ts own) (hM : Met l y ws rm (cP g s0 w (.ref b :: As)) (cL g s0 post) mc ms (cA s0)) (cw : CallW R s args own C index y bytes maxL ret ws rm mc ms n) (hK : gK g s) (hP : gP g w H) (h0 : s0 ≤ H0.size) (hS : gS s0 H0 H locs) {ci : Nat} {fs : List Value} {q : vw_C} (hr : w b = some (.inr (ci, fs))) (hc : vwCl[ci]? = some q) (hC : q.1 = C) (hn : As.length = n) (hsize : ls.size = nL) (hst : st = As.reverse ++ .ref b :: rest) (hW : (rest.map fun v => v.category).sum ≤ 8) (hdg : decode cc pc = .ok (.invokevirtual index, 3)) (hf : cells + mc ≤ R.cells ∧ slots + ms ≤ R.slots)
    (kk : ∀ (r : Int64) (w' : wd_M) (H1 : Heap) (locs1 : List Loc), post r w' → gP g w' H1 → gS s0 H0 H1 locs1 → W p l e R s m args below meth c H1 locs1 (cells + mc) (slots + ms) Q (F0 m (pc + 3) ls (.long r :: rest))) : W p l e R s m args below meth c H locs cells slots Q (F0 m pc ls st) := by
  subst hC
  refine va_calll (va_runV (As := As) (rest := rest) S hM cw ⟨cP_blind, gP_recv hK hP hr hc, cP_pre hK hP h0 hS⟩ rfl hn hsize hst (lv_room hW) hdg hf) hS (fun _ _ h => h) (fun _ h => h) ?_
  intro r w' t H1 locs1 ht hvm hp hB hz hk hS1
  exact kk r w' H1 locs1 hp (by rw [← ht]; exact hB) hS1
theorem cr_Vo {post : Option Nat → wd_M → Prop} (S : CallFix p m c cc nL s args Ts own) (hM : Met l y ws rm (cP g s0 w (.ref b :: As)) (cO g s0 post) mc ms (cA s0)) (cw : CallW R s args own C index y bytes maxL ret ws rm mc ms n) (hK : gK g s) (hP : gP g w H) (h0 : s0 ≤ H0.size) (hS : gS s0 H0 H locs) {ci : Nat} {fs : List Value} {q : vw_C} (hr : w b = some (.inr (ci, fs))) (hc : vwCl[ci]? = some q) (hC : q.1 = C) (hn : As.length = n) (hsize : ls.size = nL) (hst : st = As.reverse ++ .ref b :: rest) (hW : (rest.map fun v => v.category).sum ≤ 8) (hdg : decode cc pc = .ok (.invokevirtual index, 3)) (hf : cells + mc ≤ R.cells ∧ slots + ms ≤ R.slots)
    (kk : ∀ (r : Option Nat) (w' : wd_M) (H1 : Heap) (locs1 : List Loc), post r w' → gP g w' H1 → gS s0 H0 H1 locs1 → W p l e R s m args below meth c H1 locs1 (cells + mc) (slots + ms) Q (F0 m (pc + 3) ls (va_rf r :: rest))) : W p l e R s m args below meth c H locs cells slots Q (F0 m pc ls st) := by
  subst hC
  refine va_callq (va_runV (As := As) (rest := rest) S hM cw ⟨cP_blind, gP_recv hK hP hr hc, cP_pre hK hP h0 hS⟩ rfl hn hsize hst (lv_room hW) hdg hf) hS (fun _ _ h => h) (fun _ h => h) ?_
  intro r w' t H1 locs1 ht hvm hp hB hz hk hS1
  exact kk r w' H1 locs1 hp (by rw [← ht]; exact hB) hS1
theorem cr_Vv {post : wd_M → Prop} (S : CallFix p m c cc nL s args Ts own) (hM : Met l y ws rm (cP g s0 w (.ref b :: As)) (cV g s0 post) mc ms (cA s0)) (cw : CallW R s args own C index y bytes maxL ret ws rm mc ms n) (hK : gK g s) (hP : gP g w H) (h0 : s0 ≤ H0.size) (hS : gS s0 H0 H locs) {ci : Nat} {fs : List Value} {q : vw_C} (hr : w b = some (.inr (ci, fs))) (hc : vwCl[ci]? = some q) (hC : q.1 = C) (hn : As.length = n) (hsize : ls.size = nL) (hst : st = As.reverse ++ .ref b :: rest) (hW : (rest.map fun v => v.category).sum ≤ 8) (hdg : decode cc pc = .ok (.invokevirtual index, 3)) (hf : cells + mc ≤ R.cells ∧ slots + ms ≤ R.slots)
    (kk : ∀ (w' : wd_M) (H1 : Heap) (locs1 : List Loc), post w' → gP g w' H1 → gS s0 H0 H1 locs1 → W p l e R s m args below meth c H1 locs1 (cells + mc) (slots + ms) Q (F0 m (pc + 3) ls rest)) : W p l e R s m args below meth c H locs cells slots Q (F0 m pc ls st) := by
  subst hC
  refine va_callv (va_runV (As := As) (rest := rest) S hM cw ⟨cP_blind, gP_recv hK hP hr hc, cP_pre hK hP h0 hS⟩ rfl hn hsize hst (lv_room hW) hdg hf) hS (fun _ _ h => h) (fun _ h => h) ?_
  intro w' t H1 locs1 ht hvm hp hB hz hk hS1
  exact kk w' H1 locs1 hp (by rw [← ht]; exact hB) hS1
theorem cr_Si {post : Int32 → wd_M → Prop} (S : CallFix p m c cc nL s args Ts own) (hM : Met l y ws rm (cP g s0 w As) (cI g s0 post) mc ms (cA s0)) (cw : CallB R s args own index y bytes maxL ret ws rm mc ms n ∧ (Cond.static y).before args s = true) (hK : gK g s) (hP : gP g w H) (h0 : s0 ≤ H0.size) (hS : gS s0 H0 H locs) (hn : As.length = n) (hsize : ls.size = nL) (hst : st = As.reverse ++ rest) (hW : (rest.map fun v => v.category).sum ≤ 8) (hdg : decode cc pc = .ok (.invokestatic index, 3)) (hf : cells + mc ≤ R.cells ∧ slots + ms ≤ R.slots)
    (kk : ∀ (r : Int32) (w' : wd_M) (H1 : Heap) (locs1 : List Loc), post r w' → gP g w' H1 → gS s0 H0 H1 locs1 → W p l e R s m args below meth c H1 locs1 (cells + mc) (slots + ms) Q (F0 m (pc + 3) ls (.int r :: rest))) : W p l e R s m args below meth c H locs cells slots Q (F0 m pc ls st) := by
  refine va_calli (va_runS (As := As) (rest := rest) S hM cw ⟨cP_blind, cP_pre hK hP h0 hS⟩ rfl hn hsize hst (lv_room hW) hdg hf) hS (fun _ _ h => h) (fun _ h => h) ?_
  intro r w' t H1 locs1 ht hvm hp hB hz hk hS1
  exact kk r w' H1 locs1 hp (by rw [← ht]; exact hB) hS1
theorem cr_Sv {post : wd_M → Prop} (S : CallFix p m c cc nL s args Ts own) (hM : Met l y ws rm (cP g s0 w As) (cV g s0 post) mc ms (cA s0)) (cw : CallB R s args own index y bytes maxL ret ws rm mc ms n ∧ (Cond.static y).before args s = true) (hK : gK g s) (hP : gP g w H) (h0 : s0 ≤ H0.size) (hS : gS s0 H0 H locs) (hn : As.length = n) (hsize : ls.size = nL) (hst : st = As.reverse ++ rest) (hW : (rest.map fun v => v.category).sum ≤ 8) (hdg : decode cc pc = .ok (.invokestatic index, 3)) (hf : cells + mc ≤ R.cells ∧ slots + ms ≤ R.slots)
    (kk : ∀ (w' : wd_M) (H1 : Heap) (locs1 : List Loc), post w' → gP g w' H1 → gS s0 H0 H1 locs1 → W p l e R s m args below meth c H1 locs1 (cells + mc) (slots + ms) Q (F0 m (pc + 3) ls rest)) : W p l e R s m args below meth c H locs cells slots Q (F0 m pc ls st) := by
  refine va_callv (va_runS (As := As) (rest := rest) S hM cw ⟨cP_blind, cP_pre hK hP h0 hS⟩ rfl hn hsize hst (lv_room hW) hdg hf) hS (fun _ _ h => h) (fun _ h => h) ?_
  intro w' t H1 locs1 ht hvm hp hB hz hk hS1
  exact kk w' H1 locs1 hp (by rw [← ht]; exact hB) hS1
theorem cr_Ni {post : Int32 → wd_M → Prop} (S : CallFix p m c cc nL s args Ts own) (hM : Met l y ws rm (cP g s0 w As) (cI g s0 post) mc ms (cA s0)) (cw : va_CN R s args own index y host bytes maxL ret ws rm mc ms n ∧ (Cond.static y).before args s = true ∧ True) (hK : gK g s) (hP : gP g w H) (h0 : s0 ≤ H0.size) (hS : gS s0 H0 H locs) (hn : As.length = n) (hsize : ls.size = nL) (hst : st = As.reverse ++ rest) (hW : (rest.map fun v => v.category).sum ≤ 8) (hdg : decode cc pc = .ok (.invokestatic index, 3)) (hf : cells + mc ≤ R.cells ∧ slots + ms ≤ R.slots)
    (kk : ∀ (r : Int32) (w' : wd_M) (H1 : Heap) (locs1 : List Loc), post r w' → gP g w' H1 → gS s0 H0 H1 locs1 → W p l e R s m args below meth c H1 locs1 (cells + mc) (slots + ms) Q (F0 m (pc + 3) ls (.int r :: rest))) : W p l e R s m args below meth c H locs cells slots Q (F0 m pc ls st) := by
  refine va_calli (va_runSN (As := As) (rest := rest) S hM cw ⟨cP_blind, cP_pre hK hP h0 hS⟩ rfl hn hsize hst (lv_room hW) hdg hf) hS (fun _ _ h => h) (fun _ h => h) ?_
  intro r w' t H1 locs1 ht hvm hp hB hz hk hS1
  exact kk r w' H1 locs1 hp (by rw [← ht]; exact hB) hS1
theorem cr_Iv {post : wd_M → Prop} (S : CallFix p m c cc nL s args Ts own) (hM : Met l y ws rm (cP g s0 w (.ref b :: As)) (cV g s0 post) mc ms (cA s0)) (cw : CallB R s args own index y bytes maxL none ws rm mc ms n ∧ y.name = "<init>" ∧ (Cond.instanceMethod y).before args s = true) (hK : gK g s) (hP : gP g w H) (h0 : s0 ≤ H0.size) (hS : gS s0 H0 H locs) (hn : As.length = n) (hsize : ls.size = nL) (hst : st = As.reverse ++ .ref b :: rest) (hW : (rest.map fun v => v.category).sum ≤ 8) (hdg : decode cc pc = .ok (.invokespecial index, 3)) (hf : cells + mc ≤ R.cells ∧ slots + ms ≤ R.slots)
    (kk : ∀ (w' : wd_M) (H1 : Heap) (locs1 : List Loc), post w' → gP g w' H1 → gS s0 H0 H1 locs1 → W p l e R s m args below meth c H1 locs1 (cells + mc) (slots + ms) Q (F0 m (pc + 3) ls rest)) : W p l e R s m args below meth c H locs cells slots Q (F0 m pc ls st) := by
  refine va_callv (va_runI (As := As) (rest := rest) S hM cw ⟨cP_blind, cP_pre hK hP h0 hS⟩ rfl hn hsize hst (lv_room hW) hdg hf) hS (fun _ _ h => h) (fun _ h => h) ?_
  intro w' t H1 locs1 ht hvm hp hB hz hk hS1
  exact kk w' H1 locs1 hp (by rw [← ht]; exact hB) hS1
end CR
section WR
variable {p : Program} {l : Launch} {e : Env} {R : Room} {s : State} {m : MethodId} {args : Array Value} {below : List Frame} {meth : Method} {c : Code} {H : Heap} {locs : List Loc} {cells slots : Nat} {Q : State → Prop}
variable {cc : ByteArray} {pc : Nat} {ls : Array Slot} {rest : List Value} {D : va_G} {cl : List vw_C} {a s0 : Nat} {tys : List (ClassId × FieldType)} {w : wd_M} {H0 : Heap}
/-- the top of the stack by another name -/
theorem wd_ti {x x' : Int32} (h : x = x') (kk : W p l e R s m args below meth c H locs cells slots Q (F0 m pc ls (.int x' :: rest))) : W p l e R s m args below meth c H locs cells slots Q (F0 m pc ls (.int x :: rest)) := h ▸ kk
theorem wd_tl {x x' : Int64} (h : x = x') (kk : W p l e R s m args below meth c H locs cells slots Q (F0 m pc ls (.long x' :: rest))) : W p l e R s m args below meth c H locs cells slots Q (F0 m pc ls (.long x :: rest)) := h ▸ kk
theorem wd_tq {x x' : Option Nat} (h : x = x') (kk : W p l e R s m args below meth c H locs cells slots Q (F0 m pc ls (va_rf x' :: rest))) : W p l e R s m args below meth c H locs cells slots Q (F0 m pc ls (va_rf x :: rest)) := h ▸ kk
theorem wd_ildN (hexec : p.tables.exec = Jvm.exec) (hb : c.code = cc) (hK : va_K D cl tys s) (hP : wd_P D cl w H) (t0 : Nat) {cA : ClassId} {n k : Nat} {f : Nat → Int32} (ha : w a = some (.inl (cA, n, .inl f))) (ht : tys[t0]? = some (cA, .int)) (hk : k < n) (hn : n < 2 ^ 31) (hdg : decode cc pc = .ok (.iaload, 1))
    (kk : W p l e R s m args below meth c H locs cells slots Q (F0 m (pc + 1) ls (.int (f k) :: rest))) : W p l e R s m args below meth c H locs cells slots Q (F0 m pc ls (.int (nI k) :: .ref a :: rest)) :=
  wd_iald hexec hb hK hP t0 ha ht (vp_in_nI hk hn) hdg (by rw [nI_clamp (Nat.lt_trans hk hn)]; exact kk)
theorem wd_istN (hexec : p.tables.exec = Jvm.exec) (hb : c.code = cc) (hK : va_K D cl tys s) (hP : wd_P D cl w H) (hS : va_S (fun q => s0 ≤ q) H0 H locs) (ha0 : s0 ≤ a) (t0 : Nat) {cA : ClassId} {n k : Nat} {f : Nat → Int32} (ha : w a = some (.inl (cA, n, .inl f))) (ht : tys[t0]? = some (cA, .int)) {x : Int32} (hk : k < n) (hn : n < 2 ^ 31) (hdg : decode cc pc = .ok (.iastore, 1))
    (kk : ∀ (H1 : Heap) (locs1 : List Loc), wd_P D cl (wd_up w a (.inl (cA, n, .inl (upd f k x)))) H1 → va_S (fun q => s0 ≤ q) H0 H1 locs1 → H1.size = H.size → W p l e R s m args below meth c H1 locs1 cells slots Q (F0 m (pc + 1) ls rest)) : W p l e R s m args below meth c H locs cells slots Q (F0 m pc ls (.int x :: .int (nI k) :: .ref a :: rest)) :=
  wd_iast hexec hb hK hP hS ha0 t0 ha ht (vp_in_nI hk hn) hdg (by rw [nI_clamp (Nat.lt_trans hk hn)]; exact kk)
theorem wd_zldN (hexec : p.tables.exec = Jvm.exec) (hb : c.code = cc) (hK : va_K D cl tys s) (hP : wd_P D cl w H) (t0 : Nat) {cA : ClassId} {n k : Nat} {f : Nat → Int32} (ha : w a = some (.inl (cA, n, .inl f))) (ht : tys[t0]? = some (cA, .boolean)) (hk : k < n) (hn : n < 2 ^ 31) (hdg : decode cc pc = .ok (.baload, 1))
    (kk : W p l e R s m args below meth c H locs cells slots Q (F0 m (pc + 1) ls (.int (f k) :: rest))) : W p l e R s m args below meth c H locs cells slots Q (F0 m pc ls (.int (nI k) :: .ref a :: rest)) :=
  va_zald hexec hb hK (hP.one ha) 0 t0 rfl ht (vp_in_nI hk hn) hdg (by rw [nI_clamp (Nat.lt_trans hk hn)]; exact kk)
theorem wd_zstN (hexec : p.tables.exec = Jvm.exec) (hb : c.code = cc) (hK : va_K D cl tys s) (hP : wd_P D cl w H) (hS : va_S (fun q => s0 ≤ q) H0 H locs) (ha0 : s0 ≤ a) (t0 : Nat) {cA : ClassId} {n k : Nat} {f : Nat → Int32} (ha : w a = some (.inl (cA, n, .inl f))) (ht : tys[t0]? = some (cA, .boolean)) {x : Int32} (hx1 : x = 0 ∨ x = 1) (hk : k < n) (hn : n < 2 ^ 31) (hdg : decode cc pc = .ok (.bastore, 1))
    (kk : ∀ (H1 : Heap) (locs1 : List Loc), wd_P D cl (wd_up w a (.inl (cA, n, .inl (upd f k x)))) H1 → va_S (fun q => s0 ≤ q) H0 H1 locs1 → H1.size = H.size → W p l e R s m args below meth c H1 locs1 cells slots Q (F0 m (pc + 1) ls rest)) : W p l e R s m args below meth c H locs cells slots Q (F0 m pc ls (.int x :: .int (nI k) :: .ref a :: rest)) := by
  have hcl := nI_clamp (n := k) (Nat.lt_trans hk hn)
  have hnar : vp_nar .boolean x = x := by rcases hx1 with h | h <;> subst h <;> rfl
  refine W.zast hexec hb (hP a _ ha) ((hK.2 t0 _ ht).1 n (fun j => .int (f j))) (fun q => by cases q) (by show ¬ (nI k < 0 ∨ (arrV _ _ _).slots.size ≤ _); rw [arrV_size]; exact vp_in_nI hk hn) rfl rfl hdg fun H1 e z oq => ?_
  refine kk H1 _ (hP.set ?_ oq) (hS.put z oq ha0) z
  show H1[a]? = some (vp_cell _ _)
  rw [e]
  rw [vp_cell_i, vp_cell_i, arrV_store, hcl]
  congr 2
  funext q
  by_cases hq : q = k
  · subst hq
    simp only [updV, upd, if_pos]
    rcases hx1 with h | h <;> subst h <;> rfl
  · simp [updV, upd, hq]
theorem wd_qldN (hexec : p.tables.exec = Jvm.exec) (hb : c.code = cc) (hK : va_K D cl tys s) (hP : wd_P D cl w H) (t0 : Nat) {cA : ClassId} {C : String} {n k : Nat} {f : Nat → Option Nat} (ha : w a = some (.inl (cA, n, .inr (.inr (.inr (.inr f)))))) (ht : tys[t0]? = some (cA, .object C)) (hk : k < n) (hn : n < 2 ^ 31) (hdg : decode cc pc = .ok (.aaload, 1))
    (kk : W p l e R s m args below meth c H locs cells slots Q (F0 m (pc + 1) ls (va_rf (f k) :: rest))) : W p l e R s m args below meth c H locs cells slots Q (F0 m pc ls (.int (nI k) :: .ref a :: rest)) :=
  wd_aldq hexec hb hK hP t0 ha ht (vp_in_nI hk hn) hdg (by rw [nI_clamp (Nat.lt_trans hk hn)]; exact kk)
end WR
