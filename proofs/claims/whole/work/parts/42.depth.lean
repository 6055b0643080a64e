/-! THE CLASS: depth, where it throws -/
theorem gS_of {s0 : Nat} {H0 H : Heap} {locs : List Loc} (h : va_S (fun _ => False) H0 H locs) : gS s0 H0 H locs := ⟨h.1, fun q h1 _ => h.2.1 q h1 (fun z => z), fun l hl => absurd (h.2.2 l hl) (fun z => z)⟩
section CR0
variable {p : Program} {l : Launch} {e : Env} {R : Room} {s : State} {m : MethodId} {args : Array Value} {below : List Frame} {meth : Method} {c : Code} {H : Heap} {locs : List Loc} {cells slots : Nat} {Q : State → Prop}
variable {y : MethodName} {bytes cc : ByteArray} {maxL nL mc ms n index pc : Nat} {ret : Option FieldType} {ws : List Cond} {rm : Room} {Ts : List Cond} {own C host : String} {b : Addr} {As rest st : List Value} {ls : Array Slot} {g : gX} {s0 : Nat} {w : wd_M} {H0 : Heap}
/-- a call that writes nothing and makes nothing -/
theorem cr_Vi0 {post : Int32 → wd_M → Prop} (S : CallFix p m c cc nL s args Ts own) (hM : Met l y ws rm (cP g s0 w (.ref b :: As)) (va_Qi post (cB g) (fun _ => False)) mc ms (fun _ => False)) (cw : CallW R s args own C index y bytes maxL ret ws rm mc ms n) (hK : gK g s) (hP : gP g w H) (h0 : s0 ≤ H0.size) (hS : va_S (fun _ => False) H0 H locs) {ci : Nat} {fs : List Value} {q : vw_C} (hr : w b = some (.inr (ci, fs))) (hc : vwCl[ci]? = some q) (hC : q.1 = C) (hn : As.length = n) (hsize : ls.size = nL) (hst : st = As.reverse ++ .ref b :: rest) (hW : (rest.map fun v => v.category).sum ≤ 8) (hdg : decode cc pc = .ok (.invokevirtual index, 3)) (hf : cells + mc ≤ R.cells ∧ slots + ms ≤ R.slots)
    (kk : ∀ (r : Int32) (w' : wd_M) (H1 : Heap) (locs1 : List Loc), post r w' → gP g w' H1 → va_S (fun _ => False) H0 H1 locs1 → W p l e R s m args below meth c H1 locs1 (cells + mc) (slots + ms) Q (F0 m (pc + 3) ls (.int r :: rest))) : W p l e R s m args below meth c H locs cells slots Q (F0 m pc ls st) := by
  subst hC
  refine va_calli (va_runV (As := As) (rest := rest) S hM cw ⟨cP_blind, gP_recv hK hP hr hc, cP_pre hK hP h0 (gS_of hS)⟩ rfl hn hsize hst (lv_room hW) hdg hf) hS (fun _ _ h => h) (fun _ h => h) ?_
  intro r w' t H1 locs1 ht hvm hp hB hz hk hS1
  exact kk r w' H1 locs1 hp (by rw [← ht]; exact hB) hS1
end CR0
set_option maxHeartbeats 4000000 in
set_option maxRecDepth 100000 in
theorem c_X1_has0 (l : Launch) (g : gX) (s0 : Nat) (w : wd_M) (x : Nat) (hs0 : s0 ≤ x) (pc : Int32) (mo : Int32) (no : Int32) (sz : Int32) (wr : Int32) (lk : Nat → Int32) (ps : Nat → Option Nat) (fs : Nat → Int32) (ss : Nat → Int32) (ds : Nat → Int32) (lv : Nat → Int32) (N : Nat) (i : Int32) : Met l yX1_has (Cond.code yX1_has cX1_has 2 (some .boolean) :: tg) ({ frames := 0, cells := 0, slots := 0, locals := 0 }) (cP g s0 (xW g w x pc mo no sz (nI N) wr lk ps fs ss ds lv) [.ref (x + 4), .int (i)]) (va_Qi (fun r w' => r = zB (¬ i < 0 ∧ ¬ nI N ≤ i) ∧ w' = (xW g w x pc mo no sz (nI N) wr lk ps fs ss ds lv)) (cB g) (fun _ => False)) 0 0 (fun _ => False) := by
  refine Met.ofW (cc := cX1_has) (maxL := 2) (ret := some .boolean) (by decide) rfl ?_
  intro p e s m args below meth c s₁ B9 hml hv
  obtain ⟨rfl, h0s, hP, hK⟩ := hv
  have hx := B9.exec
  have hb := B9.bytes
  have hr := B9.returns
  have hts := atoms_spec (ws := Cond.code yX1_has cX1_has 2 (some .boolean) :: tg) B9.pre
  have hown : s.vm.findClass RX1 = some m.cls := findClass_of_methodNamed B9.named
  have hlocks := B9.notSynchronized
  have hS : va_S (fun _ => False) s.heap s.heap [] := va_S.rf
  have hRm : 0 ≤ (headSpec (Cond.code yX1_has cX1_has 2 (some .boolean) :: tg) ({ frames := 0, cells := 0, slots := 0, locals := 0 })).room.frames ∧ 0 ≤ (headSpec (Cond.code yX1_has cX1_has 2 (some .boolean) :: tg) ({ frames := 0, cells := 0, slots := 0, locals := 0 })).room.locals := ⟨Nat.le_refl _, Nat.le_refl _⟩
  have hcs : 0 + 0 ≤ (headSpec (Cond.code yX1_has cX1_has 2 (some .boolean) :: tg) ({ frames := 0, cells := 0, slots := 0, locals := 0 })).room.cells ∧ 0 + 0 ≤ (headSpec (Cond.code yX1_has cX1_has 2 (some .boolean) :: tg) ({ frames := 0, cells := 0, slots := 0, locals := 0 })).room.slots := ⟨Nat.zero_le _, Nat.zero_le _⟩
  have hl := lv_entry ([.ref (x + 4), .int (i)]) (n := 2) (Nat.le_of_ble_eq_true rfl)
  rw [lg_entry_eq]
  generalize (lg_sl ([.ref (x + 4), .int (i)]) ++ List.replicate (2 - (lg_sl ([.ref (x + 4), .int (i)])).length) Slot.unset).toArray = ls at hl ⊢
  have hl : lv_has ls 2 [(0, .ref (x + 4)), (1, .int (i))] := hl
  refine lv_iload_n hx hb dX1_has_0 rfl (lv_at hl 1 rfl) ?_
  refine lv_if_lt (tgt := 16) hx hb dX1_has_1 (by decide) (fun c_1 => ?_) (fun c_1 => ?_)
  · refine lv_iconst (v := nI 0) hx hb dX1_has_16 (by decide) ?_
    exact W.zret (ty := .boolean) (v := nI 0) hx hb hr (by rfl) (fun t9 ht hW => ⟨⟨_, (xW g w x pc mo no sz (nI N) wr lk ps fs ss ds lv), rfl, ⟨(zB_f (fun q => q.1 c_1)).symm, rfl⟩, cB_of ht hP⟩, hS.F ht⟩) hS.2.2 dX1_has_17
  · refine lv_iload_n hx hb dX1_has_4 rfl (lv_at hl 1 rfl) ?_
    refine lv_aload_n hx hb dX1_has_5 rfl (lv_at hl 0 rfl) ?_
    refine wd_get (ci := 2) (v := .int (nI N)) (C := RX1) (T := TX1) (N := 5) hx hb hts iwX1 hown hK.1 hP (xW_4) rfl 3 (by decide) (hts _ (tg_tail _ tw_55)) (fun _ h9 => h9) rfl dX1_has_6 ?_
    refine lv_icmp_ge (tgt := 16) hx hb dX1_has_9 (by decide) (fun c_9 => ?_) (fun c_9 => ?_)
    · refine lv_iconst (v := nI 0) hx hb dX1_has_16 (by decide) ?_
      exact W.zret (ty := .boolean) (v := nI 0) hx hb hr (by rfl) (fun t9 ht hW => ⟨⟨_, (xW g w x pc mo no sz (nI N) wr lk ps fs ss ds lv), rfl, ⟨(zB_f (fun q => q.2 c_9)).symm, rfl⟩, cB_of ht hP⟩, hS.F ht⟩) hS.2.2 dX1_has_17
    · refine lv_iconst (v := nI 1) hx hb dX1_has_12 (by decide) ?_
      refine lv_goto (tgt := 17) hx hb dX1_has_13 (by decide) ?_
      exact W.zret (ty := .boolean) (v := nI 1) hx hb hr (by rfl) (fun t9 ht hW => ⟨⟨_, (xW g w x pc mo no sz (nI N) wr lk ps fs ss ds lv), rfl, ⟨(zB_t ⟨c_1, c_9⟩).symm, rfl⟩, cB_of ht hP⟩, hS.F ht⟩) hS.2.2 dX1_has_17

/-- what a throw leaves: one new cell, an object of that class; the world as it was -/
def QT (g : gX) (s0 : Nat) (w : wd_M) (_ : Array Value) (st : State) (o : Outcome) (t : State) : Prop := ∃ x : Addr, o = .threw x ∧ st.WarmedH t.vm ∧ (∃ L, st.sameButNew ({ t with vm := st.vm } : State) L 1 6 ∧ ∀ q ∈ L, False) ∧ gP g w t.heap ∧ st.heap.size ≤ t.heap.size ∧ (∀ q : Nat, q < st.heap.size → t.heap[q]? = st.heap[q]?) ∧ ∃ cell : Cell, t.heap[x]? = some cell ∧ st.vm.findClass RJx00060 = some cell.cls ∧ cell.vm.isStatics = false ∧ st.vm.assignable cell.cls cell.cls = true
theorem same_nil {s U : State} {L : List Loc} {a b : Nat} (h : s.sameButNew U L a b) (hL : ∀ q ∈ L, False) : s.heap.size ≤ U.heap.size ∧ ∀ q : Nat, q < s.heap.size → U.heap[q]? = s.heap[q]? := by
  obtain ⟨-, h2, -, -, -, h6⟩ := h
  refine ⟨h2, fun q hq => ?_⟩
  obtain ⟨c', k1, k2, k3, k4⟩ := h6 q s.heap[q] (Array.getElem?_eq_getElem hq)
  rw [k1, Array.getElem?_eq_getElem hq, k2]
  have e : c'.slots = s.heap[q].slots := Array.ext_getElem? (fun i => k4 i (fun hm => hL _ hm))
  rw [e]
set_option maxHeartbeats 4000000 in
set_option maxRecDepth 100000 in
theorem c_X3_depth_t (l : Launch) (hfl : l.flags = pinnedFlags ++ [noTraceFlag]) (g : gX) (s0 sa : Nat) (w : wd_M) (x : Nat) (hs0 : s0 ≤ x) (pc : Int32) (mo : Int32) (no : Int32) (sz : Int32) (wr : Int32) (lk : Nat → Int32) (ps : Nat → Option Nat) (fs : Nat → Int32) (ss : Nat → Int32) (ds : Nat → Int32) (lv : Nat → Int32) (N : Nat) (hN : N ≤ 2000) (i : Int32) (hno : ¬ (¬ i < 0 ∧ ¬ nI N ≤ i)) : MetFree l yX3_depth (headSpec (Cond.code yX3_depth cX3_depth 2 (some .int) :: tg) { frames := 7, cells := 1, slots := 6, locals := 100 }) (fun a s => cP g s0 (xW g w x pc mo no sz (nI N) wr lk ps fs ss ds lv) [.ref x, .int (i)] a s ∧ tE s0 sa s) (fun _ _ _ _ _ => True) (QT g s0 (xW g w x pc mo no sz (nI N) wr lk ps fs ss ds lv)) := by
  refine MetFree.of_bodyS (code := cX3_depth) (maxLocals := 2) (ret := some .int) (by decide) ?_ ?_
  · intro args s m h hn
    obtain ⟨meth, c, h1, h2, h3, h4, h5, h6, -, -⟩ := Cond.code_spec hn (atoms_spec (ws := Cond.code yX3_depth cX3_depth 2 (some .int) :: tg) h _ List.mem_cons_self)
    exact ⟨meth, c, h1, h2, h3, h4, h5, h6⟩
  · intro p e s m args below meth c s₁ B9 hml hv _
    obtain ⟨⟨rfl, h0s, hP, hK⟩, hE⟩ := hv
    have hx := B9.exec
    have hb := B9.bytes
    have hts := atoms_spec (ws := Cond.code yX3_depth cX3_depth 2 (some .int) :: tg) B9.pre
    have hown : s.vm.findClass RX3 = some m.cls := findClass_of_methodNamed B9.named
    have hlocks := B9.notSynchronized
    have htab := B9.noHandlers (hts _ List.mem_cons_self)
    have hP0 := hP
    have hS : va_S (fun _ => False) s.heap s.heap [] := va_S.rf
    have hRm : 7 ≤ (headSpec (Cond.code yX3_depth cX3_depth 2 (some .int) :: tg) { frames := 7, cells := 1, slots := 6, locals := 100 }).room.frames ∧ 100 ≤ (headSpec (Cond.code yX3_depth cX3_depth 2 (some .int) :: tg) { frames := 7, cells := 1, slots := 6, locals := 100 }).room.locals := ⟨Nat.le_refl _, Nat.le_refl _⟩
    have hcs : 0 + 0 ≤ (headSpec (Cond.code yX3_depth cX3_depth 2 (some .int) :: tg) { frames := 7, cells := 1, slots := 6, locals := 100 }).room.cells ∧ 0 + 0 ≤ (headSpec (Cond.code yX3_depth cX3_depth 2 (some .int) :: tg) { frames := 7, cells := 1, slots := 6, locals := 100 }).room.slots := ⟨Nat.zero_le _, Nat.zero_le _⟩
    have hh0 : s₁.heap = s.heap := by rw [B9.state]; rfl
    have K : W p l e (headSpec (Cond.code yX3_depth cX3_depth 2 (some .int) :: tg) { frames := 7, cells := 1, slots := 6, locals := 100 }).room s m [Value.ref x, Value.int i].toArray below meth c s.heap [] 0 0 (fun t => ∃ o, t.status = .running ∧ Ended t below o ∧ QT g s0 (xW g w x pc mo no sz (nI N) wr lk ps fs ss ds lv) [Value.ref x, Value.int i].toArray s o t) (entryFrame m ([Value.ref x, Value.int i] : List Value).toArray 2) := by
      have hl := lv_entry ([.ref x, .int (i)]) (n := 2) (Nat.le_of_ble_eq_true rfl)
      rw [lg_entry_eq]
      generalize (lg_sl ([.ref x, .int (i)]) ++ List.replicate (2 - (lg_sl ([.ref x, .int (i)])).length) Slot.unset).toArray = ls at hl ⊢
      have hl : lv_has ls 2 [(0, .ref x), (1, .int (i))] := hl
      refine lv_aload_n hx hb dX3_depth_0 rfl (lv_at hl 0 rfl) ?_
      refine wd_get (ci := 4) (v := .ref (x + 4)) (C := RX3) (T := TX3) (N := 6) hx hb hts iwX3 hown hK.1 hP (xW_0) rfl 2 (by decide) (hts _ (tg_tail _ tw_71)) (fun _ h9 => h9) rfl dX3_depth_1 ?_
      refine lv_iload_n hx hb dX3_depth_4 rfl (lv_at hl 1 rfl) ?_
      refine cr_Vi0 (As := [.int (i)]) (rest := []) ⟨hx, hb, hml, hown, hts⟩ (c_X1_has0 l g s0  w x hs0 pc mo no sz wr lk ps fs ss ds lv N i) (cw_V 1 hts tg_tail tw_312 tw_313 tw_314 tw_3 tw_315 rfl rfl (by decide +kernel) ⟨Nat.le_trans (by decide) hRm.1, Nat.le_trans (by decide) hRm.2⟩) hK hP h0s hS (xW_4) rfl rfl rfl hl.1 rfl (Nat.le_of_ble_eq_true rfl) dX3_depth_5 hcs (fun r9 w9 H locs hw hP hS => ?_)
      obtain ⟨e_r9, hw9⟩ := hw
      rw [hw9] at hP
      subst e_r9
      refine lv_if_ne (tgt := 21) hx hb dX3_depth_8 (by decide) (fun c_8 => ?_) (fun c_8 => ?_)
      · have c_8 := zB_1.mp c_8
        exact absurd c_8 hno
      · have c_8 := zB_0.mp c_8
        refine W.newc (index := 108) (n := 6) hx hb hown (hts _ (tg_tail _ tw_345)) (hts _ (tg_tail _ tw_346)) (hts _ (tg_tail _ tw_11)) rfl dX3_depth_11 (by decide) (by decide) (fun cC kC h1 h2 h3 h4 => ?_)
        refine lv_dup hx hb dX3_depth_14 rfl ?_
        refine va_ldcS hx hb hown hE.2.2 dX3_depth_15 ?_
        intro T9 hT9 X9
        obtain ⟨U, st, hrun, hend, hW, hsame, ce, hce, hoc⟩ := Stand.ctorThrowS X9 hx (Jvm.D.Launch.traces_off hfl X9.admits) (own := RX3) (cls := RJx00060) (names := exN) (ic := 112) hown (by decide) (by decide) (own_ok (fun v hv => hts v (tg_tail _ hv)) hE) (fun q hq => absurd (hS.2.2 q hq) (fun z => z)) (a := H.size) (cX := cC) (kX := kC) h1 h2 (by rw [hT9]; simp [freshCell]) hS.1 (msg := .ref sa) rfl (g := F0 m 17 ls [.ref sa, .ref H.size, .ref H.size]) rfl (hl.1.trans hml.symm) rfl rfl (rest := []) rfl (by rw [hb]; exact dX3_depth_17) (by rw [hb]; exact dX3_depth_20) (fun q hq => by rw [Array.isEmpty_iff.mp htab] at hq; cases hq) (Nat.le_of_ble_eq_true rfl) (Nat.le_of_ble_eq_true rfl) hlocks
        have hn := same_nil hsame hS.2.2
        refine ⟨U, st, .threw H.size, hrun, hend, H.size, rfl, hW, ⟨_, hsame, hS.2.2⟩, ?_, hn.1, hn.2, ce, hce, hoc.cls, by rw [hoc.vm]; rfl, hoc.self⟩
        intro a9 e9 h9
        exact (hP0 a9 e9 h9).kept (hn.2 a9 (hP0.lt h9))
    obtain ⟨t, a1, o, b1, b2, b3⟩ := K s₁ hh0 (Stand.of_body B9)
    exact ⟨t, o, a1, b1, b2, b3⟩

