/-! CONSTRUCTORS: a contract that knows the heap's size, so that new cells have known places -/
def cPz (g : gX) (s0 : Nat) (w : wd_M) (sz : Nat) (av : List Value) : Array Value → State → Prop := va_Pc av (fun U => U.heap.size = sz ∧ s0 ≤ U.heap.size ∧ gP g w U.heap ∧ gK g U)
abbrev cBz (g : gX) (sz : Nat) : wd_M → State → Prop := fun w' t => gP g w' t.heap ∧ t.heap.size = sz
abbrev cVz (g : gX) (s0 sz : Nat) (post : wd_M → Prop) := va_Qv post (cBz g sz) (cA s0)
theorem cPz_blind {g : gX} {s0 sz : Nat} {w : wd_M} {av : List Value} : FrameBlind (cPz g s0 w sz av) := fun a U f mk h => ⟨h.1, h.2.1, h.2.2.1, h.2.2.2.1, gK.same rfl h.2.2.2.2⟩
theorem cPz_pre {g : gX} {s0 sz : Nat} {w : wd_M} {av : List Value} {s : State} {H H0 : Heap} {locs : List Loc} (hK : gK g s) (hP : gP g w H) (h0 : s0 ≤ H0.size) (hS : gS s0 H0 H locs) (hz : H.size = sz) : ∀ U : State, U.heap = H → s.WarmedH U.vm → cPz g s0 w sz av av.toArray U := fun U hU hW => ⟨rfl, by rw [hU]; exact hz, by rw [hU]; exact Nat.le_trans h0 hS.1, by rw [hU]; exact hP, gK.warm hW hK⟩
theorem cBz_of {g : gX} {w : wd_M} {t : State} {H : Heap} {sz : Nat} (ht : t.heap = H) (hP : gP g w H) (hz : H.size = sz) : cBz g sz w t := by
  refine ⟨?_, ?_⟩
  · rw [ht]; exact hP
  · rw [ht]; exact hz
theorem cr_Iz {p : Program} {l : Launch} {e : Env} {R : Room} {s : State} {m : MethodId} {args : Array Value} {below : List Frame} {meth : Method} {c : Code} {H : Heap} {locs : List Loc} {cells slots : Nat} {Q : State → Prop} {y : MethodName} {bytes cc : ByteArray} {maxL nL mc ms n index pc sz sz' : Nat} {ws : List Cond} {rm : Room} {Ts : List Cond} {own : String} {b : Addr} {As rest st : List Value} {ls : Array Slot} {g : gX} {s0 : Nat} {w : wd_M} {H0 : Heap} {post : wd_M → Prop} (S : CallFix p m c cc nL s args Ts own) (hM : Met l y ws rm (cPz g s0 w sz (.ref b :: As)) (cVz g s0 sz' post) mc ms (cA s0)) (cw : CallB R s args own index y bytes maxL none ws rm mc ms n ∧ y.name = "<init>" ∧ (Cond.instanceMethod y).before args s = true) (hK : gK g s) (hP : gP g w H) (h0 : s0 ≤ H0.size) (hS : gS s0 H0 H locs) (hz : H.size = sz) (hn : As.length = n) (hsize : ls.size = nL) (hst : st = As.reverse ++ .ref b :: rest) (hW : (rest.map fun v => v.category).sum ≤ 8) (hdg : decode cc pc = .ok (.invokespecial index, 3)) (hf : cells + mc ≤ R.cells ∧ slots + ms ≤ R.slots)
    (kk : ∀ (w' : wd_M) (H1 : Heap) (locs1 : List Loc), post w' → gP g w' H1 → gS s0 H0 H1 locs1 → H1.size = sz' → W p l e R s m args below meth c H1 locs1 (cells + mc) (slots + ms) Q (F0 m (pc + 3) ls rest)) : W p l e R s m args below meth c H locs cells slots Q (F0 m pc ls st) := by
  refine va_callv (va_runI (As := As) (rest := rest) S hM cw ⟨cPz_blind, cPz_pre hK hP h0 hS hz⟩ rfl hn hsize hst (lv_room hW) hdg hf) hS (fun _ _ h => h) (fun _ h => h) ?_
  intro w' t H1 locs1 ht hvm hp hB hz2 hk hS1
  exact kk w' H1 locs1 hp (by rw [← ht]; exact hB.1) hS1 (by rw [← ht]; exact hB.2)
theorem wd_d {w : wd_M} {h a : Nat} {o e o' : va_E} : wd_up (wd_up (wd_up w h o) a e) h o' = wd_up (wd_up w a e) h o' := by
  funext b
  unfold wd_up
  by_cases h1 : b = h
  · rw [if_pos h1, if_pos h1]
  · rw [if_neg h1, if_neg h1, if_neg h1]
section NZ
variable {p : Program} {l : Launch} {e : Env} {R : Room} {s : State} {m : MethodId} {args : Array Value} {below : List Frame} {meth : Method} {c : Code} {H : Heap} {locs : List Loc} {cells slots : Nat} {Q : State → Prop}
variable {cc : ByteArray} {pc : Nat} {ls : Array Slot} {rest : List Value} {D : va_G} {cl : List vw_C} {s0 : Nat} {tys : List (ClassId × FieldType)} {w : wd_M} {H0 : Heap}
theorem wd_newiZ (hexec : p.tables.exec = Jvm.exec) (hb : c.code = cc) {atype : ArrayType} (harr : (Cond.arrayClass (newarray.typeOf atype)).before args s = true) {ty : FieldType} (hty : newarray.typeOf atype = ty) (hK : va_K D cl tys s) (hP : wd_P D cl w H) (hS : va_S (fun q => s0 ≤ q) H0 H locs) (t0 : Nat) {cA : ClassId} (ht : tys[t0]? = some (cA, ty))
    {n : Int32} {N' : Nat} {a0 : vp_A} (ha : ∀ cA : ClassId, vp_cell cA a0 = arrV cA N' (fun _ => defaultValue ty)) (hn : ¬ n < 0) (hN : n.toNatClampNeg = N') (hbytes : N' * componentBytes ty ≤ 536870912) (hcells : cells + 1 ≤ R.cells) (hslots : slots + N' ≤ R.slots) {q : Nat} (hz : H.size = q) (hdg : decode cc pc = .ok (.newarray atype, 2))
    (kk : ∀ (H1 : Heap), H1.size = q + 1 → wd_P D cl (wd_up w q (.inl (cA, a0))) H1 → va_S (fun q => s0 ≤ q) H0 H1 locs →
      W p l e R s m args below meth c H1 locs (cells + 1) (slots + N') Q (F0 m (pc + 2) ls (.ref q :: rest))) : W p l e R s m args below meth c H locs cells slots Q (F0 m pc ls (.int n :: rest)) := by
  subst hz
  refine wd_newi hexec hb harr hty hK hP hS t0 ht ha hn hN hbytes hcells hslots hdg (fun q9 H1 hq hz _ hP1 hS1 => ?_)
  subst hq
  exact kk H1 hz hP1 hS1
theorem wd_newqZ (hexec : p.tables.exec = Jvm.exec) (hb : c.code = cc) {own C : String} {index : Nat} (hown : s.vm.findClass own = some m.cls) (hclink : (Cond.classLink own index C).before args s = true) (hover : va_AO C s) (hK : va_K D cl tys s) (hP : wd_P D cl w H) (hS : va_S (fun q => s0 ≤ q) H0 H locs) (t0 : Nat) {cA : ClassId} (ht : tys[t0]? = some (cA, .object C))
    {n : Int32} {N' : Nat} (hn : ¬ n < 0) (hN : n.toNatClampNeg = N') (hbytes : N' * 4 ≤ 536870912) (hcells : cells + 1 ≤ R.cells) (hslots : slots + N' ≤ R.slots) {q : Nat} (hz : H.size = q) (hdg : decode cc pc = .ok (.anewarray index, 3))
    (kk : ∀ (H1 : Heap), H1.size = q + 1 → wd_P D cl (wd_up w q (.inl (cA, N', .inr (.inr (.inr (.inr (fun _ => none))))))) H1 → va_S (fun q => s0 ≤ q) H0 H1 locs →
      W p l e R s m args below meth c H1 locs (cells + 1) (slots + N') Q (F0 m (pc + 3) ls (.ref q :: rest))) : W p l e R s m args below meth c H locs cells slots Q (F0 m pc ls (.int n :: rest)) := by
  subst hz
  refine wd_newq hexec hb hown hclink hover hK hP hS t0 ht hn hN hbytes hcells hslots hdg (fun q9 H1 hq hz _ hP1 hS1 => ?_)
  subst hq
  exact kk H1 hz hP1 hS1
theorem wd_newZ {c0 : Code} (hexec : p.tables.exec = Jvm.exec) (hb : c0.code = cc) {own C : String} {T : u_T} {N ci index : Nat} {Ts : List Cond} (hts : ∀ w ∈ Ts, w.before args s = true) (hin : ∀ w ∈ u_ws C T N, w ∈ Ts) (ty : Nat → FieldType) (hty : ∀ k, k < N → parseFieldDescriptor (T k).2.2.1 = some (ty k)) (hown : s.vm.findClass own = some m.cls) (hcl : (Cond.classLink own index C).before args s = true) (hinst : (Cond.instantiable C N).before args s = true) (hini : (Cond.initialized C).before args s = true)
    (hK : va_K D cl tys s) (hP : wd_P D cl w H) (hS : va_S (fun q => s0 ≤ q) H0 H locs) (hc : cl[ci]? = some (C, T, N)) {fs : List Value} (hfs : ∀ j, j < N → defaultValue (ty j) = vp_V fs j) (hcells : cells + 1 ≤ R.cells) (hslots : slots + N ≤ R.slots) {q : Nat} (hz : H.size = q) (hdg : decode cc pc = .ok (.new index, 3))
    (kk : ∀ (H1 : Heap), H1.size = q + 1 → w q = none → wd_P D cl (wd_up w q (.inr (ci, fs))) H1 → va_S (fun q => s0 ≤ q) H0 H1 locs →
      W p l e R s m args below meth c0 H1 locs (cells + 1) (slots + N) Q (F0 m (pc + 3) ls (.ref q :: rest))) : W p l e R s m args below meth c0 H locs cells slots Q (F0 m pc ls rest) := by
  subst hz
  refine wd_new hexec hb hts hin ty hty hown hcl hinst hini hK hP hS hc hfs hcells hslots hdg (fun q9 H1 hq hz hn hP1 hS1 => ?_)
  subst hq
  exact kk H1 hz hn hP1 hS1
end NZ

theorem wd_d1 {w : wd_M} {h a1 : Nat} {o o' e1 : va_E} : wd_up (wd_up (wd_up w h o) a1 e1) h o' = wd_up (wd_up w a1 e1) h o' := by
  funext b
  unfold wd_up
  by_cases h1 : b = h
  · rw [if_pos h1, if_pos h1]
  · simp only [if_neg h1]
theorem wd_d2 {w : wd_M} {h a1 a2 : Nat} {o o' e1 e2 : va_E} : wd_up (wd_up (wd_up (wd_up w h o) a1 e1) a2 e2) h o' = wd_up (wd_up (wd_up w a1 e1) a2 e2) h o' := by
  funext b
  unfold wd_up
  by_cases h1 : b = h
  · rw [if_pos h1, if_pos h1]
  · simp only [if_neg h1]
theorem wd_d3 {w : wd_M} {h a1 a2 a3 : Nat} {o o' e1 e2 e3 : va_E} : wd_up (wd_up (wd_up (wd_up (wd_up w h o) a1 e1) a2 e2) a3 e3) h o' = wd_up (wd_up (wd_up (wd_up w a1 e1) a2 e2) a3 e3) h o' := by
  funext b
  unfold wd_up
  by_cases h1 : b = h
  · rw [if_pos h1, if_pos h1]
  · simp only [if_neg h1]
theorem wd_d4 {w : wd_M} {h a1 a2 a3 a4 : Nat} {o o' e1 e2 e3 e4 : va_E} : wd_up (wd_up (wd_up (wd_up (wd_up (wd_up w h o) a1 e1) a2 e2) a3 e3) a4 e4) h o' = wd_up (wd_up (wd_up (wd_up (wd_up w a1 e1) a2 e2) a3 e3) a4 e4) h o' := by
  funext b
  unfold wd_up
  by_cases h1 : b = h
  · rw [if_pos h1, if_pos h1]
  · simp only [if_neg h1]
theorem wd_d5 {w : wd_M} {h a1 a2 a3 a4 a5 : Nat} {o o' e1 e2 e3 e4 e5 : va_E} : wd_up (wd_up (wd_up (wd_up (wd_up (wd_up (wd_up w h o) a1 e1) a2 e2) a3 e3) a4 e4) a5 e5) h o' = wd_up (wd_up (wd_up (wd_up (wd_up (wd_up w a1 e1) a2 e2) a3 e3) a4 e4) a5 e5) h o' := by
  funext b
  unfold wd_up
  by_cases h1 : b = h
  · rw [if_pos h1, if_pos h1]
  · simp only [if_neg h1]
set_option maxHeartbeats 4000000 in
theorem mW_ch {w : wd_M} {h : Nat} {z0 z1 z2 z3 z4 z5 z6 z7 z8 z9 z10 z11 z12 z13 z14 : va_E} : (wd_up (wd_up (wd_up (wd_up (wd_up (wd_up (wd_up (wd_up (wd_up (wd_up (wd_up (wd_up (wd_up (wd_up (wd_up w (h + 1) z1) (h + 2) z2) (h + 3) z3) (h + 4) z4) (h + 5) z5) (h + 6) z6) (h + 7) z7) (h + 8) z8) (h + 9) z9) (h + 10) z10) (h + 11) z11) (h + 12) z12) (h + 13) z13) (h + 14) z14) h z0) = fun a => if a = h then some z0 else if a = (h + 1) then some z1 else if a = (h + 2) then some z2 else if a = (h + 3) then some z3 else if a = (h + 4) then some z4 else if a = (h + 5) then some z5 else if a = (h + 6) then some z6 else if a = (h + 7) then some z7 else if a = (h + 8) then some z8 else if a = (h + 9) then some z9 else if a = (h + 10) then some z10 else if a = (h + 11) then some z11 else if a = (h + 12) then some z12 else if a = (h + 13) then some z13 else if a = (h + 14) then some z14 else w a := by
  funext b
  unfold wd_up
  by_cases e0 : b = h
  · rw [if_pos e0, if_pos e0]
  · revert e0; intro e0
    by_cases e1 : b = (h + 1)
    · rw [if_neg (by omega), if_neg (by omega), if_neg (by omega), if_neg (by omega), if_neg (by omega), if_neg (by omega), if_neg (by omega), if_neg (by omega), if_neg (by omega), if_neg (by omega), if_neg (by omega), if_neg (by omega), if_neg (by omega), if_neg (by omega), if_pos e1, if_neg e0, if_pos e1]
    · revert e1; intro e1
      by_cases e2 : b = (h + 2)
      · rw [if_neg (by omega), if_neg (by omega), if_neg (by omega), if_neg (by omega), if_neg (by omega), if_neg (by omega), if_neg (by omega), if_neg (by omega), if_neg (by omega), if_neg (by omega), if_neg (by omega), if_neg (by omega), if_neg (by omega), if_pos e2, if_neg e0, if_neg e1, if_pos e2]
      · revert e2; intro e2
        by_cases e3 : b = (h + 3)
        · rw [if_neg (by omega), if_neg (by omega), if_neg (by omega), if_neg (by omega), if_neg (by omega), if_neg (by omega), if_neg (by omega), if_neg (by omega), if_neg (by omega), if_neg (by omega), if_neg (by omega), if_neg (by omega), if_pos e3, if_neg e0, if_neg e1, if_neg e2, if_pos e3]
        · revert e3; intro e3
          by_cases e4 : b = (h + 4)
          · rw [if_neg (by omega), if_neg (by omega), if_neg (by omega), if_neg (by omega), if_neg (by omega), if_neg (by omega), if_neg (by omega), if_neg (by omega), if_neg (by omega), if_neg (by omega), if_neg (by omega), if_pos e4, if_neg e0, if_neg e1, if_neg e2, if_neg e3, if_pos e4]
          · revert e4; intro e4
            by_cases e5 : b = (h + 5)
            · rw [if_neg (by omega), if_neg (by omega), if_neg (by omega), if_neg (by omega), if_neg (by omega), if_neg (by omega), if_neg (by omega), if_neg (by omega), if_neg (by omega), if_neg (by omega), if_pos e5, if_neg e0, if_neg e1, if_neg e2, if_neg e3, if_neg e4, if_pos e5]
            · revert e5; intro e5
              by_cases e6 : b = (h + 6)
              · rw [if_neg (by omega), if_neg (by omega), if_neg (by omega), if_neg (by omega), if_neg (by omega), if_neg (by omega), if_neg (by omega), if_neg (by omega), if_neg (by omega), if_pos e6, if_neg e0, if_neg e1, if_neg e2, if_neg e3, if_neg e4, if_neg e5, if_pos e6]
              · revert e6; intro e6
                by_cases e7 : b = (h + 7)
                · rw [if_neg (by omega), if_neg (by omega), if_neg (by omega), if_neg (by omega), if_neg (by omega), if_neg (by omega), if_neg (by omega), if_neg (by omega), if_pos e7, if_neg e0, if_neg e1, if_neg e2, if_neg e3, if_neg e4, if_neg e5, if_neg e6, if_pos e7]
                · revert e7; intro e7
                  by_cases e8 : b = (h + 8)
                  · rw [if_neg (by omega), if_neg (by omega), if_neg (by omega), if_neg (by omega), if_neg (by omega), if_neg (by omega), if_neg (by omega), if_pos e8, if_neg e0, if_neg e1, if_neg e2, if_neg e3, if_neg e4, if_neg e5, if_neg e6, if_neg e7, if_pos e8]
                  · revert e8; intro e8
                    by_cases e9 : b = (h + 9)
                    · rw [if_neg (by omega), if_neg (by omega), if_neg (by omega), if_neg (by omega), if_neg (by omega), if_neg (by omega), if_pos e9, if_neg e0, if_neg e1, if_neg e2, if_neg e3, if_neg e4, if_neg e5, if_neg e6, if_neg e7, if_neg e8, if_pos e9]
                    · revert e9; intro e9
                      by_cases e10 : b = (h + 10)
                      · rw [if_neg (by omega), if_neg (by omega), if_neg (by omega), if_neg (by omega), if_neg (by omega), if_pos e10, if_neg e0, if_neg e1, if_neg e2, if_neg e3, if_neg e4, if_neg e5, if_neg e6, if_neg e7, if_neg e8, if_neg e9, if_pos e10]
                      · revert e10; intro e10
                        by_cases e11 : b = (h + 11)
                        · rw [if_neg (by omega), if_neg (by omega), if_neg (by omega), if_neg (by omega), if_pos e11, if_neg e0, if_neg e1, if_neg e2, if_neg e3, if_neg e4, if_neg e5, if_neg e6, if_neg e7, if_neg e8, if_neg e9, if_neg e10, if_pos e11]
                        · revert e11; intro e11
                          by_cases e12 : b = (h + 12)
                          · rw [if_neg (by omega), if_neg (by omega), if_neg (by omega), if_pos e12, if_neg e0, if_neg e1, if_neg e2, if_neg e3, if_neg e4, if_neg e5, if_neg e6, if_neg e7, if_neg e8, if_neg e9, if_neg e10, if_neg e11, if_pos e12]
                          · revert e12; intro e12
                            by_cases e13 : b = (h + 13)
                            · rw [if_neg (by omega), if_neg (by omega), if_pos e13, if_neg e0, if_neg e1, if_neg e2, if_neg e3, if_neg e4, if_neg e5, if_neg e6, if_neg e7, if_neg e8, if_neg e9, if_neg e10, if_neg e11, if_neg e12, if_pos e13]
                            · revert e13; intro e13
                              by_cases e14 : b = (h + 14)
                              · rw [if_neg (by omega), if_pos e14, if_neg e0, if_neg e1, if_neg e2, if_neg e3, if_neg e4, if_neg e5, if_neg e6, if_neg e7, if_neg e8, if_neg e9, if_neg e10, if_neg e11, if_neg e12, if_neg e13, if_pos e14]
                              · revert e14; intro e14
                                rw [if_neg e0, if_neg e14, if_neg e13, if_neg e12, if_neg e11, if_neg e10, if_neg e9, if_neg e8, if_neg e7, if_neg e6, if_neg e5, if_neg e4, if_neg e3, if_neg e2, if_neg e1, if_neg e0, if_neg e1, if_neg e2, if_neg e3, if_neg e4, if_neg e5, if_neg e6, if_neg e7, if_neg e8, if_neg e9, if_neg e10, if_neg e11, if_neg e12, if_neg e13, if_neg e14]
set_option maxHeartbeats 4000000 in
set_option maxRecDepth 100000 in
theorem c_X4_init (l : Launch) (g : gX) (s0 : Nat) (w : wd_M) (h : Nat) (hs0 : s0 ≤ h) (Lh : w h = some (.inr (5, [.int (0), .null, .null, .null, .int (0), .null, .null, .null, .int (0), .int (0), .null, .null, .null, .int (0), .null, .null, .int (0), .int (0), .null, .null, .null]))) : Met l yX4_init (Cond.code yX4_init cX4_init 1 (none) :: tg) ({ frames := 1, cells := 14, slots := 48694, locals := 12 }) (cPz g s0 w (h + 1) [.ref h]) (cVz g s0 (h + 15) (fun w' => w' = (mW g w h 0 0 0 (nI 1024) 0 0 0 (fun _ => 0) (fun _ => 0) (fun _ => 0) (fun _ => 0) (fun _ => 0) (fun _ => 0) (fun _ => 0) (fun _ => 0) (fun _ => 0) (fun _ => 0) (fun _ => 0) (fun _ => 0) (fun _ => 0) (fun _ => 0)))) 14 48694 (cA s0) := by
  refine Met.ofW (cc := cX4_init) (maxL := 1) (ret := none) (by decide) rfl ?_
  intro p e s m args below meth c s₁ B9 hml hv
  obtain ⟨rfl, hsz, h0s, hP, hK⟩ := hv
  have hx := B9.exec
  have hb := B9.bytes
  have hr := B9.returns
  have hts := atoms_spec (ws := Cond.code yX4_init cX4_init 1 (none) :: tg) B9.pre
  have hown : s.vm.findClass RX4 = some m.cls := findClass_of_methodNamed B9.named
  have hlocks := B9.notSynchronized
  have hin : meth.name = "<init>" := (name_of_methodNamed B9.named B9.method).1
  have hS : gS s0 s.heap s.heap [] := va_S.rf
  have hRm : 1 ≤ (headSpec (Cond.code yX4_init cX4_init 1 (none) :: tg) ({ frames := 1, cells := 14, slots := 48694, locals := 12 })).room.frames ∧ 12 ≤ (headSpec (Cond.code yX4_init cX4_init 1 (none) :: tg) ({ frames := 1, cells := 14, slots := 48694, locals := 12 })).room.locals := ⟨Nat.le_refl _, Nat.le_refl _⟩
  have hcs : 0 + 0 ≤ (headSpec (Cond.code yX4_init cX4_init 1 (none) :: tg) ({ frames := 1, cells := 14, slots := 48694, locals := 12 })).room.cells ∧ 0 + 0 ≤ (headSpec (Cond.code yX4_init cX4_init 1 (none) :: tg) ({ frames := 1, cells := 14, slots := 48694, locals := 12 })).room.slots := ⟨Nat.zero_le _, Nat.zero_le _⟩
  have hl := lv_entry ([.ref h]) (n := 1) (Nat.le_of_ble_eq_true rfl)
  rw [lg_entry_eq]
  generalize (lg_sl ([.ref h]) ++ List.replicate (1 - (lg_sl ([.ref h])).length) Slot.unset).toArray = ls at hl ⊢
  have hl : lv_has ls 1 [(0, .ref h)] := hl
  refine lv_aload_n hx hb dX4_init_0 rfl (lv_at hl 0 rfl) ?_
  refine W.objInit hx hb hown (hts _ (tg_tail _ tw_421)) (hts _ (tg_tail _ tw_18)) (hts _ (tg_tail _ tw_19)) rfl (by rw [hml]; exact hl.1) rfl dX4_init_1 (Nat.le_trans (by decide) hRm.1) (Nat.le_trans (Nat.le_of_ble_eq_true rfl) hRm.2) ?_
  refine W.eq (g2 := F0 m 4 ls []) rfl ?_
  refine lv_aload_n hx hb dX4_init_4 rfl (lv_at hl 0 rfl) ?_
  refine lv_sipush (v := nI 150) hx hb dX4_init_5 (by decide +kernel) ?_
  refine wd_newiZ (atype := .int) (q := (h + 1)) hx hb (hts _ (tg_tail _ tw_40)) (ty := .int) rfl hK.1 hP hS 0 (cA := g.2 0) rfl (a0 := (150, .inl (fun _ => 0))) (N' := 150) (fun _ => rfl) (by decide +kernel) (by decide +kernel) (by decide +kernel) (by decide +kernel) (by decide +kernel) hsz dX4_init_8 (fun H hsz hP hS => ?_)
  refine wd_putF (ci := 5) (v := .ref (h + 1)) (ty := (.array .int)) (C := RX4) (T := TX4) (N := 21) hx hb hts iwX4 tyX4 tyX4_ok nmX4 hown hK.1 hP hS (by omega) ((wd_un (by omega)).trans (Lh)) rfl 1 (by decide) (hts _ (tg_tail _ tw_424)) (fun _ h9 => h9) rfl hin rfl (by decide +kernel) (rfl) (rfl) (Nat.le_of_ble_eq_true rfl) dX4_init_10 (fun H locs hP hS hz => ?_)
  have hsz := hz.trans hsz
  have hP : gP g (wd_up (wd_up w (h + 1) (wd_iA (g.2 0) 150 (fun _ => 0))) h (.inr (5, [.int (0), .ref (h + 1), .null, .null, .int (0), .null, .null, .null, .int (0), .int (0), .null, .null, .null, .int (0), .null, .null, .int (0), .int (0), .null, .null, .null]))) H := hP
  refine lv_aload_n hx hb dX4_init_13 rfl (lv_at hl 0 rfl) ?_
  refine lv_sipush (v := nI 150) hx hb dX4_init_14 (by decide +kernel) ?_
  refine wd_newiZ (atype := .int) (q := (h + 2)) hx hb (hts _ (tg_tail _ tw_40)) (ty := .int) rfl hK.1 hP hS 0 (cA := g.2 0) rfl (a0 := (150, .inl (fun _ => 0))) (N' := 150) (fun _ => rfl) (by decide +kernel) (by decide +kernel) (by decide +kernel) (by decide +kernel) (by decide +kernel) hsz dX4_init_17 (fun H hsz hP hS => ?_)
  refine wd_putF (ci := 5) (v := .ref (h + 2)) (ty := (.array .int)) (C := RX4) (T := TX4) (N := 21) hx hb hts iwX4 tyX4 tyX4_ok nmX4 hown hK.1 hP hS (by omega) ((wd_un (by omega)).trans (wd_us)) rfl 2 (by decide) (hts _ (tg_tail _ tw_425)) (fun _ h9 => h9) rfl hin rfl (by decide +kernel) (rfl) (rfl) (Nat.le_of_ble_eq_true rfl) dX4_init_19 (fun H locs hP hS hz => ?_)
  have hsz := hz.trans hsz
  have hP : gP g (wd_up (wd_up (wd_up w (h + 1) (wd_iA (g.2 0) 150 (fun _ => 0))) (h + 2) (wd_iA (g.2 0) 150 (fun _ => 0))) h (.inr (5, [.int (0), .ref (h + 1), .ref (h + 2), .null, .int (0), .null, .null, .null, .int (0), .int (0), .null, .null, .null, .int (0), .null, .null, .int (0), .int (0), .null, .null, .null]))) H := by have h9 := hP; rw [wd_d1] at h9; exact h9
  refine lv_aload_n hx hb dX4_init_22 rfl (lv_at hl 0 rfl) ?_
  refine lv_sipush (v := nI 150) hx hb dX4_init_23 (by decide +kernel) ?_
  refine wd_newiZ (atype := .int) (q := (h + 3)) hx hb (hts _ (tg_tail _ tw_40)) (ty := .int) rfl hK.1 hP hS 0 (cA := g.2 0) rfl (a0 := (150, .inl (fun _ => 0))) (N' := 150) (fun _ => rfl) (by decide +kernel) (by decide +kernel) (by decide +kernel) (by decide +kernel) (by decide +kernel) hsz dX4_init_26 (fun H hsz hP hS => ?_)
  refine wd_putF (ci := 5) (v := .ref (h + 3)) (ty := (.array .int)) (C := RX4) (T := TX4) (N := 21) hx hb hts iwX4 tyX4 tyX4_ok nmX4 hown hK.1 hP hS (by omega) ((wd_un (by omega)).trans (wd_us)) rfl 3 (by decide) (hts _ (tg_tail _ tw_426)) (fun _ h9 => h9) rfl hin rfl (by decide +kernel) (rfl) (rfl) (Nat.le_of_ble_eq_true rfl) dX4_init_28 (fun H locs hP hS hz => ?_)
  have hsz := hz.trans hsz
  have hP : gP g (wd_up (wd_up (wd_up (wd_up w (h + 1) (wd_iA (g.2 0) 150 (fun _ => 0))) (h + 2) (wd_iA (g.2 0) 150 (fun _ => 0))) (h + 3) (wd_iA (g.2 0) 150 (fun _ => 0))) h (.inr (5, [.int (0), .ref (h + 1), .ref (h + 2), .ref (h + 3), .int (0), .null, .null, .null, .int (0), .int (0), .null, .null, .null, .int (0), .null, .null, .int (0), .int (0), .null, .null, .null]))) H := by have h9 := hP; rw [wd_d1] at h9; exact h9
  refine lv_aload_n hx hb dX4_init_31 rfl (lv_at hl 0 rfl) ?_
  refine lv_bipush (v := nI 41) hx hb dX4_init_32 (by decide) ?_
  refine wd_newiZ (atype := .int) (q := (h + 4)) hx hb (hts _ (tg_tail _ tw_40)) (ty := .int) rfl hK.1 hP hS 0 (cA := g.2 0) rfl (a0 := (41, .inl (fun _ => 0))) (N' := 41) (fun _ => rfl) (by decide +kernel) (by decide +kernel) (by decide +kernel) (by decide +kernel) (by decide +kernel) hsz dX4_init_34 (fun H hsz hP hS => ?_)
  refine wd_putF (ci := 5) (v := .ref (h + 4)) (ty := (.array .int)) (C := RX4) (T := TX4) (N := 21) hx hb hts iwX4 tyX4 tyX4_ok nmX4 hown hK.1 hP hS (by omega) ((wd_un (by omega)).trans (wd_us)) rfl 5 (by decide) (hts _ (tg_tail _ tw_428)) (fun _ h9 => h9) rfl hin rfl (by decide +kernel) (rfl) (rfl) (Nat.le_of_ble_eq_true rfl) dX4_init_36 (fun H locs hP hS hz => ?_)
  have hsz := hz.trans hsz
  have hP : gP g (wd_up (wd_up (wd_up (wd_up (wd_up w (h + 1) (wd_iA (g.2 0) 150 (fun _ => 0))) (h + 2) (wd_iA (g.2 0) 150 (fun _ => 0))) (h + 3) (wd_iA (g.2 0) 150 (fun _ => 0))) (h + 4) (wd_iA (g.2 0) 41 (fun _ => 0))) h (.inr (5, [.int (0), .ref (h + 1), .ref (h + 2), .ref (h + 3), .int (0), .ref (h + 4), .null, .null, .int (0), .int (0), .null, .null, .null, .int (0), .null, .null, .int (0), .int (0), .null, .null, .null]))) H := by have h9 := hP; rw [wd_d1] at h9; exact h9
  refine lv_aload_n hx hb dX4_init_39 rfl (lv_at hl 0 rfl) ?_
  refine lv_bipush (v := nI 41) hx hb dX4_init_40 (by decide) ?_
  refine wd_newiZ (atype := .int) (q := (h + 5)) hx hb (hts _ (tg_tail _ tw_40)) (ty := .int) rfl hK.1 hP hS 0 (cA := g.2 0) rfl (a0 := (41, .inl (fun _ => 0))) (N' := 41) (fun _ => rfl) (by decide +kernel) (by decide +kernel) (by decide +kernel) (by decide +kernel) (by decide +kernel) hsz dX4_init_42 (fun H hsz hP hS => ?_)
  refine wd_putF (ci := 5) (v := .ref (h + 5)) (ty := (.array .int)) (C := RX4) (T := TX4) (N := 21) hx hb hts iwX4 tyX4 tyX4_ok nmX4 hown hK.1 hP hS (by omega) ((wd_un (by omega)).trans (wd_us)) rfl 6 (by decide) (hts _ (tg_tail _ tw_429)) (fun _ h9 => h9) rfl hin rfl (by decide +kernel) (rfl) (rfl) (Nat.le_of_ble_eq_true rfl) dX4_init_44 (fun H locs hP hS hz => ?_)
  have hsz := hz.trans hsz
  have hP : gP g (wd_up (wd_up (wd_up (wd_up (wd_up (wd_up w (h + 1) (wd_iA (g.2 0) 150 (fun _ => 0))) (h + 2) (wd_iA (g.2 0) 150 (fun _ => 0))) (h + 3) (wd_iA (g.2 0) 150 (fun _ => 0))) (h + 4) (wd_iA (g.2 0) 41 (fun _ => 0))) (h + 5) (wd_iA (g.2 0) 41 (fun _ => 0))) h (.inr (5, [.int (0), .ref (h + 1), .ref (h + 2), .ref (h + 3), .int (0), .ref (h + 4), .ref (h + 5), .null, .int (0), .int (0), .null, .null, .null, .int (0), .null, .null, .int (0), .int (0), .null, .null, .null]))) H := by have h9 := hP; rw [wd_d1] at h9; exact h9
  refine lv_aload_n hx hb dX4_init_47 rfl (lv_at hl 0 rfl) ?_
  refine lv_bipush (v := nI 41) hx hb dX4_init_48 (by decide) ?_
  refine wd_newiZ (atype := .int) (q := (h + 6)) hx hb (hts _ (tg_tail _ tw_40)) (ty := .int) rfl hK.1 hP hS 0 (cA := g.2 0) rfl (a0 := (41, .inl (fun _ => 0))) (N' := 41) (fun _ => rfl) (by decide +kernel) (by decide +kernel) (by decide +kernel) (by decide +kernel) (by decide +kernel) hsz dX4_init_50 (fun H hsz hP hS => ?_)
  refine wd_putF (ci := 5) (v := .ref (h + 6)) (ty := (.array .int)) (C := RX4) (T := TX4) (N := 21) hx hb hts iwX4 tyX4 tyX4_ok nmX4 hown hK.1 hP hS (by omega) ((wd_un (by omega)).trans (wd_us)) rfl 7 (by decide) (hts _ (tg_tail _ tw_430)) (fun _ h9 => h9) rfl hin rfl (by decide +kernel) (rfl) (rfl) (Nat.le_of_ble_eq_true rfl) dX4_init_52 (fun H locs hP hS hz => ?_)
  have hsz := hz.trans hsz
  have hP : gP g (wd_up (wd_up (wd_up (wd_up (wd_up (wd_up (wd_up w (h + 1) (wd_iA (g.2 0) 150 (fun _ => 0))) (h + 2) (wd_iA (g.2 0) 150 (fun _ => 0))) (h + 3) (wd_iA (g.2 0) 150 (fun _ => 0))) (h + 4) (wd_iA (g.2 0) 41 (fun _ => 0))) (h + 5) (wd_iA (g.2 0) 41 (fun _ => 0))) (h + 6) (wd_iA (g.2 0) 41 (fun _ => 0))) h (.inr (5, [.int (0), .ref (h + 1), .ref (h + 2), .ref (h + 3), .int (0), .ref (h + 4), .ref (h + 5), .ref (h + 6), .int (0), .int (0), .null, .null, .null, .int (0), .null, .null, .int (0), .int (0), .null, .null, .null]))) H := by have h9 := hP; rw [wd_d1] at h9; exact h9
  refine lv_aload_n hx hb dX4_init_55 rfl (lv_at hl 0 rfl) ?_
  refine lv_sipush (v := nI 1024) hx hb dX4_init_56 (by decide +kernel) ?_
  refine wd_put (ci := 5) (v := .int (nI 1024)) (ty := .int) (C := RX4) (T := TX4) (N := 21) hx hb hts iwX4 tyX4 tyX4_ok nmX4 hown hK.1 hP hS (by omega) (wd_us) rfl 9 (by decide) (hts _ (tg_tail _ tw_432)) (fun _ h9 => h9) rfl (by decide +kernel) (rfl) (rfl) (Nat.le_of_ble_eq_true rfl) dX4_init_59 (fun H locs hP hS hz => ?_)
  have hsz := hz.trans hsz
  have hP : gP g (wd_up (wd_up (wd_up (wd_up (wd_up (wd_up (wd_up w (h + 1) (wd_iA (g.2 0) 150 (fun _ => 0))) (h + 2) (wd_iA (g.2 0) 150 (fun _ => 0))) (h + 3) (wd_iA (g.2 0) 150 (fun _ => 0))) (h + 4) (wd_iA (g.2 0) 41 (fun _ => 0))) (h + 5) (wd_iA (g.2 0) 41 (fun _ => 0))) (h + 6) (wd_iA (g.2 0) 41 (fun _ => 0))) h (.inr (5, [.int (0), .ref (h + 1), .ref (h + 2), .ref (h + 3), .int (0), .ref (h + 4), .ref (h + 5), .ref (h + 6), .int (0), .int (nI 1024), .null, .null, .null, .int (0), .null, .null, .int (0), .int (0), .null, .null, .null]))) H := by have h9 := hP; rw [wd_uu] at h9; exact h9
  refine lv_aload_n hx hb dX4_init_62 rfl (lv_at hl 0 rfl) ?_
  refine lv_ldc hx hb hown (hts _ (tg_tail _ tw_422)) dX4_init_63 ?_
  refine wd_ti (x' := nI 41984) (by decide +kernel) ?_
  refine wd_newiZ (atype := .int) (q := (h + 7)) hx hb (hts _ (tg_tail _ tw_40)) (ty := .int) rfl hK.1 hP hS 0 (cA := g.2 0) rfl (a0 := (41984, .inl (fun _ => 0))) (N' := 41984) (fun _ => rfl) (by decide +kernel) (by decide +kernel) (by decide +kernel) (by decide +kernel) (by decide +kernel) hsz dX4_init_65 (fun H hsz hP hS => ?_)
  refine wd_putF (ci := 5) (v := .ref (h + 7)) (ty := (.array .int)) (C := RX4) (T := TX4) (N := 21) hx hb hts iwX4 tyX4 tyX4_ok nmX4 hown hK.1 hP hS (by omega) ((wd_un (by omega)).trans (wd_us)) rfl 10 (by decide) (hts _ (tg_tail _ tw_433)) (fun _ h9 => h9) rfl hin rfl (by decide +kernel) (rfl) (rfl) (Nat.le_of_ble_eq_true rfl) dX4_init_67 (fun H locs hP hS hz => ?_)
  have hsz := hz.trans hsz
  have hP : gP g (wd_up (wd_up (wd_up (wd_up (wd_up (wd_up (wd_up (wd_up w (h + 1) (wd_iA (g.2 0) 150 (fun _ => 0))) (h + 2) (wd_iA (g.2 0) 150 (fun _ => 0))) (h + 3) (wd_iA (g.2 0) 150 (fun _ => 0))) (h + 4) (wd_iA (g.2 0) 41 (fun _ => 0))) (h + 5) (wd_iA (g.2 0) 41 (fun _ => 0))) (h + 6) (wd_iA (g.2 0) 41 (fun _ => 0))) (h + 7) (wd_iA (g.2 0) 41984 (fun _ => 0))) h (.inr (5, [.int (0), .ref (h + 1), .ref (h + 2), .ref (h + 3), .int (0), .ref (h + 4), .ref (h + 5), .ref (h + 6), .int (0), .int (nI 1024), .ref (h + 7), .null, .null, .int (0), .null, .null, .int (0), .int (0), .null, .null, .null]))) H := by have h9 := hP; rw [wd_d1] at h9; exact h9
  refine lv_aload_n hx hb dX4_init_70 rfl (lv_at hl 0 rfl) ?_
  refine lv_bipush (v := nI 41) hx hb dX4_init_71 (by decide) ?_
  refine wd_newiZ (atype := .boolean) (q := (h + 8)) hx hb (hts _ (tg_tail _ tw_487)) (ty := .boolean) rfl hK.1 hP hS 1 (cA := g.2 1) rfl (a0 := (41, .inl (fun _ => 0))) (N' := 41) (fun _ => rfl) (by decide +kernel) (by decide +kernel) (by decide +kernel) (by decide +kernel) (by decide +kernel) hsz dX4_init_73 (fun H hsz hP hS => ?_)
  refine wd_putF (ci := 5) (v := .ref (h + 8)) (ty := (.array .boolean)) (C := RX4) (T := TX4) (N := 21) hx hb hts iwX4 tyX4 tyX4_ok nmX4 hown hK.1 hP hS (by omega) ((wd_un (by omega)).trans (wd_us)) rfl 11 (by decide) (hts _ (tg_tail _ tw_434)) (fun _ h9 => h9) rfl hin rfl (by decide +kernel) (rfl) (rfl) (Nat.le_of_ble_eq_true rfl) dX4_init_75 (fun H locs hP hS hz => ?_)
  have hsz := hz.trans hsz
  have hP : gP g (wd_up (wd_up (wd_up (wd_up (wd_up (wd_up (wd_up (wd_up (wd_up w (h + 1) (wd_iA (g.2 0) 150 (fun _ => 0))) (h + 2) (wd_iA (g.2 0) 150 (fun _ => 0))) (h + 3) (wd_iA (g.2 0) 150 (fun _ => 0))) (h + 4) (wd_iA (g.2 0) 41 (fun _ => 0))) (h + 5) (wd_iA (g.2 0) 41 (fun _ => 0))) (h + 6) (wd_iA (g.2 0) 41 (fun _ => 0))) (h + 7) (wd_iA (g.2 0) 41984 (fun _ => 0))) (h + 8) (wd_iA (g.2 1) 41 (fun _ => 0))) h (.inr (5, [.int (0), .ref (h + 1), .ref (h + 2), .ref (h + 3), .int (0), .ref (h + 4), .ref (h + 5), .ref (h + 6), .int (0), .int (nI 1024), .ref (h + 7), .ref (h + 8), .null, .int (0), .null, .null, .int (0), .int (0), .null, .null, .null]))) H := by have h9 := hP; rw [wd_d1] at h9; exact h9
  refine lv_aload_n hx hb dX4_init_78 rfl (lv_at hl 0 rfl) ?_
  refine lv_bipush (v := nI 32) hx hb dX4_init_79 (by decide) ?_
  refine wd_newiZ (atype := .boolean) (q := (h + 9)) hx hb (hts _ (tg_tail _ tw_487)) (ty := .boolean) rfl hK.1 hP hS 1 (cA := g.2 1) rfl (a0 := (32, .inl (fun _ => 0))) (N' := 32) (fun _ => rfl) (by decide +kernel) (by decide +kernel) (by decide +kernel) (by decide +kernel) (by decide +kernel) hsz dX4_init_81 (fun H hsz hP hS => ?_)
  refine wd_putF (ci := 5) (v := .ref (h + 9)) (ty := (.array .boolean)) (C := RX4) (T := TX4) (N := 21) hx hb hts iwX4 tyX4 tyX4_ok nmX4 hown hK.1 hP hS (by omega) ((wd_un (by omega)).trans (wd_us)) rfl 12 (by decide) (hts _ (tg_tail _ tw_435)) (fun _ h9 => h9) rfl hin rfl (by decide +kernel) (rfl) (rfl) (Nat.le_of_ble_eq_true rfl) dX4_init_83 (fun H locs hP hS hz => ?_)
  have hsz := hz.trans hsz
  have hP : gP g (wd_up (wd_up (wd_up (wd_up (wd_up (wd_up (wd_up (wd_up (wd_up (wd_up w (h + 1) (wd_iA (g.2 0) 150 (fun _ => 0))) (h + 2) (wd_iA (g.2 0) 150 (fun _ => 0))) (h + 3) (wd_iA (g.2 0) 150 (fun _ => 0))) (h + 4) (wd_iA (g.2 0) 41 (fun _ => 0))) (h + 5) (wd_iA (g.2 0) 41 (fun _ => 0))) (h + 6) (wd_iA (g.2 0) 41 (fun _ => 0))) (h + 7) (wd_iA (g.2 0) 41984 (fun _ => 0))) (h + 8) (wd_iA (g.2 1) 41 (fun _ => 0))) (h + 9) (wd_iA (g.2 1) 32 (fun _ => 0))) h (.inr (5, [.int (0), .ref (h + 1), .ref (h + 2), .ref (h + 3), .int (0), .ref (h + 4), .ref (h + 5), .ref (h + 6), .int (0), .int (nI 1024), .ref (h + 7), .ref (h + 8), .ref (h + 9), .int (0), .null, .null, .int (0), .int (0), .null, .null, .null]))) H := by have h9 := hP; rw [wd_d1] at h9; exact h9
  refine lv_aload_n hx hb dX4_init_86 rfl (lv_at hl 0 rfl) ?_
  refine lv_bipush (v := nI 32) hx hb dX4_init_87 (by decide) ?_
  refine wd_newiZ (atype := .int) (q := (h + 10)) hx hb (hts _ (tg_tail _ tw_40)) (ty := .int) rfl hK.1 hP hS 0 (cA := g.2 0) rfl (a0 := (32, .inl (fun _ => 0))) (N' := 32) (fun _ => rfl) (by decide +kernel) (by decide +kernel) (by decide +kernel) (by decide +kernel) (by decide +kernel) hsz dX4_init_89 (fun H hsz hP hS => ?_)
  refine wd_putF (ci := 5) (v := .ref (h + 10)) (ty := (.array .int)) (C := RX4) (T := TX4) (N := 21) hx hb hts iwX4 tyX4 tyX4_ok nmX4 hown hK.1 hP hS (by omega) ((wd_un (by omega)).trans (wd_us)) rfl 14 (by decide) (hts _ (tg_tail _ tw_437)) (fun _ h9 => h9) rfl hin rfl (by decide +kernel) (rfl) (rfl) (Nat.le_of_ble_eq_true rfl) dX4_init_91 (fun H locs hP hS hz => ?_)
  have hsz := hz.trans hsz
  have hP : gP g (wd_up (wd_up (wd_up (wd_up (wd_up (wd_up (wd_up (wd_up (wd_up (wd_up (wd_up w (h + 1) (wd_iA (g.2 0) 150 (fun _ => 0))) (h + 2) (wd_iA (g.2 0) 150 (fun _ => 0))) (h + 3) (wd_iA (g.2 0) 150 (fun _ => 0))) (h + 4) (wd_iA (g.2 0) 41 (fun _ => 0))) (h + 5) (wd_iA (g.2 0) 41 (fun _ => 0))) (h + 6) (wd_iA (g.2 0) 41 (fun _ => 0))) (h + 7) (wd_iA (g.2 0) 41984 (fun _ => 0))) (h + 8) (wd_iA (g.2 1) 41 (fun _ => 0))) (h + 9) (wd_iA (g.2 1) 32 (fun _ => 0))) (h + 10) (wd_iA (g.2 0) 32 (fun _ => 0))) h (.inr (5, [.int (0), .ref (h + 1), .ref (h + 2), .ref (h + 3), .int (0), .ref (h + 4), .ref (h + 5), .ref (h + 6), .int (0), .int (nI 1024), .ref (h + 7), .ref (h + 8), .ref (h + 9), .int (0), .ref (h + 10), .null, .int (0), .int (0), .null, .null, .null]))) H := by have h9 := hP; rw [wd_d1] at h9; exact h9
  refine lv_aload_n hx hb dX4_init_94 rfl (lv_at hl 0 rfl) ?_
  refine lv_bipush (v := nI 32) hx hb dX4_init_95 (by decide) ?_
  refine wd_newiZ (atype := .int) (q := (h + 11)) hx hb (hts _ (tg_tail _ tw_40)) (ty := .int) rfl hK.1 hP hS 0 (cA := g.2 0) rfl (a0 := (32, .inl (fun _ => 0))) (N' := 32) (fun _ => rfl) (by decide +kernel) (by decide +kernel) (by decide +kernel) (by decide +kernel) (by decide +kernel) hsz dX4_init_97 (fun H hsz hP hS => ?_)
  refine wd_putF (ci := 5) (v := .ref (h + 11)) (ty := (.array .int)) (C := RX4) (T := TX4) (N := 21) hx hb hts iwX4 tyX4 tyX4_ok nmX4 hown hK.1 hP hS (by omega) ((wd_un (by omega)).trans (wd_us)) rfl 15 (by decide) (hts _ (tg_tail _ tw_438)) (fun _ h9 => h9) rfl hin rfl (by decide +kernel) (rfl) (rfl) (Nat.le_of_ble_eq_true rfl) dX4_init_99 (fun H locs hP hS hz => ?_)
  have hsz := hz.trans hsz
  have hP : gP g (wd_up (wd_up (wd_up (wd_up (wd_up (wd_up (wd_up (wd_up (wd_up (wd_up (wd_up (wd_up w (h + 1) (wd_iA (g.2 0) 150 (fun _ => 0))) (h + 2) (wd_iA (g.2 0) 150 (fun _ => 0))) (h + 3) (wd_iA (g.2 0) 150 (fun _ => 0))) (h + 4) (wd_iA (g.2 0) 41 (fun _ => 0))) (h + 5) (wd_iA (g.2 0) 41 (fun _ => 0))) (h + 6) (wd_iA (g.2 0) 41 (fun _ => 0))) (h + 7) (wd_iA (g.2 0) 41984 (fun _ => 0))) (h + 8) (wd_iA (g.2 1) 41 (fun _ => 0))) (h + 9) (wd_iA (g.2 1) 32 (fun _ => 0))) (h + 10) (wd_iA (g.2 0) 32 (fun _ => 0))) (h + 11) (wd_iA (g.2 0) 32 (fun _ => 0))) h (.inr (5, [.int (0), .ref (h + 1), .ref (h + 2), .ref (h + 3), .int (0), .ref (h + 4), .ref (h + 5), .ref (h + 6), .int (0), .int (nI 1024), .ref (h + 7), .ref (h + 8), .ref (h + 9), .int (0), .ref (h + 10), .ref (h + 11), .int (0), .int (0), .null, .null, .null]))) H := by have h9 := hP; rw [wd_d1] at h9; exact h9
  refine lv_aload_n hx hb dX4_init_102 rfl (lv_at hl 0 rfl) ?_
  refine lv_sipush (v := nI 2000) hx hb dX4_init_103 (by decide +kernel) ?_
  refine wd_newiZ (atype := .int) (q := (h + 12)) hx hb (hts _ (tg_tail _ tw_40)) (ty := .int) rfl hK.1 hP hS 0 (cA := g.2 0) rfl (a0 := (2000, .inl (fun _ => 0))) (N' := 2000) (fun _ => rfl) (by decide +kernel) (by decide +kernel) (by decide +kernel) (by decide +kernel) (by decide +kernel) hsz dX4_init_106 (fun H hsz hP hS => ?_)
  refine wd_putF (ci := 5) (v := .ref (h + 12)) (ty := (.array .int)) (C := RX4) (T := TX4) (N := 21) hx hb hts iwX4 tyX4 tyX4_ok nmX4 hown hK.1 hP hS (by omega) ((wd_un (by omega)).trans (wd_us)) rfl 18 (by decide) (hts _ (tg_tail _ tw_441)) (fun _ h9 => h9) rfl hin rfl (by decide +kernel) (rfl) (rfl) (Nat.le_of_ble_eq_true rfl) dX4_init_108 (fun H locs hP hS hz => ?_)
  have hsz := hz.trans hsz
  have hP : gP g (wd_up (wd_up (wd_up (wd_up (wd_up (wd_up (wd_up (wd_up (wd_up (wd_up (wd_up (wd_up (wd_up w (h + 1) (wd_iA (g.2 0) 150 (fun _ => 0))) (h + 2) (wd_iA (g.2 0) 150 (fun _ => 0))) (h + 3) (wd_iA (g.2 0) 150 (fun _ => 0))) (h + 4) (wd_iA (g.2 0) 41 (fun _ => 0))) (h + 5) (wd_iA (g.2 0) 41 (fun _ => 0))) (h + 6) (wd_iA (g.2 0) 41 (fun _ => 0))) (h + 7) (wd_iA (g.2 0) 41984 (fun _ => 0))) (h + 8) (wd_iA (g.2 1) 41 (fun _ => 0))) (h + 9) (wd_iA (g.2 1) 32 (fun _ => 0))) (h + 10) (wd_iA (g.2 0) 32 (fun _ => 0))) (h + 11) (wd_iA (g.2 0) 32 (fun _ => 0))) (h + 12) (wd_iA (g.2 0) 2000 (fun _ => 0))) h (.inr (5, [.int (0), .ref (h + 1), .ref (h + 2), .ref (h + 3), .int (0), .ref (h + 4), .ref (h + 5), .ref (h + 6), .int (0), .int (nI 1024), .ref (h + 7), .ref (h + 8), .ref (h + 9), .int (0), .ref (h + 10), .ref (h + 11), .int (0), .int (0), .ref (h + 12), .null, .null]))) H := by have h9 := hP; rw [wd_d1] at h9; exact h9
  refine lv_aload_n hx hb dX4_init_111 rfl (lv_at hl 0 rfl) ?_
  refine lv_sipush (v := nI 2000) hx hb dX4_init_112 (by decide +kernel) ?_
  refine wd_newiZ (atype := .int) (q := (h + 13)) hx hb (hts _ (tg_tail _ tw_40)) (ty := .int) rfl hK.1 hP hS 0 (cA := g.2 0) rfl (a0 := (2000, .inl (fun _ => 0))) (N' := 2000) (fun _ => rfl) (by decide +kernel) (by decide +kernel) (by decide +kernel) (by decide +kernel) (by decide +kernel) hsz dX4_init_115 (fun H hsz hP hS => ?_)
  refine wd_putF (ci := 5) (v := .ref (h + 13)) (ty := (.array .int)) (C := RX4) (T := TX4) (N := 21) hx hb hts iwX4 tyX4 tyX4_ok nmX4 hown hK.1 hP hS (by omega) ((wd_un (by omega)).trans (wd_us)) rfl 19 (by decide) (hts _ (tg_tail _ tw_442)) (fun _ h9 => h9) rfl hin rfl (by decide +kernel) (rfl) (rfl) (Nat.le_of_ble_eq_true rfl) dX4_init_117 (fun H locs hP hS hz => ?_)
  have hsz := hz.trans hsz
  have hP : gP g (wd_up (wd_up (wd_up (wd_up (wd_up (wd_up (wd_up (wd_up (wd_up (wd_up (wd_up (wd_up (wd_up (wd_up w (h + 1) (wd_iA (g.2 0) 150 (fun _ => 0))) (h + 2) (wd_iA (g.2 0) 150 (fun _ => 0))) (h + 3) (wd_iA (g.2 0) 150 (fun _ => 0))) (h + 4) (wd_iA (g.2 0) 41 (fun _ => 0))) (h + 5) (wd_iA (g.2 0) 41 (fun _ => 0))) (h + 6) (wd_iA (g.2 0) 41 (fun _ => 0))) (h + 7) (wd_iA (g.2 0) 41984 (fun _ => 0))) (h + 8) (wd_iA (g.2 1) 41 (fun _ => 0))) (h + 9) (wd_iA (g.2 1) 32 (fun _ => 0))) (h + 10) (wd_iA (g.2 0) 32 (fun _ => 0))) (h + 11) (wd_iA (g.2 0) 32 (fun _ => 0))) (h + 12) (wd_iA (g.2 0) 2000 (fun _ => 0))) (h + 13) (wd_iA (g.2 0) 2000 (fun _ => 0))) h (.inr (5, [.int (0), .ref (h + 1), .ref (h + 2), .ref (h + 3), .int (0), .ref (h + 4), .ref (h + 5), .ref (h + 6), .int (0), .int (nI 1024), .ref (h + 7), .ref (h + 8), .ref (h + 9), .int (0), .ref (h + 10), .ref (h + 11), .int (0), .int (0), .ref (h + 12), .ref (h + 13), .null]))) H := by have h9 := hP; rw [wd_d1] at h9; exact h9
  refine lv_aload_n hx hb dX4_init_120 rfl (lv_at hl 0 rfl) ?_
  refine lv_sipush (v := nI 2000) hx hb dX4_init_121 (by decide +kernel) ?_
  refine wd_newiZ (atype := .int) (q := (h + 14)) hx hb (hts _ (tg_tail _ tw_40)) (ty := .int) rfl hK.1 hP hS 0 (cA := g.2 0) rfl (a0 := (2000, .inl (fun _ => 0))) (N' := 2000) (fun _ => rfl) (by decide +kernel) (by decide +kernel) (by decide +kernel) (by decide +kernel) (by decide +kernel) hsz dX4_init_124 (fun H hsz hP hS => ?_)
  refine wd_putF (ci := 5) (v := .ref (h + 14)) (ty := (.array .int)) (C := RX4) (T := TX4) (N := 21) hx hb hts iwX4 tyX4 tyX4_ok nmX4 hown hK.1 hP hS (by omega) ((wd_un (by omega)).trans (wd_us)) rfl 20 (by decide) (hts _ (tg_tail _ tw_443)) (fun _ h9 => h9) rfl hin rfl (by decide +kernel) (rfl) (rfl) (Nat.le_of_ble_eq_true rfl) dX4_init_126 (fun H locs hP hS hz => ?_)
  have hsz := hz.trans hsz
  have hP : gP g (wd_up (wd_up (wd_up (wd_up (wd_up (wd_up (wd_up (wd_up (wd_up (wd_up (wd_up (wd_up (wd_up (wd_up (wd_up w (h + 1) (wd_iA (g.2 0) 150 (fun _ => 0))) (h + 2) (wd_iA (g.2 0) 150 (fun _ => 0))) (h + 3) (wd_iA (g.2 0) 150 (fun _ => 0))) (h + 4) (wd_iA (g.2 0) 41 (fun _ => 0))) (h + 5) (wd_iA (g.2 0) 41 (fun _ => 0))) (h + 6) (wd_iA (g.2 0) 41 (fun _ => 0))) (h + 7) (wd_iA (g.2 0) 41984 (fun _ => 0))) (h + 8) (wd_iA (g.2 1) 41 (fun _ => 0))) (h + 9) (wd_iA (g.2 1) 32 (fun _ => 0))) (h + 10) (wd_iA (g.2 0) 32 (fun _ => 0))) (h + 11) (wd_iA (g.2 0) 32 (fun _ => 0))) (h + 12) (wd_iA (g.2 0) 2000 (fun _ => 0))) (h + 13) (wd_iA (g.2 0) 2000 (fun _ => 0))) (h + 14) (wd_iA (g.2 0) 2000 (fun _ => 0))) h (.inr (5, [.int (0), .ref (h + 1), .ref (h + 2), .ref (h + 3), .int (0), .ref (h + 4), .ref (h + 5), .ref (h + 6), .int (0), .int (nI 1024), .ref (h + 7), .ref (h + 8), .ref (h + 9), .int (0), .ref (h + 10), .ref (h + 11), .int (0), .int (0), .ref (h + 12), .ref (h + 13), .ref (h + 14)]))) H := by have h9 := hP; rw [wd_d1] at h9; exact h9
  have e7 : (wd_up (wd_up (wd_up (wd_up (wd_up (wd_up (wd_up (wd_up (wd_up (wd_up (wd_up (wd_up (wd_up (wd_up (wd_up w (h + 1) (wd_iA (g.2 0) 150 (fun _ => 0))) (h + 2) (wd_iA (g.2 0) 150 (fun _ => 0))) (h + 3) (wd_iA (g.2 0) 150 (fun _ => 0))) (h + 4) (wd_iA (g.2 0) 41 (fun _ => 0))) (h + 5) (wd_iA (g.2 0) 41 (fun _ => 0))) (h + 6) (wd_iA (g.2 0) 41 (fun _ => 0))) (h + 7) (wd_iA (g.2 0) 41984 (fun _ => 0))) (h + 8) (wd_iA (g.2 1) 41 (fun _ => 0))) (h + 9) (wd_iA (g.2 1) 32 (fun _ => 0))) (h + 10) (wd_iA (g.2 0) 32 (fun _ => 0))) (h + 11) (wd_iA (g.2 0) 32 (fun _ => 0))) (h + 12) (wd_iA (g.2 0) 2000 (fun _ => 0))) (h + 13) (wd_iA (g.2 0) 2000 (fun _ => 0))) (h + 14) (wd_iA (g.2 0) 2000 (fun _ => 0))) h (.inr (5, [.int (0), .ref (h + 1), .ref (h + 2), .ref (h + 3), .int (0), .ref (h + 4), .ref (h + 5), .ref (h + 6), .int (0), .int (nI 1024), .ref (h + 7), .ref (h + 8), .ref (h + 9), .int (0), .ref (h + 10), .ref (h + 11), .int (0), .int (0), .ref (h + 12), .ref (h + 13), .ref (h + 14)]))) = (mW g w h 0 0 0 (nI 1024) 0 0 0 (fun _ => 0) (fun _ => 0) (fun _ => 0) (fun _ => 0) (fun _ => 0) (fun _ => 0) (fun _ => 0) (fun _ => 0) (fun _ => 0) (fun _ => 0) (fun _ => 0) (fun _ => 0) (fun _ => 0) (fun _ => 0)) := by
    exact mW_ch
  rw [e7] at hP
  refine W.widen (k := 14) (n := 48694) (by decide +kernel) (by decide +kernel) ?_
  exact W.vret hx hb hr (fun t9 ht hW => ⟨⟨(mW g w h 0 0 0 (nI 1024) 0 0 0 (fun _ => 0) (fun _ => 0) (fun _ => 0) (fun _ => 0) (fun _ => 0) (fun _ => 0) (fun _ => 0) (fun _ => 0) (fun _ => 0) (fun _ => 0) (fun _ => 0) (fun _ => 0) (fun _ => 0) (fun _ => 0)), rfl, rfl, cBz_of ht hP (hsz)⟩, hS.F ht⟩) hS.2.2 dX4_init_129

