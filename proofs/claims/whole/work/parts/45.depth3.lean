/-! THE LAW'S depth: its contract -/
theorem tE.heapS {s0 sa : Nat} {s U : State} {H : Heap} {locs : List Loc} (h0 : s0 ≤ s.heap.size) (hS : gS s0 s.heap H locs) (hU : U.heap = H) (hW : s.WarmedH U.vm) (h : tE s0 sa s) : tE s0 sa U := h.moved hW (fun q hq => by rw [hU]; exact hS.2.1 q (Nat.lt_of_lt_of_le hq h0) (by show ¬ s0 ≤ q; omega))
theorem tE.vm {s0 sa : Nat} {s U : State} (hv : U.vm = s.vm) (hh : U.heap = s.heap) (h : tE s0 sa s) : tE s0 sa U := h.moved (by rw [hv]; exact State.WarmedH.refl s) (fun q _ => by rw [hh])

set_option maxHeartbeats 4000000 in
set_option maxRecDepth 100000 in
theorem c_L_depth (l : Launch) (hfl : l.flags = pinnedFlags ++ [noTraceFlag]) (g : gX) (s0 sa : Nat) (w : wd_M) (x : Nat) (hs0 : s0 ≤ x) (pc : Int32) (mo : Int32) (no : Int32) (sz : Int32) (wr : Int32) (lk : Nat → Int32) (ps : Nat → Option Nat) (fs : Nat → Int32) (ss : Nat → Int32) (ds : Nat → Int32) (lv : Nat → Int32) (N : Nat) (hN : N ≤ 2000) (i : Int32) (og : Nat) (hog : x + 9 ≤ og) (fo : Nat → Int64) (Lo : w og = some (wd_lA (g.2 3) 1 fo)) : Met l yL_depth (Cond.codeWith yL_depth cL_depth 4 (some .int) [(0, 9, 12, 13)] :: tg) ({ frames := 8, cells := 1, slots := 6, locals := 121 }) (fun a s => cP g s0 (xW g w x pc mo no sz (nI N) wr lk ps fs ss ds lv) [.ref x, .int (i), .ref og] a s ∧ tE s0 sa s) (cI g s0 (fun r w' => ((¬ i < 0 ∧ ¬ nI N ≤ i) ∧ r = nI 0 ∧ w' = (xW g (wd_up w og (wd_lA (g.2 3) 1 (vp_updL fo 0 (ds i.toNatClampNeg).toInt64))) x pc mo no sz (nI N) wr lk ps fs ss ds lv)) ∨ (¬ (¬ i < 0 ∧ ¬ nI N ≤ i) ∧ r = nI 1 ∧ w' = (xW g w x pc mo no sz (nI N) wr lk ps fs ss ds lv)))) 1 6 (cA s0) := by
  refine Met.ofWw (cc := cL_depth) (maxL := 4) (ret := some .int) (hs9 := [(0, 9, 12, 13)]) (by decide) rfl ?_
  intro p e s m args below meth c s₁ B9 hml htab hv
  obtain ⟨⟨rfl, h0s, hP, hK⟩, hE⟩ := hv
  have hx := B9.exec
  have hb := B9.bytes
  have hr := B9.returns
  have hts := atoms_spec (ws := Cond.codeWith yL_depth cL_depth 4 (some .int) [(0, 9, 12, 13)] :: tg) B9.pre
  have hown : s.vm.findClass RL = some m.cls := findClass_of_methodNamed B9.named
  have hlocks := B9.notSynchronized
  have hS : gS s0 s.heap s.heap [] := va_S.rf
  have hRm : 8 ≤ (headSpec (Cond.codeWith yL_depth cL_depth 4 (some .int) [(0, 9, 12, 13)] :: tg) ({ frames := 8, cells := 1, slots := 6, locals := 121 })).room.frames ∧ 121 ≤ (headSpec (Cond.codeWith yL_depth cL_depth 4 (some .int) [(0, 9, 12, 13)] :: tg) ({ frames := 8, cells := 1, slots := 6, locals := 121 })).room.locals := ⟨Nat.le_refl _, Nat.le_refl _⟩
  have hl := lv_entry ([.ref x, .int (i), .ref og]) (n := 4) (Nat.le_of_ble_eq_true rfl)
  rw [lg_entry_eq]
  generalize (lg_sl ([.ref x, .int (i), .ref og]) ++ List.replicate (4 - (lg_sl ([.ref x, .int (i), .ref og])).length) Slot.unset).toArray = ls at hl ⊢
  have hl : lv_has ls 4 [(0, .ref x), (1, .int (i)), (2, .ref og)] := hl
  refine lv_aload_n hx hb dL_depth_0 rfl (lv_at hl 2 rfl) ?_
  refine lv_iconst (v := nI 0) hx hb dL_depth_1 (by decide) ?_
  refine lv_aload_n hx hb dL_depth_2 rfl (lv_at hl 0 rfl) ?_
  refine lv_iload_n hx hb dL_depth_3 rfl (lv_at hl 1 rfl) ?_
  by_cases hy : ¬ i < 0 ∧ ¬ nI N ≤ i
  · refine cr_Vi (As := [.int (i)]) (rest := [.int (nI 0), .ref og]) ⟨hx, hb, hml, hown, hts⟩ (c_X3_depth_r l g s0 w x hs0 pc mo no sz wr lk ps fs ss ds lv N hN i hy) (cw_V 1 hts tg_tail tw_341 tw_342 tw_343 tw_1 tw_344 rfl rfl (by decide +kernel) ⟨Nat.le_trans (by decide) hRm.1, Nat.le_trans (by decide) hRm.2⟩) hK hP h0s hS (xW_0) rfl rfl rfl hl.1 rfl (Nat.le_of_ble_eq_true rfl) dL_depth_4 ⟨Nat.zero_le _, Nat.zero_le _⟩ (fun r9 w9 H locs hw hP hS => ?_)
    obtain ⟨e_r9, hw9⟩ := hw
    rw [hw9] at hP
    subst e_r9
    refine lv_i2l (v := (ds i.toNatClampNeg).toInt64) hx hb dL_depth_7 (rfl) ?_
    refine wd_last (i := nI 0) (x := (ds i.toNatClampNeg).toInt64) hx hb hK.1 hP hS (by omega) 3 (n := 1) (f := fo) (by rw [xW_out (by omega)]; exact Lo) rfl (by unfold vp_in; decide +kernel) dL_depth_8 (fun H locs hP hS hz => ?_)
    have hP : gP g (xW g (wd_up w og (wd_lA (g.2 3) 1 (vp_updL fo 0 (ds i.toNatClampNeg).toInt64))) x pc mo no sz (nI N) wr lk ps fs ss ds lv) H := by
      have h9 := hP
      rw [xW_up (by omega)] at h9
      exact h9
    refine lv_goto (tgt := 15) hx hb dL_depth_9 (by decide) ?_
    refine lv_iconst (v := nI 0) hx hb dL_depth_15 (by decide) ?_
    refine W.widen (k := 1) (n := 6) (by decide) (by decide) ?_
    exact W.iret (v := nI 0) hx hb hr (fun t9 ht hW => ⟨⟨_, (xW g (wd_up w og (wd_lA (g.2 3) 1 (vp_updL fo 0 (ds i.toNatClampNeg).toInt64))) x pc mo no sz (nI N) wr lk ps fs ss ds lv), rfl, Or.inl ⟨hy, rfl, rfl⟩, cB_of ht hP⟩, hS.F ht⟩) hS.2.2 dL_depth_16
  · refine cr_Vt (xe := ⟨0, 9, 12, 13⟩) (As := [.int (i)]) (rest := [.int (nI 0), .ref og]) ⟨hx, hb, hml, hown, hts⟩ (c_X3_depth_t l hfl g s0 sa w x hs0 pc mo no sz wr lk ps fs ss ds lv N hN i hy) (cw_V 1 hts tg_tail tw_341 tw_342 tw_343 tw_1 tw_344 rfl rfl (by decide +kernel) ⟨Nat.le_trans (by decide) hRm.1, Nat.le_trans (by decide) hRm.2⟩) ⟨?_, gP_recv hK hP (xW_0) rfl, ?_⟩ htab (by decide) (by decide) (hts _ (tg_tail _ tw_340)) rfl hl.1 rfl (Nat.le_of_ble_eq_true rfl) dL_depth_4 ⟨Nat.le_refl _, Nat.le_refl _⟩ (fun xa H1 hP1 hz1 hk1 => ?_)
    · intro a U f mk h
      exact ⟨cP_blind a U f mk h.1, tE.vm (s := U) (U := U.calling f mk a) rfl rfl h.2⟩
    · intro U hU hW
      exact ⟨cP_pre hK hP h0s hS U hU hW, hE.heapS h0s hS hU hW⟩
    · have hS1 : gS s0 s.heap H1 [] := ⟨hz1, fun q h1 _ => hk1 q h1, fun q hq => by cases hq⟩
      refine lv_astore_n (lv' := [(3, .ref xa), (0, .ref x), (1, .int (i)), (2, .ref og)]) hx hb dL_depth_12 rfl hl (by decide) rfl (fun ls hl => ?_)
      refine lv_iconst (v := nI 1) hx hb dL_depth_13 (by decide) ?_
      exact W.iret (v := nI 1) hx hb hr (fun t9 ht hW => ⟨⟨_, (xW g w x pc mo no sz (nI N) wr lk ps fs ss ds lv), rfl, Or.inr ⟨hy, rfl, rfl⟩, cB_of ht hP1⟩, hS1.F ht⟩) hS1.2.2 dL_depth_14
