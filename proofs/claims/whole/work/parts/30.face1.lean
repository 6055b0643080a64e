/-! THE CLASS: its face, the calls without a PATH's count -/
theorem ix_n {v : Int32} {n : Nat} (hn : n < 2 ^ 31) (h : 0 ≤ v ∧ v < nI n) : ∃ k, k < n ∧ v = nI k := by
  refine ix_of hn (fun q => ?_) (fun q => ?_)
  · have := h.1
    simp only [Int32.lt_iff_toInt_lt, Int32.le_iff_toInt_le] at *
    omega
  · have := h.2
    simp only [Int32.lt_iff_toInt_lt, Int32.le_iff_toInt_le] at *
    omega
set_option maxHeartbeats 4000000 in
set_option maxRecDepth 100000 in
theorem c_X3_from (l : Launch) (g : gX) (s0 : Nat) (w : wd_M) (x : Nat) (hs0 : s0 ≤ x) (pc : Int32) (mo : Int32) (no : Int32) (sz : Int32) (rs : Int32) (wr : Int32) (lk : Nat → Int32) (ps : Nat → Option Nat) (fs : Nat → Int32) (ss : Nat → Int32) (ds : Nat → Int32) (lv : Nat → Int32) (v : Int32) : Met l yX3_from (Cond.code yX3_from cX3_from 2 (some .int) :: tg) ({ frames := 2, cells := 0, slots := 0, locals := 43 }) (cP g s0 (xW g w x pc mo no sz rs wr lk ps fs ss ds lv) [.ref x, .int (v)]) (cI g s0 (fun r w' => (¬ (0 ≤ v ∧ v < nI 32) ∧ r = -2 ∧ w' = (xW g w x pc mo no sz rs wr lk ps fs ss ds lv)) ∨ (∃ a, a < 32 ∧ v = nI a ∧ r = nI (cf1 lk a 32) ∧ w' = (xW g w x pc mo no sz rs wr lk ps fs ss ds lv)))) 0 0 (cA s0) := by
  refine Met.ofW (cc := cX3_from) (maxL := 2) (ret := some .int) (by decide) rfl ?_
  intro p e s m args below meth c s₁ B9 hml hv
  obtain ⟨rfl, h0s, hP, hK⟩ := hv
  have hx := B9.exec
  have hb := B9.bytes
  have hr := B9.returns
  have hts := atoms_spec (ws := Cond.code yX3_from cX3_from 2 (some .int) :: tg) B9.pre
  have hown : s.vm.findClass RX3 = some m.cls := findClass_of_methodNamed B9.named
  have hlocks := B9.notSynchronized
  have hS : gS s0 s.heap s.heap [] := va_S.rf
  have hRm : 2 ≤ (headSpec (Cond.code yX3_from cX3_from 2 (some .int) :: tg) ({ frames := 2, cells := 0, slots := 0, locals := 43 })).room.frames ∧ 43 ≤ (headSpec (Cond.code yX3_from cX3_from 2 (some .int) :: tg) ({ frames := 2, cells := 0, slots := 0, locals := 43 })).room.locals := ⟨Nat.le_refl _, Nat.le_refl _⟩
  have hcs : 0 + 0 ≤ (headSpec (Cond.code yX3_from cX3_from 2 (some .int) :: tg) ({ frames := 2, cells := 0, slots := 0, locals := 43 })).room.cells ∧ 0 + 0 ≤ (headSpec (Cond.code yX3_from cX3_from 2 (some .int) :: tg) ({ frames := 2, cells := 0, slots := 0, locals := 43 })).room.slots := ⟨Nat.zero_le _, Nat.zero_le _⟩
  have hl := lv_entry ([.ref x, .int (v)]) (n := 2) (Nat.le_of_ble_eq_true rfl)
  rw [lg_entry_eq]
  generalize (lg_sl ([.ref x, .int (v)]) ++ List.replicate (2 - (lg_sl ([.ref x, .int (v)])).length) Slot.unset).toArray = ls at hl ⊢
  have hl : lv_has ls 2 [(0, .ref x), (1, .int (v))] := hl
  refine lv_iload_n hx hb dX3_from_0 rfl (lv_at hl 1 rfl) ?_
  refine cr_Si (As := [.int (v)]) (rest := []) ⟨hx, hb, hml, hown, hts⟩ (c_X3_isNode l g s0 (xW g w x pc mo no sz rs wr lk ps fs ss ds lv) v) (cw_S 1 hts tg_tail tw_92 tw_93 tw_1 tw_94 rfl rfl (by decide +kernel) ⟨Nat.le_trans (by decide) hRm.1, Nat.le_trans (by decide) hRm.2⟩) hK hP h0s hS rfl hl.1 rfl (Nat.le_of_ble_eq_true rfl) dX3_from_1 hcs (fun r9 w9 H locs hw hP hS => ?_)
  obtain ⟨e_r9, hw9⟩ := hw
  rw [hw9] at hP
  subst e_r9
  refine lv_if_eq (tgt := 18) hx hb dX3_from_4 (by decide) (fun c_4 => ?_) (fun c_4 => ?_)
  · have c_4 := zB_0.mp c_4
    refine lv_bipush (v := (-2)) hx hb dX3_from_18 (by decide) ?_
    exact W.iret (v := (-2)) hx hb hr (fun t9 ht hW => ⟨⟨_, (xW g w x pc mo no sz rs wr lk ps fs ss ds lv), rfl, Or.inl ⟨c_4, rfl, rfl⟩, cB_of ht hP⟩, hS.F ht⟩) hS.2.2 dX3_from_20
  · have c_4 := zB_1.mp c_4
    obtain ⟨a, h_a, e_a⟩ := ix_n (n := 32) (by decide) c_4
    subst e_a
    refine lv_aload_n hx hb dX3_from_7 rfl (lv_at hl 0 rfl) ?_
    refine wd_get (ci := 4) (v := .ref (x + 1)) (C := RX3) (T := TX3) (N := 6) hx hb hts iwX3 hown hK.1 hP (xW_0) rfl 0 (by decide) (hts _ (tg_tail _ tw_69)) (fun _ h9 => h9) rfl dX3_from_8 ?_
    refine lv_iload_n hx hb dX3_from_11 rfl (lv_at hl 1 rfl) ?_
    refine cr_Vi (As := [.int (nI a)]) (rest := []) ⟨hx, hb, hml, hown, hts⟩ (c_X2_countFrom l g s0  w x hs0 pc mo no sz rs wr lk ps fs ss ds lv a h_a) (cw_V 1 hts tg_tail tw_171 tw_172 tw_173 tw_2 tw_174 rfl rfl (by decide +kernel) ⟨Nat.le_trans (by decide) hRm.1, Nat.le_trans (by decide) hRm.2⟩) hK hP h0s hS (xW_1) rfl rfl rfl hl.1 rfl (Nat.le_of_ble_eq_true rfl) dX3_from_12 hcs (fun r9 w9 H locs hw hP hS => ?_)
    obtain ⟨e_r9, hw9⟩ := hw
    rw [hw9] at hP
    subst e_r9
    refine lv_goto (tgt := 20) hx hb dX3_from_15 (by decide) ?_
    exact W.iret (v := nI (cf1 lk a 32)) hx hb hr (fun t9 ht hW => ⟨⟨_, (xW g w x pc mo no sz rs wr lk ps fs ss ds lv), rfl, Or.inr ⟨a, h_a, rfl, rfl, rfl⟩, cB_of ht hP⟩, hS.F ht⟩) hS.2.2 dX3_from_20

set_option maxHeartbeats 4000000 in
set_option maxRecDepth 100000 in
theorem c_X3_steps (l : Launch) (g : gX) (s0 : Nat) (w : wd_M) (x : Nat) (hs0 : s0 ≤ x) (pc : Int32) (mo : Int32) (no : Int32) (sz : Int32) (rs : Int32) (wr : Int32) (lk : Nat → Int32) (ps : Nat → Option Nat) (fs : Nat → Int32) (ss : Nat → Int32) (ds : Nat → Int32) (lv : Nat → Int32) (v : Int32) : Met l yX3_steps (Cond.code yX3_steps cX3_steps 2 (some .int) :: tg) ({ frames := 0, cells := 0, slots := 0, locals := 0 }) (cP g s0 (xW g w x pc mo no sz rs wr lk ps fs ss ds lv) [.ref x, .int (v)]) (cI g s0 (fun r w' => (¬ (¬ v < nI 1 ∧ v ≤ nI 1024) ∧ r = -2 ∧ w' = (xW g w x pc mo no sz rs wr lk ps fs ss ds lv)) ∨ ((¬ v < nI 1 ∧ v ≤ nI 1024) ∧ r = nI 1 ∧ w' = (xW g w x pc v no sz rs wr lk ps fs ss ds lv)))) 0 0 (cA s0) := by
  refine Met.ofW (cc := cX3_steps) (maxL := 2) (ret := some .int) (by decide) rfl ?_
  intro p e s m args below meth c s₁ B9 hml hv
  obtain ⟨rfl, h0s, hP, hK⟩ := hv
  have hx := B9.exec
  have hb := B9.bytes
  have hr := B9.returns
  have hts := atoms_spec (ws := Cond.code yX3_steps cX3_steps 2 (some .int) :: tg) B9.pre
  have hown : s.vm.findClass RX3 = some m.cls := findClass_of_methodNamed B9.named
  have hlocks := B9.notSynchronized
  have hS : gS s0 s.heap s.heap [] := va_S.rf
  have hRm : 0 ≤ (headSpec (Cond.code yX3_steps cX3_steps 2 (some .int) :: tg) ({ frames := 0, cells := 0, slots := 0, locals := 0 })).room.frames ∧ 0 ≤ (headSpec (Cond.code yX3_steps cX3_steps 2 (some .int) :: tg) ({ frames := 0, cells := 0, slots := 0, locals := 0 })).room.locals := ⟨Nat.le_refl _, Nat.le_refl _⟩
  have hcs : 0 + 0 ≤ (headSpec (Cond.code yX3_steps cX3_steps 2 (some .int) :: tg) ({ frames := 0, cells := 0, slots := 0, locals := 0 })).room.cells ∧ 0 + 0 ≤ (headSpec (Cond.code yX3_steps cX3_steps 2 (some .int) :: tg) ({ frames := 0, cells := 0, slots := 0, locals := 0 })).room.slots := ⟨Nat.zero_le _, Nat.zero_le _⟩
  have hl := lv_entry ([.ref x, .int (v)]) (n := 2) (Nat.le_of_ble_eq_true rfl)
  rw [lg_entry_eq]
  generalize (lg_sl ([.ref x, .int (v)]) ++ List.replicate (2 - (lg_sl ([.ref x, .int (v)])).length) Slot.unset).toArray = ls at hl ⊢
  have hl : lv_has ls 2 [(0, .ref x), (1, .int (v))] := hl
  refine lv_iload_n hx hb dX3_steps_0 rfl (lv_at hl 1 rfl) ?_
  refine lv_iconst (v := nI 1) hx hb dX3_steps_1 (by decide) ?_
  refine lv_icmp_lt (tgt := 12) hx hb dX3_steps_2 (by decide) (fun c_2 => ?_) (fun c_2 => ?_)
  · refine lv_bipush (v := (-2)) hx hb dX3_steps_12 (by decide) ?_
    exact W.iret (v := (-2)) hx hb hr (fun t9 ht hW => ⟨⟨_, (xW g w x pc mo no sz rs wr lk ps fs ss ds lv), rfl, Or.inl ⟨fun q9 => q9.1 c_2, rfl, rfl⟩, cB_of ht hP⟩, hS.F ht⟩) hS.2.2 dX3_steps_14
  · refine lv_iload_n hx hb dX3_steps_5 rfl (lv_at hl 1 rfl) ?_
    refine lv_sipush (v := nI 1024) hx hb dX3_steps_6 (by decide +kernel) ?_
    refine lv_icmp_le (tgt := 15) hx hb dX3_steps_9 (by decide) (fun c_9 => ?_) (fun c_9 => ?_)
    · refine lv_aload_n hx hb dX3_steps_15 rfl (lv_at hl 0 rfl) ?_
      refine lv_iload_n hx hb dX3_steps_16 rfl (lv_at hl 1 rfl) ?_
      refine wd_put (ci := 4) (v := .int (v)) (ty := .int) (C := RX3) (T := TX3) (N := 6) hx hb hts iwX3 tyX3 tyX3_ok nmX3 hown hK.1 hP hS (by omega) (xW_0) rfl 5 (by decide) (hts _ (tg_tail _ tw_74)) (fun _ h9 => h9) rfl (by decide +kernel) (rfl) (rfl) (Nat.le_of_ble_eq_true rfl) dX3_steps_17 (fun H locs hP hS hz => ?_)
      have hP : gP g (xW g w x pc v no sz rs wr lk ps fs ss ds lv) H := by have h9 : gP g (wd_up (xW g w x pc mo no sz rs wr lk ps fs ss ds lv) x (.inr (4, [.ref (x + 1), .ref (x + 3), .ref (x + 4), .ref (x + 8), .int (pc), .int (v)]))) H := hP; rw [xW_s0] at h9; exact h9
      refine lv_iconst (v := nI 1) hx hb dX3_steps_20 (by decide) ?_
      exact W.iret (v := nI 1) hx hb hr (fun t9 ht hW => ⟨⟨_, (xW g w x pc v no sz rs wr lk ps fs ss ds lv), rfl, Or.inr ⟨⟨c_2, c_9⟩, rfl, rfl⟩, cB_of ht hP⟩, hS.F ht⟩) hS.2.2 dX3_steps_21
    · refine lv_bipush (v := (-2)) hx hb dX3_steps_12 (by decide) ?_
      exact W.iret (v := (-2)) hx hb hr (fun t9 ht hW => ⟨⟨_, (xW g w x pc mo no sz rs wr lk ps fs ss ds lv), rfl, Or.inl ⟨fun q9 => c_9 q9.2, rfl, rfl⟩, cB_of ht hP⟩, hS.F ht⟩) hS.2.2 dX3_steps_14

set_option maxHeartbeats 4000000 in
set_option maxRecDepth 100000 in
theorem c_X3_at (l : Launch) (g : gX) (s0 : Nat) (w : wd_M) (x : Nat) (hs0 : s0 ≤ x) (pc : Int32) (mo : Int32) (no : Int32) (sz : Int32) (wr : Int32) (lk : Nat → Int32) (ps : Nat → Option Nat) (fs : Nat → Int32) (ss : Nat → Int32) (ds : Nat → Int32) (lv : Nat → Int32) (N : Nat) (hN : N ≤ 2000) (i sd : Int32) : Met l yX3_at (Cond.code yX3_at cX3_at 3 (some .int) :: tg) ({ frames := 1, cells := 0, slots := 0, locals := 21 }) (cP g s0 (xW g w x pc mo no sz (nI N) wr lk ps fs ss ds lv) [.ref x, .int (i), .int (sd)]) (cI g s0 (fun r w' => r = an_at wr N fs ss i sd ∧ w' = (xW g w x pc mo no sz (nI N) wr lk ps fs ss ds lv))) 0 0 (cA s0) := by
  refine Met.ofW (cc := cX3_at) (maxL := 3) (ret := some .int) (by decide) rfl ?_
  intro p e s m args below meth c s₁ B9 hml hv
  obtain ⟨rfl, h0s, hP, hK⟩ := hv
  have hx := B9.exec
  have hb := B9.bytes
  have hr := B9.returns
  have hts := atoms_spec (ws := Cond.code yX3_at cX3_at 3 (some .int) :: tg) B9.pre
  have hown : s.vm.findClass RX3 = some m.cls := findClass_of_methodNamed B9.named
  have hlocks := B9.notSynchronized
  have hS : gS s0 s.heap s.heap [] := va_S.rf
  have hRm : 1 ≤ (headSpec (Cond.code yX3_at cX3_at 3 (some .int) :: tg) ({ frames := 1, cells := 0, slots := 0, locals := 21 })).room.frames ∧ 21 ≤ (headSpec (Cond.code yX3_at cX3_at 3 (some .int) :: tg) ({ frames := 1, cells := 0, slots := 0, locals := 21 })).room.locals := ⟨Nat.le_refl _, Nat.le_refl _⟩
  have hcs : 0 + 0 ≤ (headSpec (Cond.code yX3_at cX3_at 3 (some .int) :: tg) ({ frames := 1, cells := 0, slots := 0, locals := 21 })).room.cells ∧ 0 + 0 ≤ (headSpec (Cond.code yX3_at cX3_at 3 (some .int) :: tg) ({ frames := 1, cells := 0, slots := 0, locals := 21 })).room.slots := ⟨Nat.zero_le _, Nat.zero_le _⟩
  have hl := lv_entry ([.ref x, .int (i), .int (sd)]) (n := 3) (Nat.le_of_ble_eq_true rfl)
  rw [lg_entry_eq]
  generalize (lg_sl ([.ref x, .int (i), .int (sd)]) ++ List.replicate (3 - (lg_sl ([.ref x, .int (i), .int (sd)])).length) Slot.unset).toArray = ls at hl ⊢
  have hl : lv_has ls 3 [(0, .ref x), (1, .int (i)), (2, .int (sd))] := hl
  refine lv_iload_n hx hb dX3_at_0 rfl (lv_at hl 2 rfl) ?_
  refine lv_if_eq (tgt := 12) hx hb dX3_at_1 (by decide) (fun c_1 => ?_) (fun c_1 => ?_)
  · refine lv_aload_n hx hb dX3_at_12 rfl (lv_at hl 0 rfl) ?_
    refine wd_get (ci := 4) (v := .ref (x + 4)) (C := RX3) (T := TX3) (N := 6) hx hb hts iwX3 hown hK.1 hP (xW_0) rfl 2 (by decide) (hts _ (tg_tail _ tw_71)) (fun _ h9 => h9) rfl dX3_at_13 ?_
    refine wd_get (ci := 2) (v := .int (wr)) (C := RX1) (T := TX1) (N := 5) hx hb hts iwX1 hown hK.1 hP (xW_4) rfl 4 (by decide) (hts _ (tg_tail _ tw_57)) (fun _ h9 => h9) rfl dX3_at_16 ?_
    refine lv_if_ne (tgt := 25) hx hb dX3_at_19 (by decide) (fun c_19 => ?_) (fun c_19 => ?_)
    · refine lv_aload_n hx hb dX3_at_25 rfl (lv_at hl 0 rfl) ?_
      refine wd_get (ci := 4) (v := .ref (x + 4)) (C := RX3) (T := TX3) (N := 6) hx hb hts iwX3 hown hK.1 hP (xW_0) rfl 2 (by decide) (hts _ (tg_tail _ tw_71)) (fun _ h9 => h9) rfl dX3_at_26 ?_
      refine lv_iload_n hx hb dX3_at_29 rfl (lv_at hl 1 rfl) ?_
      refine cr_Vi (As := [.int (i)]) (rest := []) ⟨hx, hb, hml, hown, hts⟩ (c_X1_has l g s0  w x hs0 pc mo no sz wr lk ps fs ss ds lv N i) (cw_V 1 hts tg_tail tw_312 tw_313 tw_314 tw_3 tw_315 rfl rfl (by decide +kernel) ⟨Nat.le_trans (by decide) hRm.1, Nat.le_trans (by decide) hRm.2⟩) hK hP h0s hS (xW_4) rfl rfl rfl hl.1 rfl (Nat.le_of_ble_eq_true rfl) dX3_at_30 hcs (fun r9 w9 H locs hw hP hS => ?_)
      obtain ⟨e_r9, hw9⟩ := hw
      rw [hw9] at hP
      subst e_r9
      refine lv_if_ne (tgt := 38) hx hb dX3_at_33 (by decide) (fun c_33 => ?_) (fun c_33 => ?_)
      · have c_33 := zB_1.mp c_33
        obtain ⟨k, hk, hik⟩ := ix_of (by omega) (c_33).1 (c_33).2
        subst hik
        have hcl := nI_clamp (n := k) (by omega)
        refine lv_iload_n hx hb dX3_at_38 rfl (lv_at hl 2 rfl) ?_
        refine lv_if_ne (tgt := 54) hx hb dX3_at_39 (by decide) (fun c_39 => ?_) (fun c_39 => ?_)
        · refine lv_aload_n hx hb dX3_at_54 rfl (lv_at hl 0 rfl) ?_
          refine wd_get (ci := 4) (v := .ref (x + 4)) (C := RX3) (T := TX3) (N := 6) hx hb hts iwX3 hown hK.1 hP (xW_0) rfl 2 (by decide) (hts _ (tg_tail _ tw_71)) (fun _ h9 => h9) rfl dX3_at_55 ?_
          refine wd_get (ci := 2) (v := .ref (x + 6)) (C := RX1) (T := TX1) (N := 5) hx hb hts iwX1 hown hK.1 hP (xW_4) rfl 1 (by decide) (hts _ (tg_tail _ tw_52)) (fun _ h9 => h9) rfl dX3_at_58 ?_
          refine lv_iload_n hx hb dX3_at_61 rfl (lv_at hl 1 rfl) ?_
          refine wd_ildN hx hb hK.1 hP 0 (k := k) (xW_6) rfl (by omega) (by decide) dX3_at_62 ?_
          exact W.iret (v := ss k) hx hb hr (fun t9 ht hW => ⟨⟨_, (xW g w x pc mo no sz (nI N) wr lk ps fs ss ds lv), rfl, ⟨by clear hts hP hK hx hb hr hown hS hRm hcs hl hlocks; grind [an_at], rfl⟩, cB_of ht hP⟩, hS.F ht⟩) hS.2.2 dX3_at_63
        · refine lv_aload_n hx hb dX3_at_42 rfl (lv_at hl 0 rfl) ?_
          refine wd_get (ci := 4) (v := .ref (x + 4)) (C := RX3) (T := TX3) (N := 6) hx hb hts iwX3 hown hK.1 hP (xW_0) rfl 2 (by decide) (hts _ (tg_tail _ tw_71)) (fun _ h9 => h9) rfl dX3_at_43 ?_
          refine wd_get (ci := 2) (v := .ref (x + 5)) (C := RX1) (T := TX1) (N := 5) hx hb hts iwX1 hown hK.1 hP (xW_4) rfl 0 (by decide) (hts _ (tg_tail _ tw_50)) (fun _ h9 => h9) rfl dX3_at_46 ?_
          refine lv_iload_n hx hb dX3_at_49 rfl (lv_at hl 1 rfl) ?_
          refine wd_ildN hx hb hK.1 hP 0 (k := k) (xW_5) rfl (by omega) (by decide) dX3_at_50 ?_
          refine lv_goto (tgt := 63) hx hb dX3_at_51 (by decide) ?_
          exact W.iret (v := fs k) hx hb hr (fun t9 ht hW => ⟨⟨_, (xW g w x pc mo no sz (nI N) wr lk ps fs ss ds lv), rfl, ⟨by clear hts hP hK hx hb hr hown hS hRm hcs hl hlocks; grind [an_at], rfl⟩, cB_of ht hP⟩, hS.F ht⟩) hS.2.2 dX3_at_63
      · have c_33 := zB_0.mp c_33
        refine lv_iconst (v := (-1)) hx hb dX3_at_36 (by decide) ?_
        exact W.iret (v := (-1)) hx hb hr (fun t9 ht hW => ⟨⟨_, (xW g w x pc mo no sz (nI N) wr lk ps fs ss ds lv), rfl, ⟨by clear hts hP hK hx hb hr hown hS hRm hcs hl hlocks; grind [an_at], rfl⟩, cB_of ht hP⟩, hS.F ht⟩) hS.2.2 dX3_at_37
    · refine lv_bipush (v := (-3)) hx hb dX3_at_22 (by decide) ?_
      exact W.iret (v := (-3)) hx hb hr (fun t9 ht hW => ⟨⟨_, (xW g w x pc mo no sz (nI N) wr lk ps fs ss ds lv), rfl, ⟨by clear hts hP hK hx hb hr hown hS hRm hcs hl hlocks; grind [an_at], rfl⟩, cB_of ht hP⟩, hS.F ht⟩) hS.2.2 dX3_at_24
  · refine lv_iload_n hx hb dX3_at_4 rfl (lv_at hl 2 rfl) ?_
    refine lv_iconst (v := nI 1) hx hb dX3_at_5 (by decide) ?_
    refine lv_icmp_eq (tgt := 12) hx hb dX3_at_6 (by decide) (fun c_6 => ?_) (fun c_6 => ?_)
    · refine lv_aload_n hx hb dX3_at_12 rfl (lv_at hl 0 rfl) ?_
      refine wd_get (ci := 4) (v := .ref (x + 4)) (C := RX3) (T := TX3) (N := 6) hx hb hts iwX3 hown hK.1 hP (xW_0) rfl 2 (by decide) (hts _ (tg_tail _ tw_71)) (fun _ h9 => h9) rfl dX3_at_13 ?_
      refine wd_get (ci := 2) (v := .int (wr)) (C := RX1) (T := TX1) (N := 5) hx hb hts iwX1 hown hK.1 hP (xW_4) rfl 4 (by decide) (hts _ (tg_tail _ tw_57)) (fun _ h9 => h9) rfl dX3_at_16 ?_
      refine lv_if_ne (tgt := 25) hx hb dX3_at_19 (by decide) (fun c_19 => ?_) (fun c_19 => ?_)
      · refine lv_aload_n hx hb dX3_at_25 rfl (lv_at hl 0 rfl) ?_
        refine wd_get (ci := 4) (v := .ref (x + 4)) (C := RX3) (T := TX3) (N := 6) hx hb hts iwX3 hown hK.1 hP (xW_0) rfl 2 (by decide) (hts _ (tg_tail _ tw_71)) (fun _ h9 => h9) rfl dX3_at_26 ?_
        refine lv_iload_n hx hb dX3_at_29 rfl (lv_at hl 1 rfl) ?_
        refine cr_Vi (As := [.int (i)]) (rest := []) ⟨hx, hb, hml, hown, hts⟩ (c_X1_has l g s0  w x hs0 pc mo no sz wr lk ps fs ss ds lv N i) (cw_V 1 hts tg_tail tw_312 tw_313 tw_314 tw_3 tw_315 rfl rfl (by decide +kernel) ⟨Nat.le_trans (by decide) hRm.1, Nat.le_trans (by decide) hRm.2⟩) hK hP h0s hS (xW_4) rfl rfl rfl hl.1 rfl (Nat.le_of_ble_eq_true rfl) dX3_at_30 hcs (fun r9 w9 H locs hw hP hS => ?_)
        obtain ⟨e_r9, hw9⟩ := hw
        rw [hw9] at hP
        subst e_r9
        refine lv_if_ne (tgt := 38) hx hb dX3_at_33 (by decide) (fun c_33 => ?_) (fun c_33 => ?_)
        · have c_33 := zB_1.mp c_33
          obtain ⟨k, hk, hik⟩ := ix_of (by omega) (c_33).1 (c_33).2
          subst hik
          have hcl := nI_clamp (n := k) (by omega)
          refine lv_iload_n hx hb dX3_at_38 rfl (lv_at hl 2 rfl) ?_
          refine lv_if_ne (tgt := 54) hx hb dX3_at_39 (by decide) (fun c_39 => ?_) (fun c_39 => ?_)
          · refine lv_aload_n hx hb dX3_at_54 rfl (lv_at hl 0 rfl) ?_
            refine wd_get (ci := 4) (v := .ref (x + 4)) (C := RX3) (T := TX3) (N := 6) hx hb hts iwX3 hown hK.1 hP (xW_0) rfl 2 (by decide) (hts _ (tg_tail _ tw_71)) (fun _ h9 => h9) rfl dX3_at_55 ?_
            refine wd_get (ci := 2) (v := .ref (x + 6)) (C := RX1) (T := TX1) (N := 5) hx hb hts iwX1 hown hK.1 hP (xW_4) rfl 1 (by decide) (hts _ (tg_tail _ tw_52)) (fun _ h9 => h9) rfl dX3_at_58 ?_
            refine lv_iload_n hx hb dX3_at_61 rfl (lv_at hl 1 rfl) ?_
            refine wd_ildN hx hb hK.1 hP 0 (k := k) (xW_6) rfl (by omega) (by decide) dX3_at_62 ?_
            exact W.iret (v := ss k) hx hb hr (fun t9 ht hW => ⟨⟨_, (xW g w x pc mo no sz (nI N) wr lk ps fs ss ds lv), rfl, ⟨by clear hts hP hK hx hb hr hown hS hRm hcs hl hlocks; grind [an_at], rfl⟩, cB_of ht hP⟩, hS.F ht⟩) hS.2.2 dX3_at_63
          · refine lv_aload_n hx hb dX3_at_42 rfl (lv_at hl 0 rfl) ?_
            refine wd_get (ci := 4) (v := .ref (x + 4)) (C := RX3) (T := TX3) (N := 6) hx hb hts iwX3 hown hK.1 hP (xW_0) rfl 2 (by decide) (hts _ (tg_tail _ tw_71)) (fun _ h9 => h9) rfl dX3_at_43 ?_
            refine wd_get (ci := 2) (v := .ref (x + 5)) (C := RX1) (T := TX1) (N := 5) hx hb hts iwX1 hown hK.1 hP (xW_4) rfl 0 (by decide) (hts _ (tg_tail _ tw_50)) (fun _ h9 => h9) rfl dX3_at_46 ?_
            refine lv_iload_n hx hb dX3_at_49 rfl (lv_at hl 1 rfl) ?_
            refine wd_ildN hx hb hK.1 hP 0 (k := k) (xW_5) rfl (by omega) (by decide) dX3_at_50 ?_
            refine lv_goto (tgt := 63) hx hb dX3_at_51 (by decide) ?_
            exact W.iret (v := fs k) hx hb hr (fun t9 ht hW => ⟨⟨_, (xW g w x pc mo no sz (nI N) wr lk ps fs ss ds lv), rfl, ⟨by clear hts hP hK hx hb hr hown hS hRm hcs hl hlocks; grind [an_at], rfl⟩, cB_of ht hP⟩, hS.F ht⟩) hS.2.2 dX3_at_63
        · have c_33 := zB_0.mp c_33
          refine lv_iconst (v := (-1)) hx hb dX3_at_36 (by decide) ?_
          exact W.iret (v := (-1)) hx hb hr (fun t9 ht hW => ⟨⟨_, (xW g w x pc mo no sz (nI N) wr lk ps fs ss ds lv), rfl, ⟨by clear hts hP hK hx hb hr hown hS hRm hcs hl hlocks; grind [an_at], rfl⟩, cB_of ht hP⟩, hS.F ht⟩) hS.2.2 dX3_at_37
      · refine lv_bipush (v := (-3)) hx hb dX3_at_22 (by decide) ?_
        exact W.iret (v := (-3)) hx hb hr (fun t9 ht hW => ⟨⟨_, (xW g w x pc mo no sz (nI N) wr lk ps fs ss ds lv), rfl, ⟨by clear hts hP hK hx hb hr hown hS hRm hcs hl hlocks; grind [an_at], rfl⟩, cB_of ht hP⟩, hS.F ht⟩) hS.2.2 dX3_at_24
    · refine lv_bipush (v := (-2)) hx hb dX3_at_9 (by decide) ?_
      exact W.iret (v := (-2)) hx hb hr (fun t9 ht hW => ⟨⟨_, (xW g w x pc mo no sz (nI N) wr lk ps fs ss ds lv), rfl, ⟨by clear hts hP hK hx hb hr hown hS hRm hcs hl hlocks; grind [an_at], rfl⟩, cB_of ht hP⟩, hS.F ht⟩) hS.2.2 dX3_at_11

set_option maxHeartbeats 4000000 in
set_option maxRecDepth 100000 in
theorem c_X3_cycle (l : Launch) (g : gX) (s0 : Nat) (w : wd_M) (x : Nat) (hs0 : s0 ≤ x) (pc : Int32) (mo : Int32) (no : Int32) (sz : Int32) (wr : Int32) (lk : Nat → Int32) (ps : Nat → Option Nat) (fs : Nat → Int32) (ss : Nat → Int32) (ds : Nat → Int32) (lv : Nat → Int32) (N : Nat) (hN : N ≤ 2000) (i : Int32) : Met l yX3_cycle (Cond.code yX3_cycle cX3_cycle 2 (some .boolean) :: tg) ({ frames := 1, cells := 0, slots := 0, locals := 21 }) (cP g s0 (xW g w x pc mo no sz (nI N) wr lk ps fs ss ds lv) [.ref x, .int (i)]) (cI g s0 (fun r w' => r = zB ((¬ i < 0 ∧ ¬ nI N ≤ i) ∧ fs i.toNatClampNeg = ss i.toNatClampNeg) ∧ w' = (xW g w x pc mo no sz (nI N) wr lk ps fs ss ds lv))) 0 0 (cA s0) := by
  refine Met.ofW (cc := cX3_cycle) (maxL := 2) (ret := some .boolean) (by decide) rfl ?_
  intro p e s m args below meth c s₁ B9 hml hv
  obtain ⟨rfl, h0s, hP, hK⟩ := hv
  have hx := B9.exec
  have hb := B9.bytes
  have hr := B9.returns
  have hts := atoms_spec (ws := Cond.code yX3_cycle cX3_cycle 2 (some .boolean) :: tg) B9.pre
  have hown : s.vm.findClass RX3 = some m.cls := findClass_of_methodNamed B9.named
  have hlocks := B9.notSynchronized
  have hS : gS s0 s.heap s.heap [] := va_S.rf
  have hRm : 1 ≤ (headSpec (Cond.code yX3_cycle cX3_cycle 2 (some .boolean) :: tg) ({ frames := 1, cells := 0, slots := 0, locals := 21 })).room.frames ∧ 21 ≤ (headSpec (Cond.code yX3_cycle cX3_cycle 2 (some .boolean) :: tg) ({ frames := 1, cells := 0, slots := 0, locals := 21 })).room.locals := ⟨Nat.le_refl _, Nat.le_refl _⟩
  have hcs : 0 + 0 ≤ (headSpec (Cond.code yX3_cycle cX3_cycle 2 (some .boolean) :: tg) ({ frames := 1, cells := 0, slots := 0, locals := 21 })).room.cells ∧ 0 + 0 ≤ (headSpec (Cond.code yX3_cycle cX3_cycle 2 (some .boolean) :: tg) ({ frames := 1, cells := 0, slots := 0, locals := 21 })).room.slots := ⟨Nat.zero_le _, Nat.zero_le _⟩
  have hl := lv_entry ([.ref x, .int (i)]) (n := 2) (Nat.le_of_ble_eq_true rfl)
  rw [lg_entry_eq]
  generalize (lg_sl ([.ref x, .int (i)]) ++ List.replicate (2 - (lg_sl ([.ref x, .int (i)])).length) Slot.unset).toArray = ls at hl ⊢
  have hl : lv_has ls 2 [(0, .ref x), (1, .int (i))] := hl
  refine lv_aload_n hx hb dX3_cycle_0 rfl (lv_at hl 0 rfl) ?_
  refine wd_get (ci := 4) (v := .ref (x + 4)) (C := RX3) (T := TX3) (N := 6) hx hb hts iwX3 hown hK.1 hP (xW_0) rfl 2 (by decide) (hts _ (tg_tail _ tw_71)) (fun _ h9 => h9) rfl dX3_cycle_1 ?_
  refine lv_iload_n hx hb dX3_cycle_4 rfl (lv_at hl 1 rfl) ?_
  refine cr_Vi (As := [.int (i)]) (rest := []) ⟨hx, hb, hml, hown, hts⟩ (c_X1_has l g s0  w x hs0 pc mo no sz wr lk ps fs ss ds lv N i) (cw_V 1 hts tg_tail tw_312 tw_313 tw_314 tw_3 tw_315 rfl rfl (by decide +kernel) ⟨Nat.le_trans (by decide) hRm.1, Nat.le_trans (by decide) hRm.2⟩) hK hP h0s hS (xW_4) rfl rfl rfl hl.1 rfl (Nat.le_of_ble_eq_true rfl) dX3_cycle_5 hcs (fun r9 w9 H locs hw hP hS => ?_)
  obtain ⟨e_r9, hw9⟩ := hw
  rw [hw9] at hP
  subst e_r9
  refine lv_if_eq (tgt := 36) hx hb dX3_cycle_8 (by decide) (fun c_8 => ?_) (fun c_8 => ?_)
  · have c_8 := zB_0.mp c_8
    refine lv_iconst (v := nI 0) hx hb dX3_cycle_36 (by decide) ?_
    exact W.zret (ty := .boolean) (v := nI 0) hx hb hr (by rfl) (fun t9 ht hW => ⟨⟨_, (xW g w x pc mo no sz (nI N) wr lk ps fs ss ds lv), rfl, ⟨by clear hts hP hK hx hb hr hown hS hRm hcs hl hlocks; unfold zB; grind [nI_0, nI_o], rfl⟩, cB_of ht hP⟩, hS.F ht⟩) hS.2.2 dX3_cycle_37
  · have c_8 := zB_1.mp c_8
    obtain ⟨k, hk, hik⟩ := ix_of (by omega) (c_8).1 (c_8).2
    subst hik
    have hcl := nI_clamp (n := k) (by omega)
    refine lv_aload_n hx hb dX3_cycle_11 rfl (lv_at hl 0 rfl) ?_
    refine wd_get (ci := 4) (v := .ref (x + 4)) (C := RX3) (T := TX3) (N := 6) hx hb hts iwX3 hown hK.1 hP (xW_0) rfl 2 (by decide) (hts _ (tg_tail _ tw_71)) (fun _ h9 => h9) rfl dX3_cycle_12 ?_
    refine wd_get (ci := 2) (v := .ref (x + 5)) (C := RX1) (T := TX1) (N := 5) hx hb hts iwX1 hown hK.1 hP (xW_4) rfl 0 (by decide) (hts _ (tg_tail _ tw_50)) (fun _ h9 => h9) rfl dX3_cycle_15 ?_
    refine lv_iload_n hx hb dX3_cycle_18 rfl (lv_at hl 1 rfl) ?_
    refine wd_ildN hx hb hK.1 hP 0 (k := k) (xW_5) rfl (by omega) (by decide) dX3_cycle_19 ?_
    refine lv_aload_n hx hb dX3_cycle_20 rfl (lv_at hl 0 rfl) ?_
    refine wd_get (ci := 4) (v := .ref (x + 4)) (C := RX3) (T := TX3) (N := 6) hx hb hts iwX3 hown hK.1 hP (xW_0) rfl 2 (by decide) (hts _ (tg_tail _ tw_71)) (fun _ h9 => h9) rfl dX3_cycle_21 ?_
    refine wd_get (ci := 2) (v := .ref (x + 6)) (C := RX1) (T := TX1) (N := 5) hx hb hts iwX1 hown hK.1 hP (xW_4) rfl 1 (by decide) (hts _ (tg_tail _ tw_52)) (fun _ h9 => h9) rfl dX3_cycle_24 ?_
    refine lv_iload_n hx hb dX3_cycle_27 rfl (lv_at hl 1 rfl) ?_
    refine wd_ildN hx hb hK.1 hP 0 (k := k) (xW_6) rfl (by omega) (by decide) dX3_cycle_28 ?_
    refine lv_icmp_ne (tgt := 36) hx hb dX3_cycle_29 (by decide) (fun c_29 => ?_) (fun c_29 => ?_)
    · refine lv_iconst (v := nI 0) hx hb dX3_cycle_36 (by decide) ?_
      exact W.zret (ty := .boolean) (v := nI 0) hx hb hr (by rfl) (fun t9 ht hW => ⟨⟨_, (xW g w x pc mo no sz (nI N) wr lk ps fs ss ds lv), rfl, ⟨by clear hts hP hK hx hb hr hown hS hRm hcs hl hlocks; unfold zB; grind [nI_0, nI_o], rfl⟩, cB_of ht hP⟩, hS.F ht⟩) hS.2.2 dX3_cycle_37
    · refine lv_iconst (v := nI 1) hx hb dX3_cycle_32 (by decide) ?_
      refine lv_goto (tgt := 37) hx hb dX3_cycle_33 (by decide) ?_
      exact W.zret (ty := .boolean) (v := nI 1) hx hb hr (by rfl) (fun t9 ht hW => ⟨⟨_, (xW g w x pc mo no sz (nI N) wr lk ps fs ss ds lv), rfl, ⟨by clear hts hP hK hx hb hr hown hS hRm hcs hl hlocks; unfold zB; grind [nI_0, nI_o], rfl⟩, cB_of ht hP⟩, hS.F ht⟩) hS.2.2 dX3_cycle_37

set_option maxHeartbeats 4000000 in
set_option maxRecDepth 100000 in
theorem c_X3_triple (l : Launch) (g : gX) (s0 : Nat) (w : wd_M) (x : Nat) (hs0 : s0 ≤ x) (pc : Int32) (mo : Int32) (no : Int32) (rs : Int32) (wr : Int32) (lk : Nat → Int32) (ps : Nat → Option Nat) (fs : Nat → Int32) (ss : Nat → Int32) (ds : Nat → Int32) (lv : Nat → Int32) (Z : Nat) (hZ : Z ≤ 150) (sv pv ov : Int32) : Met l yX3_triple (Cond.code yX3_triple cX3_triple 4 (some .int) :: tg) ({ frames := 2, cells := 0, slots := 0, locals := 44 }) (cP g s0 (xW g w x pc mo no (nI Z) rs wr lk ps fs ss ds lv) [.ref x, .int (sv), .int (pv), .int (ov)]) (cI g s0 (fun r w' => (¬ ((0 ≤ sv ∧ sv < nI 32) ∧ (0 ≤ pv ∧ pv < nI 16) ∧ (0 ≤ ov ∧ ov < nI 32)) ∧ r = -2 ∧ w' = (xW g w x pc mo no (nI Z) rs wr lk ps fs ss ds lv)) ∨ (∃ a b d, a < 32 ∧ b < 16 ∧ d < 32 ∧ sv = nI a ∧ pv = nI b ∧ ov = nI d ∧ ((bt (lk (a * 32 + d)) b = true ∧ r = nI Z ∧ w' = (xW g w x pc mo no (nI Z) rs wr lk ps fs ss ds lv)) ∨ (¬ bt (lk (a * 32 + d)) b = true ∧ 150 ≤ Z ∧ r = -4 ∧ w' = (xW g w x pc mo no (nI Z) rs wr lk ps fs ss ds lv)) ∨ (¬ bt (lk (a * 32 + d)) b = true ∧ Z < 150 ∧ r = nI (Z + 1) ∧ w' = (xW g w x pc mo (no ||| (sh1 a ||| sh1 d)) (nI (Z + 1)) rs wr (upd lk (a * 32 + d) (lk (a * 32 + d) ||| sh1 b)) ps fs ss ds lv)))))) 0 0 (cA s0) := by
  refine Met.ofW (cc := cX3_triple) (maxL := 4) (ret := some .int) (by decide) rfl ?_
  intro p e s m args below meth c s₁ B9 hml hv
  obtain ⟨rfl, h0s, hP, hK⟩ := hv
  have hx := B9.exec
  have hb := B9.bytes
  have hr := B9.returns
  have hts := atoms_spec (ws := Cond.code yX3_triple cX3_triple 4 (some .int) :: tg) B9.pre
  have hown : s.vm.findClass RX3 = some m.cls := findClass_of_methodNamed B9.named
  have hlocks := B9.notSynchronized
  have hS : gS s0 s.heap s.heap [] := va_S.rf
  have hRm : 2 ≤ (headSpec (Cond.code yX3_triple cX3_triple 4 (some .int) :: tg) ({ frames := 2, cells := 0, slots := 0, locals := 44 })).room.frames ∧ 44 ≤ (headSpec (Cond.code yX3_triple cX3_triple 4 (some .int) :: tg) ({ frames := 2, cells := 0, slots := 0, locals := 44 })).room.locals := ⟨Nat.le_refl _, Nat.le_refl _⟩
  have hcs : 0 + 0 ≤ (headSpec (Cond.code yX3_triple cX3_triple 4 (some .int) :: tg) ({ frames := 2, cells := 0, slots := 0, locals := 44 })).room.cells ∧ 0 + 0 ≤ (headSpec (Cond.code yX3_triple cX3_triple 4 (some .int) :: tg) ({ frames := 2, cells := 0, slots := 0, locals := 44 })).room.slots := ⟨Nat.zero_le _, Nat.zero_le _⟩
  have hl := lv_entry ([.ref x, .int (sv), .int (pv), .int (ov)]) (n := 4) (Nat.le_of_ble_eq_true rfl)
  rw [lg_entry_eq]
  generalize (lg_sl ([.ref x, .int (sv), .int (pv), .int (ov)]) ++ List.replicate (4 - (lg_sl ([.ref x, .int (sv), .int (pv), .int (ov)])).length) Slot.unset).toArray = ls at hl ⊢
  have hl : lv_has ls 4 [(0, .ref x), (1, .int (sv)), (2, .int (pv)), (3, .int (ov))] := hl
  refine lv_iload_n hx hb dX3_triple_0 rfl (lv_at hl 1 rfl) ?_
  refine cr_Si (As := [.int (sv)]) (rest := []) ⟨hx, hb, hml, hown, hts⟩ (c_X3_isNode l g s0 (xW g w x pc mo no (nI Z) rs wr lk ps fs ss ds lv) sv) (cw_S 1 hts tg_tail tw_92 tw_93 tw_1 tw_94 rfl rfl (by decide +kernel) ⟨Nat.le_trans (by decide) hRm.1, Nat.le_trans (by decide) hRm.2⟩) hK hP h0s hS rfl hl.1 rfl (Nat.le_of_ble_eq_true rfl) dX3_triple_1 hcs (fun r9 w9 H locs hw hP hS => ?_)
  obtain ⟨e_r9, hw9⟩ := hw
  rw [hw9] at hP
  subst e_r9
  refine lv_if_eq (tgt := 21) hx hb dX3_triple_4 (by decide) (fun c_4 => ?_) (fun c_4 => ?_)
  · have c_4 := zB_0.mp c_4
    refine lv_bipush (v := (-2)) hx hb dX3_triple_21 (by decide) ?_
    exact W.iret (v := (-2)) hx hb hr (fun t9 ht hW => ⟨⟨_, (xW g w x pc mo no (nI Z) rs wr lk ps fs ss ds lv), rfl, Or.inl ⟨fun q9 => c_4 q9.1, rfl, rfl⟩, cB_of ht hP⟩, hS.F ht⟩) hS.2.2 dX3_triple_23
  · have c_4 := zB_1.mp c_4
    refine lv_iload_n hx hb dX3_triple_7 rfl (lv_at hl 2 rfl) ?_
    refine cr_Si (As := [.int (pv)]) (rest := []) ⟨hx, hb, hml, hown, hts⟩ (c_X3_isPredicate l g s0 (xW g w x pc mo no (nI Z) rs wr lk ps fs ss ds lv) pv) (cw_S 1 hts tg_tail tw_95 tw_96 tw_1 tw_97 rfl rfl (by decide +kernel) ⟨Nat.le_trans (by decide) hRm.1, Nat.le_trans (by decide) hRm.2⟩) hK hP h0s hS rfl hl.1 rfl (Nat.le_of_ble_eq_true rfl) dX3_triple_8 hcs (fun r9 w9 H locs hw hP hS => ?_)
    obtain ⟨e_r9, hw9⟩ := hw
    rw [hw9] at hP
    subst e_r9
    refine lv_if_eq (tgt := 21) hx hb dX3_triple_11 (by decide) (fun c_11 => ?_) (fun c_11 => ?_)
    · have c_11 := zB_0.mp c_11
      refine lv_bipush (v := (-2)) hx hb dX3_triple_21 (by decide) ?_
      exact W.iret (v := (-2)) hx hb hr (fun t9 ht hW => ⟨⟨_, (xW g w x pc mo no (nI Z) rs wr lk ps fs ss ds lv), rfl, Or.inl ⟨fun q9 => c_11 q9.2.1, rfl, rfl⟩, cB_of ht hP⟩, hS.F ht⟩) hS.2.2 dX3_triple_23
    · have c_11 := zB_1.mp c_11
      refine lv_iload_n hx hb dX3_triple_14 rfl (lv_at hl 3 rfl) ?_
      refine cr_Si (As := [.int (ov)]) (rest := []) ⟨hx, hb, hml, hown, hts⟩ (c_X3_isNode l g s0 (xW g w x pc mo no (nI Z) rs wr lk ps fs ss ds lv) ov) (cw_S 1 hts tg_tail tw_92 tw_93 tw_1 tw_94 rfl rfl (by decide +kernel) ⟨Nat.le_trans (by decide) hRm.1, Nat.le_trans (by decide) hRm.2⟩) hK hP h0s hS rfl hl.1 rfl (Nat.le_of_ble_eq_true rfl) dX3_triple_15 hcs (fun r9 w9 H locs hw hP hS => ?_)
      obtain ⟨e_r9, hw9⟩ := hw
      rw [hw9] at hP
      subst e_r9
      refine lv_if_ne (tgt := 24) hx hb dX3_triple_18 (by decide) (fun c_18 => ?_) (fun c_18 => ?_)
      · have c_18 := zB_1.mp c_18
        obtain ⟨a, h_a, e_a⟩ := ix_n (n := 32) (by decide) c_4
        subst e_a
        obtain ⟨b, h_b, e_b⟩ := ix_n (n := 16) (by decide) c_11
        subst e_b
        obtain ⟨d, h_d, e_d⟩ := ix_n (n := 32) (by decide) c_18
        subst e_d
        refine lv_aload_n hx hb dX3_triple_24 rfl (lv_at hl 0 rfl) ?_
        refine wd_get (ci := 4) (v := .ref (x + 1)) (C := RX3) (T := TX3) (N := 6) hx hb hts iwX3 hown hK.1 hP (xW_0) rfl 0 (by decide) (hts _ (tg_tail _ tw_69)) (fun _ h9 => h9) rfl dX3_triple_25 ?_
        refine lv_iload_n hx hb dX3_triple_28 rfl (lv_at hl 1 rfl) ?_
        refine lv_iload_n hx hb dX3_triple_29 rfl (lv_at hl 2 rfl) ?_
        refine lv_iload_n hx hb dX3_triple_30 rfl (lv_at hl 3 rfl) ?_
        refine cr_Vi (As := [.int (nI a), .int (nI b), .int (nI d)]) (rest := []) ⟨hx, hb, hml, hown, hts⟩ (c_X2_has l g s0  w x hs0 pc mo no (nI Z) rs wr lk ps fs ss ds lv a b d h_a h_b h_d) (cw_V 3 hts tg_tail tw_98 tw_99 tw_100 tw_2 tw_101 rfl rfl (by decide +kernel) ⟨Nat.le_trans (by decide) hRm.1, Nat.le_trans (by decide) hRm.2⟩) hK hP h0s hS (xW_1) rfl rfl rfl hl.1 rfl (Nat.le_of_ble_eq_true rfl) dX3_triple_31 hcs (fun r9 w9 H locs hw hP hS => ?_)
        obtain ⟨e_r9, hw9⟩ := hw
        rw [hw9] at hP
        subst e_r9
        refine lv_if_ne (tgt := 63) hx hb dX3_triple_34 (by decide) (fun c_34 => ?_) (fun c_34 => ?_)
        · have c_34 := zB_1.mp c_34
          refine lv_aload_n hx hb dX3_triple_63 rfl (lv_at hl 0 rfl) ?_
          refine wd_get (ci := 4) (v := .ref (x + 1)) (C := RX3) (T := TX3) (N := 6) hx hb hts iwX3 hown hK.1 hP (xW_0) rfl 0 (by decide) (hts _ (tg_tail _ tw_69)) (fun _ h9 => h9) rfl dX3_triple_64 ?_
          refine wd_get (ci := 3) (v := .int (nI Z)) (C := RX2) (T := TX2) (N := 3) hx hb hts iwX2 hown hK.1 hP (xW_1) rfl 2 (by decide) (hts _ (tg_tail _ tw_31)) (fun _ h9 => h9) rfl dX3_triple_67 ?_
          exact W.iret (v := nI Z) hx hb hr (fun t9 ht hW => ⟨⟨_, (xW g w x pc mo no (nI Z) rs wr lk ps fs ss ds lv), rfl, Or.inr ⟨a, b, d, h_a, h_b, h_d, rfl, rfl, rfl, Or.inl ⟨c_34, rfl, rfl⟩⟩, cB_of ht hP⟩, hS.F ht⟩) hS.2.2 dX3_triple_70
        · have c_34 := zB_0.mp c_34
          refine lv_aload_n hx hb dX3_triple_37 rfl (lv_at hl 0 rfl) ?_
          refine wd_get (ci := 4) (v := .ref (x + 1)) (C := RX3) (T := TX3) (N := 6) hx hb hts iwX3 hown hK.1 hP (xW_0) rfl 0 (by decide) (hts _ (tg_tail _ tw_69)) (fun _ h9 => h9) rfl dX3_triple_38 ?_
          refine wd_get (ci := 3) (v := .int (nI Z)) (C := RX2) (T := TX2) (N := 3) hx hb hts iwX2 hown hK.1 hP (xW_1) rfl 2 (by decide) (hts _ (tg_tail _ tw_31)) (fun _ h9 => h9) rfl dX3_triple_41 ?_
          refine lv_sipush (v := nI 150) hx hb dX3_triple_44 (by decide +kernel) ?_
          refine lv_icmp_lt (tgt := 53) hx hb dX3_triple_47 (by decide) (fun c_47 => ?_) (fun c_47 => ?_)
          · have c_47 := (nI_ltI (a := Z) (b := 150) (by omega) (by omega)).mp c_47
            refine lv_aload_n hx hb dX3_triple_53 rfl (lv_at hl 0 rfl) ?_
            refine wd_get (ci := 4) (v := .ref (x + 1)) (C := RX3) (T := TX3) (N := 6) hx hb hts iwX3 hown hK.1 hP (xW_0) rfl 0 (by decide) (hts _ (tg_tail _ tw_69)) (fun _ h9 => h9) rfl dX3_triple_54 ?_
            refine lv_iload_n hx hb dX3_triple_57 rfl (lv_at hl 1 rfl) ?_
            refine lv_iload_n hx hb dX3_triple_58 rfl (lv_at hl 2 rfl) ?_
            refine lv_iload_n hx hb dX3_triple_59 rfl (lv_at hl 3 rfl) ?_
            refine cr_Vv (As := [.int (nI a), .int (nI b), .int (nI d)]) (rest := []) ⟨hx, hb, hml, hown, hts⟩ (c_X2_add l g s0  w x hs0 pc mo no rs wr lk ps fs ss ds lv a b d h_a h_b h_d Z) (cw_V 3 hts tg_tail tw_105 tw_106 tw_107 tw_2 tw_108 rfl rfl (by decide +kernel) ⟨Nat.le_trans (by decide) hRm.1, Nat.le_trans (by decide) hRm.2⟩) hK hP h0s hS (xW_1) rfl rfl rfl hl.1 rfl (Nat.le_of_ble_eq_true rfl) dX3_triple_60 hcs (fun w9 H locs hw hP hS => ?_)
            rw [hw] at hP
            refine lv_aload_n hx hb dX3_triple_63 rfl (lv_at hl 0 rfl) ?_
            refine wd_get (ci := 4) (v := .ref (x + 1)) (C := RX3) (T := TX3) (N := 6) hx hb hts iwX3 hown hK.1 hP (xW_0) rfl 0 (by decide) (hts _ (tg_tail _ tw_69)) (fun _ h9 => h9) rfl dX3_triple_64 ?_
            refine wd_get (ci := 3) (v := .int (nI (Z + 1))) (C := RX2) (T := TX2) (N := 3) hx hb hts iwX2 hown hK.1 hP (xW_1) rfl 2 (by decide) (hts _ (tg_tail _ tw_31)) (fun _ h9 => h9) rfl dX3_triple_67 ?_
            exact W.iret (v := nI (Z + 1)) hx hb hr (fun t9 ht hW => ⟨⟨_, (xW g w x pc mo (no ||| (sh1 a ||| sh1 d)) (nI (Z + 1)) rs wr (upd lk (a * 32 + d) (lk (a * 32 + d) ||| sh1 b)) ps fs ss ds lv), rfl, Or.inr ⟨a, b, d, h_a, h_b, h_d, rfl, rfl, rfl, Or.inr (Or.inr ⟨c_34, by omega, rfl, rfl⟩)⟩, cB_of ht hP⟩, hS.F ht⟩) hS.2.2 dX3_triple_70
          · have c_47 := mt (nI_ltI (a := Z) (b := 150) (by omega) (by omega)).mpr c_47
            refine lv_bipush (v := (-4)) hx hb dX3_triple_50 (by decide) ?_
            exact W.iret (v := (-4)) hx hb hr (fun t9 ht hW => ⟨⟨_, (xW g w x pc mo no (nI Z) rs wr lk ps fs ss ds lv), rfl, Or.inr ⟨a, b, d, h_a, h_b, h_d, rfl, rfl, rfl, Or.inr (Or.inl ⟨c_34, by omega, rfl, rfl⟩)⟩, cB_of ht hP⟩, hS.F ht⟩) hS.2.2 dX3_triple_52
      · have c_18 := zB_0.mp c_18
        refine lv_bipush (v := (-2)) hx hb dX3_triple_21 (by decide) ?_
        exact W.iret (v := (-2)) hx hb hr (fun t9 ht hW => ⟨⟨_, (xW g w x pc mo no (nI Z) rs wr lk ps fs ss ds lv), rfl, Or.inl ⟨fun q9 => c_18 q9.2.2, rfl, rfl⟩, cB_of ht hP⟩, hS.F ht⟩) hS.2.2 dX3_triple_23

set_option maxHeartbeats 4000000 in
set_option maxRecDepth 100000 in
theorem c_X3_known (l : Launch) (g : gX) (s0 : Nat) (w : wd_M) (x : Nat) (hs0 : s0 ≤ x) (mo : Int32) (no : Int32) (sz : Int32) (rs : Int32) (wr : Int32) (lk : Nat → Int32) (ps : Nat → Option Nat) (fs : Nat → Int32) (ss : Nat → Int32) (ds : Nat → Int32) (lv : Nat → Int32) (P : Nat) (hP4 : P ≤ 40) (v : Int32) : Met l yX3_known (Cond.code yX3_known cX3_known 2 (some (.object "PathSteps$Path")) :: tg) ({ frames := 0, cells := 0, slots := 0, locals := 0 }) (cP g s0 (xW g w x (nI P) mo no sz rs wr lk ps fs ss ds lv) [.ref x, .int (v)]) (cO g s0 (fun r w' => (¬ (nI 1 ≤ v ∧ v ≤ nI P) ∧ r = none ∧ w' = (xW g w x (nI P) mo no sz rs wr lk ps fs ss ds lv)) ∨ (∃ u, 1 ≤ u ∧ u ≤ P ∧ v = nI u ∧ r = ps u ∧ w' = (xW g w x (nI P) mo no sz rs wr lk ps fs ss ds lv)))) 0 0 (cA s0) := by
  refine Met.ofW (cc := cX3_known) (maxL := 2) (ret := some (.object "PathSteps$Path")) (by decide) rfl ?_
  intro p e s m args below meth c s₁ B9 hml hv
  obtain ⟨rfl, h0s, hP, hK⟩ := hv
  have hx := B9.exec
  have hb := B9.bytes
  have hr := B9.returns
  have hts := atoms_spec (ws := Cond.code yX3_known cX3_known 2 (some (.object "PathSteps$Path")) :: tg) B9.pre
  have hown : s.vm.findClass RX3 = some m.cls := findClass_of_methodNamed B9.named
  have hlocks := B9.notSynchronized
  have hS : gS s0 s.heap s.heap [] := va_S.rf
  have hRm : 0 ≤ (headSpec (Cond.code yX3_known cX3_known 2 (some (.object "PathSteps$Path")) :: tg) ({ frames := 0, cells := 0, slots := 0, locals := 0 })).room.frames ∧ 0 ≤ (headSpec (Cond.code yX3_known cX3_known 2 (some (.object "PathSteps$Path")) :: tg) ({ frames := 0, cells := 0, slots := 0, locals := 0 })).room.locals := ⟨Nat.le_refl _, Nat.le_refl _⟩
  have hcs : 0 + 0 ≤ (headSpec (Cond.code yX3_known cX3_known 2 (some (.object "PathSteps$Path")) :: tg) ({ frames := 0, cells := 0, slots := 0, locals := 0 })).room.cells ∧ 0 + 0 ≤ (headSpec (Cond.code yX3_known cX3_known 2 (some (.object "PathSteps$Path")) :: tg) ({ frames := 0, cells := 0, slots := 0, locals := 0 })).room.slots := ⟨Nat.zero_le _, Nat.zero_le _⟩
  have hl := lv_entry ([.ref x, .int (v)]) (n := 2) (Nat.le_of_ble_eq_true rfl)
  rw [lg_entry_eq]
  generalize (lg_sl ([.ref x, .int (v)]) ++ List.replicate (2 - (lg_sl ([.ref x, .int (v)])).length) Slot.unset).toArray = ls at hl ⊢
  have hl : lv_has ls 2 [(0, .ref x), (1, .int (v))] := hl
  refine lv_iload_n hx hb dX3_known_0 rfl (lv_at hl 1 rfl) ?_
  refine lv_iconst (v := nI 1) hx hb dX3_known_1 (by decide) ?_
  refine lv_icmp_lt (tgt := 22) hx hb dX3_known_2 (by decide) (fun c_2 => ?_) (fun c_2 => ?_)
  · refine lv_null hx hb dX3_known_22 ?_
    exact W.aret (v := va_rf none) hx hb hr (Or.inl ⟨_, rfl⟩) (va_rf_or _) (fun t9 ht hW => ⟨⟨none, (xW g w x (nI P) mo no sz rs wr lk ps fs ss ds lv), rfl, Or.inl ⟨fun q9 => by have h8 := q9; simp only [Int32.lt_iff_toInt_lt, Int32.le_iff_toInt_le] at *; omega, rfl, rfl⟩, cB_of ht hP⟩, hS.F ht⟩) hS.2.2 dX3_known_23
  · refine lv_iload_n hx hb dX3_known_5 rfl (lv_at hl 1 rfl) ?_
    refine lv_aload_n hx hb dX3_known_6 rfl (lv_at hl 0 rfl) ?_
    refine wd_get (ci := 4) (v := .int (nI P)) (C := RX3) (T := TX3) (N := 6) hx hb hts iwX3 hown hK.1 hP (xW_0) rfl 4 (by decide) (hts _ (tg_tail _ tw_73)) (fun _ h9 => h9) rfl dX3_known_7 ?_
    refine lv_icmp_gt (tgt := 22) hx hb dX3_known_10 (by decide) (fun c_10 => ?_) (fun c_10 => ?_)
    · refine lv_null hx hb dX3_known_22 ?_
      exact W.aret (v := va_rf none) hx hb hr (Or.inl ⟨_, rfl⟩) (va_rf_or _) (fun t9 ht hW => ⟨⟨none, (xW g w x (nI P) mo no sz rs wr lk ps fs ss ds lv), rfl, Or.inl ⟨fun q9 => by have h8 := q9; simp only [Int32.lt_iff_toInt_lt, Int32.le_iff_toInt_le] at *; omega, rfl, rfl⟩, cB_of ht hP⟩, hS.F ht⟩) hS.2.2 dX3_known_23
    · obtain ⟨u, hu1, hu, huv⟩ := ix_path (v := v) hP4 ⟨by have := c_2; simp only [Int32.lt_iff_toInt_lt, Int32.le_iff_toInt_le] at *; omega, by have := c_10; simp only [Int32.lt_iff_toInt_lt, Int32.le_iff_toInt_le] at *; omega⟩
      subst huv
      refine lv_aload_n hx hb dX3_known_13 rfl (lv_at hl 0 rfl) ?_
      refine wd_get (ci := 4) (v := .ref (x + 3)) (C := RX3) (T := TX3) (N := 6) hx hb hts iwX3 hown hK.1 hP (xW_0) rfl 1 (by decide) (hts _ (tg_tail _ tw_70)) (fun _ h9 => h9) rfl dX3_known_14 ?_
      refine lv_iload_n hx hb dX3_known_17 rfl (lv_at hl 1 rfl) ?_
      refine wd_qldN hx hb hK.1 hP 2 (k := u) (xW_3) rfl (by omega) (by decide) dX3_known_18 ?_
      refine lv_goto (tgt := 23) hx hb dX3_known_19 (by decide) ?_
      exact W.aret (v := va_rf (ps u)) hx hb hr (Or.inl ⟨_, rfl⟩) (va_rf_or _) (fun t9 ht hW => ⟨⟨(ps u), (xW g w x (nI P) mo no sz rs wr lk ps fs ss ds lv), rfl, Or.inr ⟨u, hu1, hu, rfl, rfl, rfl⟩, cB_of ht hP⟩, hS.F ht⟩) hS.2.2 dX3_known_23

