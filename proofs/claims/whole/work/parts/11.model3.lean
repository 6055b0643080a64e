/-! THE REFERENCE: at, cycle, depth; from -/
def an_at (wr : Int32) (N : Nat) (F T : Nat → Int32) (i sd : Int32) : Int32 := if ¬ (sd = 0 ∨ sd = nI 1) then -2 else if wr = 0 then -3 else if ¬ (¬ i < 0 ∧ ¬ nI N ≤ i) then -1 else if sd = 0 then F i.toNatClampNeg else T i.toNatClampNeg
theorem ix_of {i : Int32} {N : Nat} (hN : N < 2 ^ 31) (h1 : ¬ i < 0) (h2 : ¬ nI N ≤ i) : ∃ k, k < N ∧ i = nI k := by
  rcases pk_ix i hN with h | h | h
  · exact absurd h h1
  · exact absurd h h2
  · exact h
def ct_from (su : Nat → Int32) (nd : Int32) : Nat → Nat
  | 0 => 0
  | k + 1 => if su k = nd then ct_from su nd k + 1 else ct_from su nd k
set_option maxHeartbeats 4000000 in
set_option maxRecDepth 100000 in
theorem c_X4_at (l : Launch) (g : gX) (s0 : Nat) (w : wd_M) (h : Nat) (hs0 : s0 ≤ h) (rf nt np mo gb wr : Int32) (su pr ob ki fi se ta nd ii sp qu rF rT rD : Nat → Int32) (N : Nat) (hN : N ≤ 2000) (i sd : Int32) : Met l yX4_at (Cond.code yX4_at cX4_at 3 (some .int) :: tg) ({ frames := 1, cells := 0, slots := 0, locals := 21 }) (cP g s0 (mW g w h rf nt np mo gb wr (nI N) su pr ob ki fi se ta nd ii sp qu rF rT rD) [.ref h, .int (i), .int (sd)]) (cI g s0 (fun r w' => r = an_at wr N rF rT i sd ∧ w' = (mW g w h (nI 0) nt np mo gb wr (nI N) su pr ob ki fi se ta nd ii sp qu rF rT rD))) 0 0 (cA s0) := by
  refine Met.ofW (cc := cX4_at) (maxL := 3) (ret := some .int) (by decide) rfl ?_
  intro p e s m args below meth c s₁ B9 hml hv
  obtain ⟨rfl, h0s, hP, hK⟩ := hv
  have hx := B9.exec
  have hb := B9.bytes
  have hr := B9.returns
  have hts := atoms_spec (ws := Cond.code yX4_at cX4_at 3 (some .int) :: tg) B9.pre
  have hown : s.vm.findClass RX4 = some m.cls := findClass_of_methodNamed B9.named
  have hlocks := B9.notSynchronized
  have hS : gS s0 s.heap s.heap [] := va_S.rf
  have hRm : 1 ≤ (headSpec (Cond.code yX4_at cX4_at 3 (some .int) :: tg) ({ frames := 1, cells := 0, slots := 0, locals := 21 })).room.frames ∧ 21 ≤ (headSpec (Cond.code yX4_at cX4_at 3 (some .int) :: tg) ({ frames := 1, cells := 0, slots := 0, locals := 21 })).room.locals := ⟨Nat.le_refl _, Nat.le_refl _⟩
  have hcs : 0 + 0 ≤ (headSpec (Cond.code yX4_at cX4_at 3 (some .int) :: tg) ({ frames := 1, cells := 0, slots := 0, locals := 21 })).room.cells ∧ 0 + 0 ≤ (headSpec (Cond.code yX4_at cX4_at 3 (some .int) :: tg) ({ frames := 1, cells := 0, slots := 0, locals := 21 })).room.slots := ⟨Nat.zero_le _, Nat.zero_le _⟩
  have hl := lv_entry ([.ref h, .int (i), .int (sd)]) (n := 3) (Nat.le_of_ble_eq_true rfl)
  rw [lg_entry_eq]
  generalize (lg_sl ([.ref h, .int (i), .int (sd)]) ++ List.replicate (3 - (lg_sl ([.ref h, .int (i), .int (sd)])).length) Slot.unset).toArray = ls at hl ⊢
  have hl : lv_has ls 3 [(0, .ref h), (1, .int (i)), (2, .int (sd))] := hl
  refine lv_aload_n hx hb dX4_at_0 rfl (lv_at hl 0 rfl) ?_
  refine lv_iconst (v := nI 0) hx hb dX4_at_1 (by decide) ?_
  refine wd_put (ci := 5) (v := .int (nI 0)) (ty := .int) (C := RX4) (T := TX4) (N := 21) hx hb hts iwX4 tyX4 tyX4_ok nmX4 hown hK.1 hP hS (by omega) (mW_0) rfl 0 (by decide) (hts _ (tg_tail _ tw_423)) (fun _ h9 => h9) rfl (by decide +kernel) (rfl) (rfl) (Nat.le_of_ble_eq_true rfl) dX4_at_2 (fun H locs hP hS hz => ?_)
  have hP : gP g (mW g w h (nI 0) nt np mo gb wr (nI N) su pr ob ki fi se ta nd ii sp qu rF rT rD) H := by have h9 : gP g (wd_up (mW g w h rf nt np mo gb wr (nI N) su pr ob ki fi se ta nd ii sp qu rF rT rD) h (.inr (5, [.int (nI 0), .ref (h + 1), .ref (h + 2), .ref (h + 3), .int (nt), .ref (h + 4), .ref (h + 5), .ref (h + 6), .int (np), .int (mo), .ref (h + 7), .ref (h + 8), .ref (h + 9), .int (gb), .ref (h + 10), .ref (h + 11), .int (wr), .int (nI N), .ref (h + 12), .ref (h + 13), .ref (h + 14)]))) H := hP; rw [mW_s0] at h9; exact h9
  refine lv_iload_n hx hb dX4_at_5 rfl (lv_at hl 2 rfl) ?_
  refine lv_if_eq (tgt := 17) hx hb dX4_at_6 (by decide) (fun c_6 => ?_) (fun c_6 => ?_)
  · refine lv_aload_n hx hb dX4_at_17 rfl (lv_at hl 0 rfl) ?_
    refine wd_get (ci := 5) (v := .int (wr)) (C := RX4) (T := TX4) (N := 21) hx hb hts iwX4 hown hK.1 hP (mW_0) rfl 16 (by decide) (hts _ (tg_tail _ tw_439)) (fun _ h9 => h9) rfl dX4_at_18 ?_
    refine lv_if_ne (tgt := 27) hx hb dX4_at_21 (by decide) (fun c_21 => ?_) (fun c_21 => ?_)
    · refine lv_aload_n hx hb dX4_at_27 rfl (lv_at hl 0 rfl) ?_
      refine lv_iload_n hx hb dX4_at_28 rfl (lv_at hl 1 rfl) ?_
      refine cr_Vi (As := [.int (i)]) (rest := []) ⟨hx, hb, hml, hown, hts⟩ (c_X4_isRow l g s0  w h hs0 (nI 0) nt np mo gb wr su pr ob ki fi se ta nd ii sp qu rF rT rD N hN i) (cw_V 1 hts tg_tail tw_589 tw_591 tp_33 tw_4 tw_592 rfl rfl (by decide +kernel) ⟨Nat.le_trans (by decide) hRm.1, Nat.le_trans (by decide) hRm.2⟩) hK hP h0s hS (mW_0) rfl rfl rfl hl.1 rfl (Nat.le_of_ble_eq_true rfl) dX4_at_29 hcs (fun r9 w9 H locs hw hP hS => ?_)
      obtain ⟨e_r9, hw9⟩ := hw
      rw [hw9] at hP
      subst e_r9
      refine lv_if_ne (tgt := 39) hx hb dX4_at_32 (by decide) (fun c_32 => ?_) (fun c_32 => ?_)
      · have c_32 := zB_1.mp c_32
        obtain ⟨k, hk, hik⟩ := ix_of (by omega) (c_32).2.1 (c_32).2.2
        subst hik
        have hcl := nI_clamp (n := k) (by omega)
        refine lv_iload_n hx hb dX4_at_39 rfl (lv_at hl 2 rfl) ?_
        refine lv_if_ne (tgt := 52) hx hb dX4_at_40 (by decide) (fun c_40 => ?_) (fun c_40 => ?_)
        · refine lv_aload_n hx hb dX4_at_52 rfl (lv_at hl 0 rfl) ?_
          refine wd_get (ci := 5) (v := .ref (h + 13)) (C := RX4) (T := TX4) (N := 21) hx hb hts iwX4 hown hK.1 hP (mW_0) rfl 19 (by decide) (hts _ (tg_tail _ tw_442)) (fun _ h9 => h9) rfl dX4_at_53 ?_
          refine lv_iload_n hx hb dX4_at_56 rfl (lv_at hl 1 rfl) ?_
          refine wd_ildN hx hb hK.1 hP 0 (k := k) (mW_13) rfl (by omega) (by decide) dX4_at_57 ?_
          exact W.iret (v := rT k) hx hb hr (fun t9 ht hW => ⟨⟨_, (mW g w h (nI 0) nt np mo gb wr (nI N) su pr ob ki fi se ta nd ii sp qu rF rT rD), rfl, ⟨by clear hts hP hK hx hb hr hown hS hRm hcs hl hlocks; grind [an_at], rfl⟩, cB_of ht hP⟩, hS.F ht⟩) hS.2.2 dX4_at_58
        · refine lv_aload_n hx hb dX4_at_43 rfl (lv_at hl 0 rfl) ?_
          refine wd_get (ci := 5) (v := .ref (h + 12)) (C := RX4) (T := TX4) (N := 21) hx hb hts iwX4 hown hK.1 hP (mW_0) rfl 18 (by decide) (hts _ (tg_tail _ tw_441)) (fun _ h9 => h9) rfl dX4_at_44 ?_
          refine lv_iload_n hx hb dX4_at_47 rfl (lv_at hl 1 rfl) ?_
          refine wd_ildN hx hb hK.1 hP 0 (k := k) (mW_12) rfl (by omega) (by decide) dX4_at_48 ?_
          refine lv_goto (tgt := 58) hx hb dX4_at_49 (by decide) ?_
          exact W.iret (v := rF k) hx hb hr (fun t9 ht hW => ⟨⟨_, (mW g w h (nI 0) nt np mo gb wr (nI N) su pr ob ki fi se ta nd ii sp qu rF rT rD), rfl, ⟨by clear hts hP hK hx hb hr hown hS hRm hcs hl hlocks; grind [an_at], rfl⟩, cB_of ht hP⟩, hS.F ht⟩) hS.2.2 dX4_at_58
      · have c_32 := zB_0.mp c_32
        refine lv_iconst (v := (-1)) hx hb dX4_at_35 (by decide) ?_
        refine lv_goto (tgt := 58) hx hb dX4_at_36 (by decide) ?_
        exact W.iret (v := (-1)) hx hb hr (fun t9 ht hW => ⟨⟨_, (mW g w h (nI 0) nt np mo gb wr (nI N) su pr ob ki fi se ta nd ii sp qu rF rT rD), rfl, ⟨by clear hts hP hK hx hb hr hown hS hRm hcs hl hlocks; grind [an_at], rfl⟩, cB_of ht hP⟩, hS.F ht⟩) hS.2.2 dX4_at_58
    · refine lv_bipush (v := (-3)) hx hb dX4_at_24 (by decide) ?_
      exact W.iret (v := (-3)) hx hb hr (fun t9 ht hW => ⟨⟨_, (mW g w h (nI 0) nt np mo gb wr (nI N) su pr ob ki fi se ta nd ii sp qu rF rT rD), rfl, ⟨by clear hts hP hK hx hb hr hown hS hRm hcs hl hlocks; grind [an_at], rfl⟩, cB_of ht hP⟩, hS.F ht⟩) hS.2.2 dX4_at_26
  · refine lv_iload_n hx hb dX4_at_9 rfl (lv_at hl 2 rfl) ?_
    refine lv_iconst (v := nI 1) hx hb dX4_at_10 (by decide) ?_
    refine lv_icmp_eq (tgt := 17) hx hb dX4_at_11 (by decide) (fun c_11 => ?_) (fun c_11 => ?_)
    · refine lv_aload_n hx hb dX4_at_17 rfl (lv_at hl 0 rfl) ?_
      refine wd_get (ci := 5) (v := .int (wr)) (C := RX4) (T := TX4) (N := 21) hx hb hts iwX4 hown hK.1 hP (mW_0) rfl 16 (by decide) (hts _ (tg_tail _ tw_439)) (fun _ h9 => h9) rfl dX4_at_18 ?_
      refine lv_if_ne (tgt := 27) hx hb dX4_at_21 (by decide) (fun c_21 => ?_) (fun c_21 => ?_)
      · refine lv_aload_n hx hb dX4_at_27 rfl (lv_at hl 0 rfl) ?_
        refine lv_iload_n hx hb dX4_at_28 rfl (lv_at hl 1 rfl) ?_
        refine cr_Vi (As := [.int (i)]) (rest := []) ⟨hx, hb, hml, hown, hts⟩ (c_X4_isRow l g s0  w h hs0 (nI 0) nt np mo gb wr su pr ob ki fi se ta nd ii sp qu rF rT rD N hN i) (cw_V 1 hts tg_tail tw_589 tw_591 tp_33 tw_4 tw_592 rfl rfl (by decide +kernel) ⟨Nat.le_trans (by decide) hRm.1, Nat.le_trans (by decide) hRm.2⟩) hK hP h0s hS (mW_0) rfl rfl rfl hl.1 rfl (Nat.le_of_ble_eq_true rfl) dX4_at_29 hcs (fun r9 w9 H locs hw hP hS => ?_)
        obtain ⟨e_r9, hw9⟩ := hw
        rw [hw9] at hP
        subst e_r9
        refine lv_if_ne (tgt := 39) hx hb dX4_at_32 (by decide) (fun c_32 => ?_) (fun c_32 => ?_)
        · have c_32 := zB_1.mp c_32
          obtain ⟨k, hk, hik⟩ := ix_of (by omega) (c_32).2.1 (c_32).2.2
          subst hik
          have hcl := nI_clamp (n := k) (by omega)
          refine lv_iload_n hx hb dX4_at_39 rfl (lv_at hl 2 rfl) ?_
          refine lv_if_ne (tgt := 52) hx hb dX4_at_40 (by decide) (fun c_40 => ?_) (fun c_40 => ?_)
          · refine lv_aload_n hx hb dX4_at_52 rfl (lv_at hl 0 rfl) ?_
            refine wd_get (ci := 5) (v := .ref (h + 13)) (C := RX4) (T := TX4) (N := 21) hx hb hts iwX4 hown hK.1 hP (mW_0) rfl 19 (by decide) (hts _ (tg_tail _ tw_442)) (fun _ h9 => h9) rfl dX4_at_53 ?_
            refine lv_iload_n hx hb dX4_at_56 rfl (lv_at hl 1 rfl) ?_
            refine wd_ildN hx hb hK.1 hP 0 (k := k) (mW_13) rfl (by omega) (by decide) dX4_at_57 ?_
            exact W.iret (v := rT k) hx hb hr (fun t9 ht hW => ⟨⟨_, (mW g w h (nI 0) nt np mo gb wr (nI N) su pr ob ki fi se ta nd ii sp qu rF rT rD), rfl, ⟨by clear hts hP hK hx hb hr hown hS hRm hcs hl hlocks; grind [an_at], rfl⟩, cB_of ht hP⟩, hS.F ht⟩) hS.2.2 dX4_at_58
          · refine lv_aload_n hx hb dX4_at_43 rfl (lv_at hl 0 rfl) ?_
            refine wd_get (ci := 5) (v := .ref (h + 12)) (C := RX4) (T := TX4) (N := 21) hx hb hts iwX4 hown hK.1 hP (mW_0) rfl 18 (by decide) (hts _ (tg_tail _ tw_441)) (fun _ h9 => h9) rfl dX4_at_44 ?_
            refine lv_iload_n hx hb dX4_at_47 rfl (lv_at hl 1 rfl) ?_
            refine wd_ildN hx hb hK.1 hP 0 (k := k) (mW_12) rfl (by omega) (by decide) dX4_at_48 ?_
            refine lv_goto (tgt := 58) hx hb dX4_at_49 (by decide) ?_
            exact W.iret (v := rF k) hx hb hr (fun t9 ht hW => ⟨⟨_, (mW g w h (nI 0) nt np mo gb wr (nI N) su pr ob ki fi se ta nd ii sp qu rF rT rD), rfl, ⟨by clear hts hP hK hx hb hr hown hS hRm hcs hl hlocks; grind [an_at], rfl⟩, cB_of ht hP⟩, hS.F ht⟩) hS.2.2 dX4_at_58
        · have c_32 := zB_0.mp c_32
          refine lv_iconst (v := (-1)) hx hb dX4_at_35 (by decide) ?_
          refine lv_goto (tgt := 58) hx hb dX4_at_36 (by decide) ?_
          exact W.iret (v := (-1)) hx hb hr (fun t9 ht hW => ⟨⟨_, (mW g w h (nI 0) nt np mo gb wr (nI N) su pr ob ki fi se ta nd ii sp qu rF rT rD), rfl, ⟨by clear hts hP hK hx hb hr hown hS hRm hcs hl hlocks; grind [an_at], rfl⟩, cB_of ht hP⟩, hS.F ht⟩) hS.2.2 dX4_at_58
      · refine lv_bipush (v := (-3)) hx hb dX4_at_24 (by decide) ?_
        exact W.iret (v := (-3)) hx hb hr (fun t9 ht hW => ⟨⟨_, (mW g w h (nI 0) nt np mo gb wr (nI N) su pr ob ki fi se ta nd ii sp qu rF rT rD), rfl, ⟨by clear hts hP hK hx hb hr hown hS hRm hcs hl hlocks; grind [an_at], rfl⟩, cB_of ht hP⟩, hS.F ht⟩) hS.2.2 dX4_at_26
    · refine lv_bipush (v := (-2)) hx hb dX4_at_14 (by decide) ?_
      exact W.iret (v := (-2)) hx hb hr (fun t9 ht hW => ⟨⟨_, (mW g w h (nI 0) nt np mo gb wr (nI N) su pr ob ki fi se ta nd ii sp qu rF rT rD), rfl, ⟨by clear hts hP hK hx hb hr hown hS hRm hcs hl hlocks; grind [an_at], rfl⟩, cB_of ht hP⟩, hS.F ht⟩) hS.2.2 dX4_at_16

set_option maxHeartbeats 4000000 in
set_option maxRecDepth 100000 in
theorem c_X4_cycle (l : Launch) (g : gX) (s0 : Nat) (w : wd_M) (h : Nat) (hs0 : s0 ≤ h) (rf nt np mo gb wr : Int32) (su pr ob ki fi se ta nd ii sp qu rF rT rD : Nat → Int32) (N : Nat) (hN : N ≤ 2000) (i : Int32) : Met l yX4_cycle (Cond.code yX4_cycle cX4_cycle 2 (some .boolean) :: tg) ({ frames := 1, cells := 0, slots := 0, locals := 21 }) (cP g s0 (mW g w h rf nt np mo gb wr (nI N) su pr ob ki fi se ta nd ii sp qu rF rT rD) [.ref h, .int (i)]) (cI g s0 (fun r w' => r = zB ((¬ wr = 0 ∧ ¬ i < 0 ∧ ¬ nI N ≤ i) ∧ rF i.toNatClampNeg = rT i.toNatClampNeg) ∧ w' = (mW g w h (nI 0) nt np mo gb wr (nI N) su pr ob ki fi se ta nd ii sp qu rF rT rD))) 0 0 (cA s0) := by
  refine Met.ofW (cc := cX4_cycle) (maxL := 2) (ret := some .boolean) (by decide) rfl ?_
  intro p e s m args below meth c s₁ B9 hml hv
  obtain ⟨rfl, h0s, hP, hK⟩ := hv
  have hx := B9.exec
  have hb := B9.bytes
  have hr := B9.returns
  have hts := atoms_spec (ws := Cond.code yX4_cycle cX4_cycle 2 (some .boolean) :: tg) B9.pre
  have hown : s.vm.findClass RX4 = some m.cls := findClass_of_methodNamed B9.named
  have hlocks := B9.notSynchronized
  have hS : gS s0 s.heap s.heap [] := va_S.rf
  have hRm : 1 ≤ (headSpec (Cond.code yX4_cycle cX4_cycle 2 (some .boolean) :: tg) ({ frames := 1, cells := 0, slots := 0, locals := 21 })).room.frames ∧ 21 ≤ (headSpec (Cond.code yX4_cycle cX4_cycle 2 (some .boolean) :: tg) ({ frames := 1, cells := 0, slots := 0, locals := 21 })).room.locals := ⟨Nat.le_refl _, Nat.le_refl _⟩
  have hcs : 0 + 0 ≤ (headSpec (Cond.code yX4_cycle cX4_cycle 2 (some .boolean) :: tg) ({ frames := 1, cells := 0, slots := 0, locals := 21 })).room.cells ∧ 0 + 0 ≤ (headSpec (Cond.code yX4_cycle cX4_cycle 2 (some .boolean) :: tg) ({ frames := 1, cells := 0, slots := 0, locals := 21 })).room.slots := ⟨Nat.zero_le _, Nat.zero_le _⟩
  have hl := lv_entry ([.ref h, .int (i)]) (n := 2) (Nat.le_of_ble_eq_true rfl)
  rw [lg_entry_eq]
  generalize (lg_sl ([.ref h, .int (i)]) ++ List.replicate (2 - (lg_sl ([.ref h, .int (i)])).length) Slot.unset).toArray = ls at hl ⊢
  have hl : lv_has ls 2 [(0, .ref h), (1, .int (i))] := hl
  refine lv_aload_n hx hb dX4_cycle_0 rfl (lv_at hl 0 rfl) ?_
  refine lv_iconst (v := nI 0) hx hb dX4_cycle_1 (by decide) ?_
  refine wd_put (ci := 5) (v := .int (nI 0)) (ty := .int) (C := RX4) (T := TX4) (N := 21) hx hb hts iwX4 tyX4 tyX4_ok nmX4 hown hK.1 hP hS (by omega) (mW_0) rfl 0 (by decide) (hts _ (tg_tail _ tw_423)) (fun _ h9 => h9) rfl (by decide +kernel) (rfl) (rfl) (Nat.le_of_ble_eq_true rfl) dX4_cycle_2 (fun H locs hP hS hz => ?_)
  have hP : gP g (mW g w h (nI 0) nt np mo gb wr (nI N) su pr ob ki fi se ta nd ii sp qu rF rT rD) H := by have h9 : gP g (wd_up (mW g w h rf nt np mo gb wr (nI N) su pr ob ki fi se ta nd ii sp qu rF rT rD) h (.inr (5, [.int (nI 0), .ref (h + 1), .ref (h + 2), .ref (h + 3), .int (nt), .ref (h + 4), .ref (h + 5), .ref (h + 6), .int (np), .int (mo), .ref (h + 7), .ref (h + 8), .ref (h + 9), .int (gb), .ref (h + 10), .ref (h + 11), .int (wr), .int (nI N), .ref (h + 12), .ref (h + 13), .ref (h + 14)]))) H := hP; rw [mW_s0] at h9; exact h9
  refine lv_aload_n hx hb dX4_cycle_5 rfl (lv_at hl 0 rfl) ?_
  refine lv_iload_n hx hb dX4_cycle_6 rfl (lv_at hl 1 rfl) ?_
  refine cr_Vi (As := [.int (i)]) (rest := []) ⟨hx, hb, hml, hown, hts⟩ (c_X4_isRow l g s0  w h hs0 (nI 0) nt np mo gb wr su pr ob ki fi se ta nd ii sp qu rF rT rD N hN i) (cw_V 1 hts tg_tail tw_589 tw_591 tp_33 tw_4 tw_592 rfl rfl (by decide +kernel) ⟨Nat.le_trans (by decide) hRm.1, Nat.le_trans (by decide) hRm.2⟩) hK hP h0s hS (mW_0) rfl rfl rfl hl.1 rfl (Nat.le_of_ble_eq_true rfl) dX4_cycle_7 hcs (fun r9 w9 H locs hw hP hS => ?_)
  obtain ⟨e_r9, hw9⟩ := hw
  rw [hw9] at hP
  subst e_r9
  refine lv_if_eq (tgt := 32) hx hb dX4_cycle_10 (by decide) (fun c_10 => ?_) (fun c_10 => ?_)
  · have c_10 := zB_0.mp c_10
    refine lv_iconst (v := nI 0) hx hb dX4_cycle_32 (by decide) ?_
    exact W.zret (ty := .boolean) (v := nI 0) hx hb hr (by rfl) (fun t9 ht hW => ⟨⟨_, (mW g w h (nI 0) nt np mo gb wr (nI N) su pr ob ki fi se ta nd ii sp qu rF rT rD), rfl, ⟨by clear hts hP hK hx hb hr hown hS hRm hcs hl hlocks; unfold zB; grind [nI_0, nI_o], rfl⟩, cB_of ht hP⟩, hS.F ht⟩) hS.2.2 dX4_cycle_33
  · have c_10 := zB_1.mp c_10
    obtain ⟨k, hk, hik⟩ := ix_of (by omega) (c_10).2.1 (c_10).2.2
    subst hik
    have hcl := nI_clamp (n := k) (by omega)
    refine lv_aload_n hx hb dX4_cycle_13 rfl (lv_at hl 0 rfl) ?_
    refine wd_get (ci := 5) (v := .ref (h + 12)) (C := RX4) (T := TX4) (N := 21) hx hb hts iwX4 hown hK.1 hP (mW_0) rfl 18 (by decide) (hts _ (tg_tail _ tw_441)) (fun _ h9 => h9) rfl dX4_cycle_14 ?_
    refine lv_iload_n hx hb dX4_cycle_17 rfl (lv_at hl 1 rfl) ?_
    refine wd_ildN hx hb hK.1 hP 0 (k := k) (mW_12) rfl (by omega) (by decide) dX4_cycle_18 ?_
    refine lv_aload_n hx hb dX4_cycle_19 rfl (lv_at hl 0 rfl) ?_
    refine wd_get (ci := 5) (v := .ref (h + 13)) (C := RX4) (T := TX4) (N := 21) hx hb hts iwX4 hown hK.1 hP (mW_0) rfl 19 (by decide) (hts _ (tg_tail _ tw_442)) (fun _ h9 => h9) rfl dX4_cycle_20 ?_
    refine lv_iload_n hx hb dX4_cycle_23 rfl (lv_at hl 1 rfl) ?_
    refine wd_ildN hx hb hK.1 hP 0 (k := k) (mW_13) rfl (by omega) (by decide) dX4_cycle_24 ?_
    refine lv_icmp_ne (tgt := 32) hx hb dX4_cycle_25 (by decide) (fun c_25 => ?_) (fun c_25 => ?_)
    · refine lv_iconst (v := nI 0) hx hb dX4_cycle_32 (by decide) ?_
      exact W.zret (ty := .boolean) (v := nI 0) hx hb hr (by rfl) (fun t9 ht hW => ⟨⟨_, (mW g w h (nI 0) nt np mo gb wr (nI N) su pr ob ki fi se ta nd ii sp qu rF rT rD), rfl, ⟨by clear hts hP hK hx hb hr hown hS hRm hcs hl hlocks; unfold zB; grind [nI_0, nI_o], rfl⟩, cB_of ht hP⟩, hS.F ht⟩) hS.2.2 dX4_cycle_33
    · refine lv_iconst (v := nI 1) hx hb dX4_cycle_28 (by decide) ?_
      refine lv_goto (tgt := 33) hx hb dX4_cycle_29 (by decide) ?_
      exact W.zret (ty := .boolean) (v := nI 1) hx hb hr (by rfl) (fun t9 ht hW => ⟨⟨_, (mW g w h (nI 0) nt np mo gb wr (nI N) su pr ob ki fi se ta nd ii sp qu rF rT rD), rfl, ⟨by clear hts hP hK hx hb hr hown hS hRm hcs hl hlocks; unfold zB; grind [nI_0, nI_o], rfl⟩, cB_of ht hP⟩, hS.F ht⟩) hS.2.2 dX4_cycle_33

set_option maxHeartbeats 4000000 in
set_option maxRecDepth 100000 in
theorem c_X4_depth (l : Launch) (g : gX) (s0 : Nat) (w : wd_M) (h : Nat) (hs0 : s0 ≤ h) (rf nt np mo gb wr : Int32) (su pr ob ki fi se ta nd ii sp qu rF rT rD : Nat → Int32) (N : Nat) (hN : N ≤ 2000) (i : Int32) : Met l yX4_depth (Cond.code yX4_depth cX4_depth 2 (some .int) :: tg) ({ frames := 1, cells := 0, slots := 0, locals := 21 }) (cP g s0 (mW g w h rf nt np mo gb wr (nI N) su pr ob ki fi se ta nd ii sp qu rF rT rD) [.ref h, .int (i)]) (cI g s0 (fun r w' => ((¬ wr = 0 ∧ ¬ i < 0 ∧ ¬ nI N ≤ i) ∧ r = rD i.toNatClampNeg ∧ w' = (mW g w h (nI 0) nt np mo gb wr (nI N) su pr ob ki fi se ta nd ii sp qu rF rT rD)) ∨ (¬ (¬ wr = 0 ∧ ¬ i < 0 ∧ ¬ nI N ≤ i) ∧ r = nI 0 ∧ w' = (mW g w h (nI 1) nt np mo gb wr (nI N) su pr ob ki fi se ta nd ii sp qu rF rT rD)))) 0 0 (cA s0) := by
  refine Met.ofW (cc := cX4_depth) (maxL := 2) (ret := some .int) (by decide) rfl ?_
  intro p e s m args below meth c s₁ B9 hml hv
  obtain ⟨rfl, h0s, hP, hK⟩ := hv
  have hx := B9.exec
  have hb := B9.bytes
  have hr := B9.returns
  have hts := atoms_spec (ws := Cond.code yX4_depth cX4_depth 2 (some .int) :: tg) B9.pre
  have hown : s.vm.findClass RX4 = some m.cls := findClass_of_methodNamed B9.named
  have hlocks := B9.notSynchronized
  have hS : gS s0 s.heap s.heap [] := va_S.rf
  have hRm : 1 ≤ (headSpec (Cond.code yX4_depth cX4_depth 2 (some .int) :: tg) ({ frames := 1, cells := 0, slots := 0, locals := 21 })).room.frames ∧ 21 ≤ (headSpec (Cond.code yX4_depth cX4_depth 2 (some .int) :: tg) ({ frames := 1, cells := 0, slots := 0, locals := 21 })).room.locals := ⟨Nat.le_refl _, Nat.le_refl _⟩
  have hcs : 0 + 0 ≤ (headSpec (Cond.code yX4_depth cX4_depth 2 (some .int) :: tg) ({ frames := 1, cells := 0, slots := 0, locals := 21 })).room.cells ∧ 0 + 0 ≤ (headSpec (Cond.code yX4_depth cX4_depth 2 (some .int) :: tg) ({ frames := 1, cells := 0, slots := 0, locals := 21 })).room.slots := ⟨Nat.zero_le _, Nat.zero_le _⟩
  have hl := lv_entry ([.ref h, .int (i)]) (n := 2) (Nat.le_of_ble_eq_true rfl)
  rw [lg_entry_eq]
  generalize (lg_sl ([.ref h, .int (i)]) ++ List.replicate (2 - (lg_sl ([.ref h, .int (i)])).length) Slot.unset).toArray = ls at hl ⊢
  have hl : lv_has ls 2 [(0, .ref h), (1, .int (i))] := hl
  refine lv_aload_n hx hb dX4_depth_0 rfl (lv_at hl 0 rfl) ?_
  refine lv_aload_n hx hb dX4_depth_1 rfl (lv_at hl 0 rfl) ?_
  refine lv_iload_n hx hb dX4_depth_2 rfl (lv_at hl 1 rfl) ?_
  refine cr_Vi (As := [.int (i)]) (rest := [.ref h]) ⟨hx, hb, hml, hown, hts⟩ (c_X4_isRow l g s0  w h hs0 rf nt np mo gb wr su pr ob ki fi se ta nd ii sp qu rF rT rD N hN i) (cw_V 1 hts tg_tail tw_589 tw_591 tp_33 tw_4 tw_592 rfl rfl (by decide +kernel) ⟨Nat.le_trans (by decide) hRm.1, Nat.le_trans (by decide) hRm.2⟩) hK hP h0s hS (mW_0) rfl rfl rfl hl.1 rfl (Nat.le_of_ble_eq_true rfl) dX4_depth_3 hcs (fun r9 w9 H locs hw hP hS => ?_)
  obtain ⟨e_r9, hw9⟩ := hw
  rw [hw9] at hP
  subst e_r9
  refine lv_if_eq (tgt := 13) hx hb dX4_depth_6 (by decide) (fun c_6 => ?_) (fun c_6 => ?_)
  · have c_6 := zB_0.mp c_6
    refine lv_iconst (v := nI 1) hx hb dX4_depth_13 (by decide) ?_
    refine wd_put (ci := 5) (v := .int (nI 1)) (ty := .int) (C := RX4) (T := TX4) (N := 21) hx hb hts iwX4 tyX4 tyX4_ok nmX4 hown hK.1 hP hS (by omega) (mW_0) rfl 0 (by decide) (hts _ (tg_tail _ tw_423)) (fun _ h9 => h9) rfl (by decide +kernel) (rfl) (rfl) (Nat.le_of_ble_eq_true rfl) dX4_depth_14 (fun H locs hP hS hz => ?_)
    have hP : gP g (mW g w h (nI 1) nt np mo gb wr (nI N) su pr ob ki fi se ta nd ii sp qu rF rT rD) H := by have h9 : gP g (wd_up (mW g w h rf nt np mo gb wr (nI N) su pr ob ki fi se ta nd ii sp qu rF rT rD) h (.inr (5, [.int (nI 1), .ref (h + 1), .ref (h + 2), .ref (h + 3), .int (nt), .ref (h + 4), .ref (h + 5), .ref (h + 6), .int (np), .int (mo), .ref (h + 7), .ref (h + 8), .ref (h + 9), .int (gb), .ref (h + 10), .ref (h + 11), .int (wr), .int (nI N), .ref (h + 12), .ref (h + 13), .ref (h + 14)]))) H := hP; rw [mW_s0] at h9; exact h9
    refine lv_aload_n hx hb dX4_depth_17 rfl (lv_at hl 0 rfl) ?_
    refine wd_get (ci := 5) (v := .int (nI 1)) (C := RX4) (T := TX4) (N := 21) hx hb hts iwX4 hown hK.1 hP (mW_0) rfl 0 (by decide) (hts _ (tg_tail _ tw_423)) (fun _ h9 => h9) rfl dX4_depth_18 ?_
    refine lv_if_le (tgt := 28) hx hb dX4_depth_21 (by decide) (fun c_21 => ?_) (fun c_21 => ?_)
    · have c_21 := (nI_leI (a := 1) (b := 0) (by omega) (by omega)).mp (show nI 1 ≤ nI 0 from c_21)
      exact absurd c_21 (by decide)
    · have c_21 := mt (nI_leI (a := 1) (b := 0) (by omega) (by omega)).mpr (show ¬ (nI 1 ≤ nI 0) from c_21)
      refine lv_iconst (v := nI 0) hx hb dX4_depth_24 (by decide) ?_
      refine lv_goto (tgt := 34) hx hb dX4_depth_25 (by decide) ?_
      exact W.iret (v := nI 0) hx hb hr (fun t9 ht hW => ⟨⟨_, (mW g w h (nI 1) nt np mo gb wr (nI N) su pr ob ki fi se ta nd ii sp qu rF rT rD), rfl, Or.inr ⟨c_6, rfl, rfl⟩, cB_of ht hP⟩, hS.F ht⟩) hS.2.2 dX4_depth_34
  · have c_6 := zB_1.mp c_6
    obtain ⟨k, hk, hik⟩ := ix_of (by omega) (c_6).2.1 (c_6).2.2
    subst hik
    have hcl := nI_clamp (n := k) (by omega)
    refine lv_iconst (v := nI 0) hx hb dX4_depth_9 (by decide) ?_
    refine lv_goto (tgt := 14) hx hb dX4_depth_10 (by decide) ?_
    refine wd_put (ci := 5) (v := .int (nI 0)) (ty := .int) (C := RX4) (T := TX4) (N := 21) hx hb hts iwX4 tyX4 tyX4_ok nmX4 hown hK.1 hP hS (by omega) (mW_0) rfl 0 (by decide) (hts _ (tg_tail _ tw_423)) (fun _ h9 => h9) rfl (by decide +kernel) (rfl) (rfl) (Nat.le_of_ble_eq_true rfl) dX4_depth_14 (fun H locs hP hS hz => ?_)
    have hP : gP g (mW g w h (nI 0) nt np mo gb wr (nI N) su pr ob ki fi se ta nd ii sp qu rF rT rD) H := by have h9 : gP g (wd_up (mW g w h rf nt np mo gb wr (nI N) su pr ob ki fi se ta nd ii sp qu rF rT rD) h (.inr (5, [.int (nI 0), .ref (h + 1), .ref (h + 2), .ref (h + 3), .int (nt), .ref (h + 4), .ref (h + 5), .ref (h + 6), .int (np), .int (mo), .ref (h + 7), .ref (h + 8), .ref (h + 9), .int (gb), .ref (h + 10), .ref (h + 11), .int (wr), .int (nI N), .ref (h + 12), .ref (h + 13), .ref (h + 14)]))) H := hP; rw [mW_s0] at h9; exact h9
    refine lv_aload_n hx hb dX4_depth_17 rfl (lv_at hl 0 rfl) ?_
    refine wd_get (ci := 5) (v := .int (nI 0)) (C := RX4) (T := TX4) (N := 21) hx hb hts iwX4 hown hK.1 hP (mW_0) rfl 0 (by decide) (hts _ (tg_tail _ tw_423)) (fun _ h9 => h9) rfl dX4_depth_18 ?_
    refine lv_if_le (tgt := 28) hx hb dX4_depth_21 (by decide) (fun c_21 => ?_) (fun c_21 => ?_)
    · have c_21 := (nI_leI (a := 0) (b := 0) (by omega) (by omega)).mp (show nI 0 ≤ nI 0 from c_21)
      refine lv_aload_n hx hb dX4_depth_28 rfl (lv_at hl 0 rfl) ?_
      refine wd_get (ci := 5) (v := .ref (h + 14)) (C := RX4) (T := TX4) (N := 21) hx hb hts iwX4 hown hK.1 hP (mW_0) rfl 20 (by decide) (hts _ (tg_tail _ tw_443)) (fun _ h9 => h9) rfl dX4_depth_29 ?_
      refine lv_iload_n hx hb dX4_depth_32 rfl (lv_at hl 1 rfl) ?_
      refine wd_ildN hx hb hK.1 hP 0 (k := k) (mW_14) rfl (by omega) (by decide) dX4_depth_33 ?_
      exact W.iret (v := rD k) hx hb hr (fun t9 ht hW => ⟨⟨_, (mW g w h (nI 0) nt np mo gb wr (nI N) su pr ob ki fi se ta nd ii sp qu rF rT rD), rfl, Or.inl ⟨c_6, by rw [hcl], rfl⟩, cB_of ht hP⟩, hS.F ht⟩) hS.2.2 dX4_depth_34
    · have c_21 := mt (nI_leI (a := 0) (b := 0) (by omega) (by omega)).mpr (show ¬ (nI 0 ≤ nI 0) from c_21)
      exact absurd c_21 (by decide)

