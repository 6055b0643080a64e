/-! THE REFERENCE: its public methods without a loop -/
theorem ti_0 : (nI 0).toInt = 0 := by decide
set_option maxHeartbeats 4000000 in
set_option maxRecDepth 100000 in
theorem c_X4_made (l : Launch) (g : gX) (s0 : Nat) (w : wd_M) (h : Nat) (hs0 : s0 ≤ h) (rf nt mo gb wr nr : Int32) (su pr ob ki fi se ta nd ii sp qu rF rT rD : Nat → Int32) (P : Nat) (hP4 : P ≤ 40) (kind a b : Int32) : Met l yX4_made (Cond.code yX4_made cX4_made 4 (some .int) :: tg) ({ frames := 0, cells := 0, slots := 0, locals := 0 }) (cP g s0 (mW g w h rf nt (nI P) mo gb wr nr su pr ob ki fi se ta nd ii sp qu rF rT rD) [.ref h, .int (kind), .int (a), .int (b)]) (cI g s0 (fun r w' => ((P = 40 ∧ r = -4 ∧ w' = (mW g w h rf nt (nI P) mo gb wr nr su pr ob ki fi se ta nd ii sp qu rF rT rD)) ∨ (P < 40 ∧ r = nI (P + 1) ∧ w' = (mW g w h rf nt (nI (P + 1)) mo gb wr nr su pr ob (upd ki (P + 1) kind) (upd fi (P + 1) a) (upd se (P + 1) b) ta nd ii sp qu rF rT rD))))) 0 0 (cA s0) := by
  refine Met.ofW (cc := cX4_made) (maxL := 4) (ret := some .int) (by decide) rfl ?_
  intro p e s m args below meth c s₁ B9 hml hv
  obtain ⟨rfl, h0s, hP, hK⟩ := hv
  have hx := B9.exec
  have hb := B9.bytes
  have hr := B9.returns
  have hts := atoms_spec (ws := Cond.code yX4_made cX4_made 4 (some .int) :: tg) B9.pre
  have hown : s.vm.findClass RX4 = some m.cls := findClass_of_methodNamed B9.named
  have hlocks := B9.notSynchronized
  have hS : gS s0 s.heap s.heap [] := va_S.rf
  have hRm : 0 ≤ (headSpec (Cond.code yX4_made cX4_made 4 (some .int) :: tg) ({ frames := 0, cells := 0, slots := 0, locals := 0 })).room.frames ∧ 0 ≤ (headSpec (Cond.code yX4_made cX4_made 4 (some .int) :: tg) ({ frames := 0, cells := 0, slots := 0, locals := 0 })).room.locals := ⟨Nat.le_refl _, Nat.le_refl _⟩
  have hcs : 0 + 0 ≤ (headSpec (Cond.code yX4_made cX4_made 4 (some .int) :: tg) ({ frames := 0, cells := 0, slots := 0, locals := 0 })).room.cells ∧ 0 + 0 ≤ (headSpec (Cond.code yX4_made cX4_made 4 (some .int) :: tg) ({ frames := 0, cells := 0, slots := 0, locals := 0 })).room.slots := ⟨Nat.zero_le _, Nat.zero_le _⟩
  have hl := lv_entry ([.ref h, .int (kind), .int (a), .int (b)]) (n := 4) (Nat.le_of_ble_eq_true rfl)
  rw [lg_entry_eq]
  generalize (lg_sl ([.ref h, .int (kind), .int (a), .int (b)]) ++ List.replicate (4 - (lg_sl ([.ref h, .int (kind), .int (a), .int (b)])).length) Slot.unset).toArray = ls at hl ⊢
  have hl : lv_has ls 4 [(0, .ref h), (1, .int (kind)), (2, .int (a)), (3, .int (b))] := hl
  refine lv_aload_n hx hb dX4_made_0 rfl (lv_at hl 0 rfl) ?_
  refine wd_get (ci := 5) (v := .int (nI P)) (C := RX4) (T := TX4) (N := 21) hx hb hts iwX4 hown hK.1 hP (mW_0) rfl 8 (by decide) (hts _ (tg_tail _ tw_431)) (fun _ h9 => h9) rfl dX4_made_1 ?_
  refine lv_bipush (v := nI 40) hx hb dX4_made_4 (by decide) ?_
  refine lv_icmp_ne (tgt := 12) hx hb dX4_made_6 (by decide) (fun c_6 => ?_) (fun c_6 => ?_)
  · have c_6 := mt (nI_eq (a := P) (b := 40) (by omega) (by omega)).mpr c_6
    refine lv_aload_n hx hb dX4_made_12 rfl (lv_at hl 0 rfl) ?_
    refine lv_dup hx hb dX4_made_13 rfl ?_
    refine wd_get (ci := 5) (v := .int (nI P)) (C := RX4) (T := TX4) (N := 21) hx hb hts iwX4 hown hK.1 hP (mW_0) rfl 8 (by decide) (hts _ (tg_tail _ tw_431)) (fun _ h9 => h9) rfl dX4_made_14 ?_
    refine lv_iconst (v := nI 1) hx hb dX4_made_17 (by decide) ?_
    refine lv_iadd hx hb dX4_made_18 ?_
    refine wd_ti (x' := nI (P + 1)) (nI_add _ _) ?_
    refine wd_put (ci := 5) (v := .int (nI (P + 1))) (ty := .int) (C := RX4) (T := TX4) (N := 21) hx hb hts iwX4 tyX4 tyX4_ok nmX4 hown hK.1 hP hS (by omega) (mW_0) rfl 8 (by decide) (hts _ (tg_tail _ tw_431)) (fun _ h9 => h9) rfl (by decide +kernel) (rfl) (rfl) (Nat.le_of_ble_eq_true rfl) dX4_made_19 (fun H locs hP hS hz => ?_)
    have hP : gP g (mW g w h rf nt (nI (P + 1)) mo gb wr nr su pr ob ki fi se ta nd ii sp qu rF rT rD) H := by have h9 : gP g (wd_up (mW g w h rf nt (nI P) mo gb wr nr su pr ob ki fi se ta nd ii sp qu rF rT rD) h (.inr (5, [.int (rf), .ref (h + 1), .ref (h + 2), .ref (h + 3), .int (nt), .ref (h + 4), .ref (h + 5), .ref (h + 6), .int (nI (P + 1)), .int (mo), .ref (h + 7), .ref (h + 8), .ref (h + 9), .int (gb), .ref (h + 10), .ref (h + 11), .int (wr), .int (nr), .ref (h + 12), .ref (h + 13), .ref (h + 14)]))) H := hP; rw [mW_s0] at h9; exact h9
    refine lv_aload_n hx hb dX4_made_22 rfl (lv_at hl 0 rfl) ?_
    refine wd_get (ci := 5) (v := .ref (h + 4)) (C := RX4) (T := TX4) (N := 21) hx hb hts iwX4 hown hK.1 hP (mW_0) rfl 5 (by decide) (hts _ (tg_tail _ tw_428)) (fun _ h9 => h9) rfl dX4_made_23 ?_
    refine lv_aload_n hx hb dX4_made_26 rfl (lv_at hl 0 rfl) ?_
    refine wd_get (ci := 5) (v := .int (nI (P + 1))) (C := RX4) (T := TX4) (N := 21) hx hb hts iwX4 hown hK.1 hP (mW_0) rfl 8 (by decide) (hts _ (tg_tail _ tw_431)) (fun _ h9 => h9) rfl dX4_made_27 ?_
    refine lv_iload_n hx hb dX4_made_30 rfl (lv_at hl 1 rfl) ?_
    refine wd_istN hx hb hK.1 hP hS (by omega) 0 (k := (P + 1)) (mW_4) rfl (by omega) (by decide) dX4_made_31 (fun H locs hP hS hz => ?_)
    have hP : gP g (mW g w h rf nt (nI (P + 1)) mo gb wr nr su pr ob (upd (ki) (P + 1) (kind)) fi se ta nd ii sp qu rF rT rD) H := by have h9 : gP g (wd_up (mW g w h rf nt (nI (P + 1)) mo gb wr nr su pr ob ki fi se ta nd ii sp qu rF rT rD) (h + 4) (wd_iA (g.2 0) 41 (upd (ki) (P + 1) (kind)))) H := hP; rw [mW_s4] at h9; exact h9
    refine lv_aload_n hx hb dX4_made_32 rfl (lv_at hl 0 rfl) ?_
    refine wd_get (ci := 5) (v := .ref (h + 5)) (C := RX4) (T := TX4) (N := 21) hx hb hts iwX4 hown hK.1 hP (mW_0) rfl 6 (by decide) (hts _ (tg_tail _ tw_429)) (fun _ h9 => h9) rfl dX4_made_33 ?_
    refine lv_aload_n hx hb dX4_made_36 rfl (lv_at hl 0 rfl) ?_
    refine wd_get (ci := 5) (v := .int (nI (P + 1))) (C := RX4) (T := TX4) (N := 21) hx hb hts iwX4 hown hK.1 hP (mW_0) rfl 8 (by decide) (hts _ (tg_tail _ tw_431)) (fun _ h9 => h9) rfl dX4_made_37 ?_
    refine lv_iload_n hx hb dX4_made_40 rfl (lv_at hl 2 rfl) ?_
    refine wd_istN hx hb hK.1 hP hS (by omega) 0 (k := (P + 1)) (mW_5) rfl (by omega) (by decide) dX4_made_41 (fun H locs hP hS hz => ?_)
    have hP : gP g (mW g w h rf nt (nI (P + 1)) mo gb wr nr su pr ob (upd (ki) (P + 1) (kind)) (upd (fi) (P + 1) (a)) se ta nd ii sp qu rF rT rD) H := by have h9 : gP g (wd_up (mW g w h rf nt (nI (P + 1)) mo gb wr nr su pr ob (upd (ki) (P + 1) (kind)) fi se ta nd ii sp qu rF rT rD) (h + 5) (wd_iA (g.2 0) 41 (upd (fi) (P + 1) (a)))) H := hP; rw [mW_s5] at h9; exact h9
    refine lv_aload_n hx hb dX4_made_42 rfl (lv_at hl 0 rfl) ?_
    refine wd_get (ci := 5) (v := .ref (h + 6)) (C := RX4) (T := TX4) (N := 21) hx hb hts iwX4 hown hK.1 hP (mW_0) rfl 7 (by decide) (hts _ (tg_tail _ tw_430)) (fun _ h9 => h9) rfl dX4_made_43 ?_
    refine lv_aload_n hx hb dX4_made_46 rfl (lv_at hl 0 rfl) ?_
    refine wd_get (ci := 5) (v := .int (nI (P + 1))) (C := RX4) (T := TX4) (N := 21) hx hb hts iwX4 hown hK.1 hP (mW_0) rfl 8 (by decide) (hts _ (tg_tail _ tw_431)) (fun _ h9 => h9) rfl dX4_made_47 ?_
    refine lv_iload_n hx hb dX4_made_50 rfl (lv_at hl 3 rfl) ?_
    refine wd_istN hx hb hK.1 hP hS (by omega) 0 (k := (P + 1)) (mW_6) rfl (by omega) (by decide) dX4_made_51 (fun H locs hP hS hz => ?_)
    have hP : gP g (mW g w h rf nt (nI (P + 1)) mo gb wr nr su pr ob (upd (ki) (P + 1) (kind)) (upd (fi) (P + 1) (a)) (upd (se) (P + 1) (b)) ta nd ii sp qu rF rT rD) H := by have h9 : gP g (wd_up (mW g w h rf nt (nI (P + 1)) mo gb wr nr su pr ob (upd (ki) (P + 1) (kind)) (upd (fi) (P + 1) (a)) se ta nd ii sp qu rF rT rD) (h + 6) (wd_iA (g.2 0) 41 (upd (se) (P + 1) (b)))) H := hP; rw [mW_s6] at h9; exact h9
    refine lv_aload_n hx hb dX4_made_52 rfl (lv_at hl 0 rfl) ?_
    refine wd_get (ci := 5) (v := .int (nI (P + 1))) (C := RX4) (T := TX4) (N := 21) hx hb hts iwX4 hown hK.1 hP (mW_0) rfl 8 (by decide) (hts _ (tg_tail _ tw_431)) (fun _ h9 => h9) rfl dX4_made_53 ?_
    exact W.iret (v := nI (P + 1)) hx hb hr (fun t9 ht hW => ⟨⟨_, (mW g w h rf nt (nI (P + 1)) mo gb wr nr su pr ob (upd (ki) (P + 1) (kind)) (upd (fi) (P + 1) (a)) (upd (se) (P + 1) (b)) ta nd ii sp qu rF rT rD), rfl, Or.inr ⟨by omega, rfl, rfl⟩, cB_of ht hP⟩, hS.F ht⟩) hS.2.2 dX4_made_56
  · have c_6 := (nI_eq (a := P) (b := 40) (by omega) (by omega)).mp c_6
    refine lv_bipush (v := (-4)) hx hb dX4_made_9 (by decide) ?_
    exact W.iret (v := (-4)) hx hb hr (fun t9 ht hW => ⟨⟨_, (mW g w h rf nt (nI P) mo gb wr nr su pr ob ki fi se ta nd ii sp qu rF rT rD), rfl, Or.inl ⟨c_6, rfl, rfl⟩, cB_of ht hP⟩, hS.F ht⟩) hS.2.2 dX4_made_11

set_option maxHeartbeats 4000000 in
set_option maxRecDepth 100000 in
theorem c_X4_path (l : Launch) (g : gX) (s0 : Nat) (w : wd_M) (h : Nat) (hs0 : s0 ≤ h) (rf nt mo gb wr nr : Int32) (su pr ob ki fi se ta nd ii sp qu rF rT rD : Nat → Int32) (P : Nat) (hP4 : P ≤ 40) (kind a b : Int32) : Met l yX4_path (Cond.code yX4_path cX4_path 4 (some .int) :: tg) ({ frames := 2, cells := 0, slots := 0, locals := 46 }) (cP g s0 (mW g w h rf nt (nI P) mo gb wr nr su pr ob ki fi se ta nd ii sp qu rF rT rD) [.ref h, .int (kind), .int (a), .int (b)]) (cI g s0 (fun r w' => (((nI 1 ≤ kind ∧ kind ≤ nI 6) ∧ ¬ (nI 1 ≤ a ∧ a ≤ nI P) ∨ (nI 2 ≤ kind ∧ kind ≤ nI 3) ∧ ¬ (nI 1 ≤ b ∧ b ≤ nI P)) ∧ r = -1 ∧ w' = (mW g w h (nI 0) nt (nI P) mo gb wr nr su pr ob ki fi se ta nd ii sp qu rF rT rD)) ∨ (¬ ((nI 1 ≤ kind ∧ kind ≤ nI 6) ∧ ¬ (nI 1 ≤ a ∧ a ≤ nI P) ∨ (nI 2 ≤ kind ∧ kind ≤ nI 3) ∧ ¬ (nI 1 ≤ b ∧ b ≤ nI P)) ∧ (¬ (nI 0 ≤ kind ∧ kind ≤ nI 6) ∨ (kind = 0 ∧ ¬ (nI 0 ≤ a ∧ a ≤ nI 15))) ∧ r = -2 ∧ w' = (mW g w h (nI 0) nt (nI P) mo gb wr nr su pr ob ki fi se ta nd ii sp qu rF rT rD)) ∨ (¬ ((nI 1 ≤ kind ∧ kind ≤ nI 6) ∧ ¬ (nI 1 ≤ a ∧ a ≤ nI P) ∨ (nI 2 ≤ kind ∧ kind ≤ nI 3) ∧ ¬ (nI 1 ≤ b ∧ b ≤ nI P)) ∧ ¬ (¬ (nI 0 ≤ kind ∧ kind ≤ nI 6) ∨ (kind = 0 ∧ ¬ (nI 0 ≤ a ∧ a ≤ nI 15))) ∧ ((P = 40 ∧ r = -4 ∧ w' = (mW g w h (nI 0) nt (nI P) mo gb wr nr su pr ob ki fi se ta nd ii sp qu rF rT rD)) ∨ (P < 40 ∧ r = nI (P + 1) ∧ w' = (mW g w h (nI 0) nt (nI (P + 1)) mo gb wr nr su pr ob (upd ki (P + 1) kind) (upd fi (P + 1) a) (upd se (P + 1) b) ta nd ii sp qu rF rT rD)))))) 0 0 (cA s0) := by
  refine Met.ofW (cc := cX4_path) (maxL := 4) (ret := some .int) (by decide) rfl ?_
  intro p e s m args below meth c s₁ B9 hml hv
  obtain ⟨rfl, h0s, hP, hK⟩ := hv
  have hx := B9.exec
  have hb := B9.bytes
  have hr := B9.returns
  have hts := atoms_spec (ws := Cond.code yX4_path cX4_path 4 (some .int) :: tg) B9.pre
  have hown : s.vm.findClass RX4 = some m.cls := findClass_of_methodNamed B9.named
  have hlocks := B9.notSynchronized
  have hS : gS s0 s.heap s.heap [] := va_S.rf
  have hRm : 2 ≤ (headSpec (Cond.code yX4_path cX4_path 4 (some .int) :: tg) ({ frames := 2, cells := 0, slots := 0, locals := 46 })).room.frames ∧ 46 ≤ (headSpec (Cond.code yX4_path cX4_path 4 (some .int) :: tg) ({ frames := 2, cells := 0, slots := 0, locals := 46 })).room.locals := ⟨Nat.le_refl _, Nat.le_refl _⟩
  have hcs : 0 + 0 ≤ (headSpec (Cond.code yX4_path cX4_path 4 (some .int) :: tg) ({ frames := 2, cells := 0, slots := 0, locals := 46 })).room.cells ∧ 0 + 0 ≤ (headSpec (Cond.code yX4_path cX4_path 4 (some .int) :: tg) ({ frames := 2, cells := 0, slots := 0, locals := 46 })).room.slots := ⟨Nat.zero_le _, Nat.zero_le _⟩
  have hl := lv_entry ([.ref h, .int (kind), .int (a), .int (b)]) (n := 4) (Nat.le_of_ble_eq_true rfl)
  rw [lg_entry_eq]
  generalize (lg_sl ([.ref h, .int (kind), .int (a), .int (b)]) ++ List.replicate (4 - (lg_sl ([.ref h, .int (kind), .int (a), .int (b)])).length) Slot.unset).toArray = ls at hl ⊢
  have hl : lv_has ls 4 [(0, .ref h), (1, .int (kind)), (2, .int (a)), (3, .int (b))] := hl
  refine lv_aload_n hx hb dX4_path_0 rfl (lv_at hl 0 rfl) ?_
  refine lv_iconst (v := nI 0) hx hb dX4_path_1 (by decide) ?_
  refine wd_put (ci := 5) (v := .int (nI 0)) (ty := .int) (C := RX4) (T := TX4) (N := 21) hx hb hts iwX4 tyX4 tyX4_ok nmX4 hown hK.1 hP hS (by omega) (mW_0) rfl 0 (by decide) (hts _ (tg_tail _ tw_423)) (fun _ h9 => h9) rfl (by decide +kernel) (rfl) (rfl) (Nat.le_of_ble_eq_true rfl) dX4_path_2 (fun H locs hP hS hz => ?_)
  have hP : gP g (mW g w h (nI 0) nt (nI P) mo gb wr nr su pr ob ki fi se ta nd ii sp qu rF rT rD) H := by have h9 : gP g (wd_up (mW g w h rf nt (nI P) mo gb wr nr su pr ob ki fi se ta nd ii sp qu rF rT rD) h (.inr (5, [.int (nI 0), .ref (h + 1), .ref (h + 2), .ref (h + 3), .int (nt), .ref (h + 4), .ref (h + 5), .ref (h + 6), .int (nI P), .int (mo), .ref (h + 7), .ref (h + 8), .ref (h + 9), .int (gb), .ref (h + 10), .ref (h + 11), .int (wr), .int (nr), .ref (h + 12), .ref (h + 13), .ref (h + 14)]))) H := hP; rw [mW_s0] at h9; exact h9
  refine lv_iload_n hx hb dX4_path_5 rfl (lv_at hl 1 rfl) ?_
  refine lv_iconst (v := nI 1) hx hb dX4_path_6 (by decide) ?_
  refine lv_bipush (v := nI 6) hx hb dX4_path_7 (by decide) ?_
  refine cr_Si (As := [.int (kind), .int (nI 1), .int (nI 6)]) (rest := []) ⟨hx, hb, hml, hown, hts⟩ (c_X4_isBetween l g s0 (mW g w h (nI 0) nt (nI P) mo gb wr nr su pr ob ki fi se ta nd ii sp qu rF rT rD) (kind) (nI 1) (nI 6)) (cw_S 3 hts tg_tail tw_499 tw_500 tw_4 tw_501 rfl rfl (by decide +kernel) ⟨Nat.le_trans (by decide) hRm.1, Nat.le_trans (by decide) hRm.2⟩) hK hP h0s hS rfl hl.1 rfl (Nat.le_of_ble_eq_true rfl) dX4_path_9 hcs (fun r9 w9 H locs hw hP hS => ?_)
  obtain ⟨e_r9, hw9⟩ := hw
  rw [hw9] at hP
  subst e_r9
  refine lv_if_eq (tgt := 23) hx hb dX4_path_12 (by decide) (fun c_12 => ?_) (fun c_12 => ?_)
  · have c_12 := zB_0.mp c_12
    refine lv_iload_n hx hb dX4_path_23 rfl (lv_at hl 1 rfl) ?_
    refine lv_iconst (v := nI 2) hx hb dX4_path_24 (by decide) ?_
    refine lv_iconst (v := nI 3) hx hb dX4_path_25 (by decide) ?_
    refine cr_Si (As := [.int (kind), .int (nI 2), .int (nI 3)]) (rest := []) ⟨hx, hb, hml, hown, hts⟩ (c_X4_isBetween l g s0 (mW g w h (nI 0) nt (nI P) mo gb wr nr su pr ob ki fi se ta nd ii sp qu rF rT rD) (kind) (nI 2) (nI 3)) (cw_S 3 hts tg_tail tw_499 tw_500 tw_4 tw_501 rfl rfl (by decide +kernel) ⟨Nat.le_trans (by decide) hRm.1, Nat.le_trans (by decide) hRm.2⟩) hK hP h0s hS rfl hl.1 rfl (Nat.le_of_ble_eq_true rfl) dX4_path_26 hcs (fun r9 w9 H locs hw hP hS => ?_)
    obtain ⟨e_r9, hw9⟩ := hw
    rw [hw9] at hP
    subst e_r9
    refine lv_if_eq (tgt := 42) hx hb dX4_path_29 (by decide) (fun c_29 => ?_) (fun c_29 => ?_)
    · have c_29 := zB_0.mp c_29
      refine lv_iload_n hx hb dX4_path_42 rfl (lv_at hl 1 rfl) ?_
      refine lv_iconst (v := nI 0) hx hb dX4_path_43 (by decide) ?_
      refine lv_bipush (v := nI 6) hx hb dX4_path_44 (by decide) ?_
      refine cr_Si (As := [.int (kind), .int (nI 0), .int (nI 6)]) (rest := []) ⟨hx, hb, hml, hown, hts⟩ (c_X4_isBetween l g s0 (mW g w h (nI 0) nt (nI P) mo gb wr nr su pr ob ki fi se ta nd ii sp qu rF rT rD) (kind) (nI 0) (nI 6)) (cw_S 3 hts tg_tail tw_499 tw_500 tw_4 tw_501 rfl rfl (by decide +kernel) ⟨Nat.le_trans (by decide) hRm.1, Nat.le_trans (by decide) hRm.2⟩) hK hP h0s hS rfl hl.1 rfl (Nat.le_of_ble_eq_true rfl) dX4_path_46 hcs (fun r9 w9 H locs hw hP hS => ?_)
      obtain ⟨e_r9, hw9⟩ := hw
      rw [hw9] at hP
      subst e_r9
      refine lv_if_eq (tgt := 66) hx hb dX4_path_49 (by decide) (fun c_49 => ?_) (fun c_49 => ?_)
      · have c_49 := zB_0.mp c_49
        refine lv_bipush (v := (-2)) hx hb dX4_path_66 (by decide) ?_
        exact W.iret (v := (-2)) hx hb hr (fun t9 ht hW => ⟨⟨_, (mW g w h (nI 0) nt (nI P) mo gb wr nr su pr ob ki fi se ta nd ii sp qu rF rT rD), rfl, Or.inr (Or.inl ⟨by clear hts hP hK hx hb hr hown hS hRm hcs hl hlocks; grind, by clear hts hP hK hx hb hr hown hS hRm hcs hl hlocks; grind, rfl, rfl⟩), cB_of ht hP⟩, hS.F ht⟩) hS.2.2 dX4_path_68
      · have c_49 := zB_1.mp c_49
        refine lv_iload_n hx hb dX4_path_52 rfl (lv_at hl 1 rfl) ?_
        refine lv_if_ne (tgt := 69) hx hb dX4_path_53 (by decide) (fun c_53 => ?_) (fun c_53 => ?_)
        · refine lv_aload_n hx hb dX4_path_69 rfl (lv_at hl 0 rfl) ?_
          refine lv_iload_n hx hb dX4_path_70 rfl (lv_at hl 1 rfl) ?_
          refine lv_iload_n hx hb dX4_path_71 rfl (lv_at hl 2 rfl) ?_
          refine lv_iload_n hx hb dX4_path_72 rfl (lv_at hl 3 rfl) ?_
          refine cr_Vi (As := [.int (kind), .int (a), .int (b)]) (rest := []) ⟨hx, hb, hml, hown, hts⟩ (c_X4_made l g s0  w h hs0 (nI 0) nt mo gb wr nr su pr ob ki fi se ta nd ii sp qu rF rT rD P hP4 (kind) (a) (b)) (cw_V 3 hts tg_tail tw_510 tw_512 tp_22 tw_4 tw_513 rfl rfl (by decide +kernel) ⟨Nat.le_trans (by decide) hRm.1, Nat.le_trans (by decide) hRm.2⟩) hK hP h0s hS (mW_0) rfl rfl rfl hl.1 rfl (Nat.le_of_ble_eq_true rfl) dX4_path_73 hcs (fun r9 w9 H locs hw hP hS => ?_)
          exact W.iret (v := r9) hx hb hr (fun t9 ht hW => ⟨⟨_, w9, rfl, Or.inr (Or.inr ⟨by clear hts hP hK hx hb hr hown hS hRm hcs hl hlocks; grind, by clear hts hP hK hx hb hr hown hS hRm hcs hl hlocks; grind, hw⟩), cB_of ht hP⟩, hS.F ht⟩) hS.2.2 dX4_path_76
        · refine lv_iload_n hx hb dX4_path_56 rfl (lv_at hl 2 rfl) ?_
          refine lv_iconst (v := nI 0) hx hb dX4_path_57 (by decide) ?_
          refine lv_bipush (v := nI 15) hx hb dX4_path_58 (by decide) ?_
          refine cr_Si (As := [.int (a), .int (nI 0), .int (nI 15)]) (rest := []) ⟨hx, hb, hml, hown, hts⟩ (c_X4_isBetween l g s0 (mW g w h (nI 0) nt (nI P) mo gb wr nr su pr ob ki fi se ta nd ii sp qu rF rT rD) (a) (nI 0) (nI 15)) (cw_S 3 hts tg_tail tw_499 tw_500 tw_4 tw_501 rfl rfl (by decide +kernel) ⟨Nat.le_trans (by decide) hRm.1, Nat.le_trans (by decide) hRm.2⟩) hK hP h0s hS rfl hl.1 rfl (Nat.le_of_ble_eq_true rfl) dX4_path_60 hcs (fun r9 w9 H locs hw hP hS => ?_)
          obtain ⟨e_r9, hw9⟩ := hw
          rw [hw9] at hP
          subst e_r9
          refine lv_if_ne (tgt := 69) hx hb dX4_path_63 (by decide) (fun c_63 => ?_) (fun c_63 => ?_)
          · have c_63 := zB_1.mp c_63
            refine lv_aload_n hx hb dX4_path_69 rfl (lv_at hl 0 rfl) ?_
            refine lv_iload_n hx hb dX4_path_70 rfl (lv_at hl 1 rfl) ?_
            refine lv_iload_n hx hb dX4_path_71 rfl (lv_at hl 2 rfl) ?_
            refine lv_iload_n hx hb dX4_path_72 rfl (lv_at hl 3 rfl) ?_
            refine cr_Vi (As := [.int (kind), .int (a), .int (b)]) (rest := []) ⟨hx, hb, hml, hown, hts⟩ (c_X4_made l g s0  w h hs0 (nI 0) nt mo gb wr nr su pr ob ki fi se ta nd ii sp qu rF rT rD P hP4 (kind) (a) (b)) (cw_V 3 hts tg_tail tw_510 tw_512 tp_22 tw_4 tw_513 rfl rfl (by decide +kernel) ⟨Nat.le_trans (by decide) hRm.1, Nat.le_trans (by decide) hRm.2⟩) hK hP h0s hS (mW_0) rfl rfl rfl hl.1 rfl (Nat.le_of_ble_eq_true rfl) dX4_path_73 hcs (fun r9 w9 H locs hw hP hS => ?_)
            exact W.iret (v := r9) hx hb hr (fun t9 ht hW => ⟨⟨_, w9, rfl, Or.inr (Or.inr ⟨by clear hts hP hK hx hb hr hown hS hRm hcs hl hlocks; grind, by clear hts hP hK hx hb hr hown hS hRm hcs hl hlocks; grind, hw⟩), cB_of ht hP⟩, hS.F ht⟩) hS.2.2 dX4_path_76
          · have c_63 := zB_0.mp c_63
            refine lv_bipush (v := (-2)) hx hb dX4_path_66 (by decide) ?_
            exact W.iret (v := (-2)) hx hb hr (fun t9 ht hW => ⟨⟨_, (mW g w h (nI 0) nt (nI P) mo gb wr nr su pr ob ki fi se ta nd ii sp qu rF rT rD), rfl, Or.inr (Or.inl ⟨by clear hts hP hK hx hb hr hown hS hRm hcs hl hlocks; grind, by clear hts hP hK hx hb hr hown hS hRm hcs hl hlocks; grind, rfl, rfl⟩), cB_of ht hP⟩, hS.F ht⟩) hS.2.2 dX4_path_68
    · have c_29 := zB_1.mp c_29
      refine lv_aload_n hx hb dX4_path_32 rfl (lv_at hl 0 rfl) ?_
      refine lv_iload_n hx hb dX4_path_33 rfl (lv_at hl 3 rfl) ?_
      refine cr_Vi (As := [.int (b)]) (rest := []) ⟨hx, hb, hml, hown, hts⟩ (c_X4_isPath l g s0  w h hs0 (nI 0) nt (nI P) mo gb wr nr su pr ob ki fi se ta nd ii sp qu rF rT rD b) (cw_V 1 hts tg_tail tw_506 tw_508 tp_21 tw_4 tw_509 rfl rfl (by decide +kernel) ⟨Nat.le_trans (by decide) hRm.1, Nat.le_trans (by decide) hRm.2⟩) hK hP h0s hS (mW_0) rfl rfl rfl hl.1 rfl (Nat.le_of_ble_eq_true rfl) dX4_path_34 hcs (fun r9 w9 H locs hw hP hS => ?_)
      obtain ⟨e_r9, hw9⟩ := hw
      rw [hw9] at hP
      subst e_r9
      refine lv_if_ne (tgt := 42) hx hb dX4_path_37 (by decide) (fun c_37 => ?_) (fun c_37 => ?_)
      · have c_37 := zB_1.mp c_37
        refine lv_iload_n hx hb dX4_path_42 rfl (lv_at hl 1 rfl) ?_
        refine lv_iconst (v := nI 0) hx hb dX4_path_43 (by decide) ?_
        refine lv_bipush (v := nI 6) hx hb dX4_path_44 (by decide) ?_
        refine cr_Si (As := [.int (kind), .int (nI 0), .int (nI 6)]) (rest := []) ⟨hx, hb, hml, hown, hts⟩ (c_X4_isBetween l g s0 (mW g w h (nI 0) nt (nI P) mo gb wr nr su pr ob ki fi se ta nd ii sp qu rF rT rD) (kind) (nI 0) (nI 6)) (cw_S 3 hts tg_tail tw_499 tw_500 tw_4 tw_501 rfl rfl (by decide +kernel) ⟨Nat.le_trans (by decide) hRm.1, Nat.le_trans (by decide) hRm.2⟩) hK hP h0s hS rfl hl.1 rfl (Nat.le_of_ble_eq_true rfl) dX4_path_46 hcs (fun r9 w9 H locs hw hP hS => ?_)
        obtain ⟨e_r9, hw9⟩ := hw
        rw [hw9] at hP
        subst e_r9
        refine lv_if_eq (tgt := 66) hx hb dX4_path_49 (by decide) (fun c_49 => ?_) (fun c_49 => ?_)
        · have c_49 := zB_0.mp c_49
          refine lv_bipush (v := (-2)) hx hb dX4_path_66 (by decide) ?_
          exact W.iret (v := (-2)) hx hb hr (fun t9 ht hW => ⟨⟨_, (mW g w h (nI 0) nt (nI P) mo gb wr nr su pr ob ki fi se ta nd ii sp qu rF rT rD), rfl, Or.inr (Or.inl ⟨by clear hts hP hK hx hb hr hown hS hRm hcs hl hlocks; grind, by clear hts hP hK hx hb hr hown hS hRm hcs hl hlocks; grind, rfl, rfl⟩), cB_of ht hP⟩, hS.F ht⟩) hS.2.2 dX4_path_68
        · have c_49 := zB_1.mp c_49
          refine lv_iload_n hx hb dX4_path_52 rfl (lv_at hl 1 rfl) ?_
          refine lv_if_ne (tgt := 69) hx hb dX4_path_53 (by decide) (fun c_53 => ?_) (fun c_53 => ?_)
          · refine lv_aload_n hx hb dX4_path_69 rfl (lv_at hl 0 rfl) ?_
            refine lv_iload_n hx hb dX4_path_70 rfl (lv_at hl 1 rfl) ?_
            refine lv_iload_n hx hb dX4_path_71 rfl (lv_at hl 2 rfl) ?_
            refine lv_iload_n hx hb dX4_path_72 rfl (lv_at hl 3 rfl) ?_
            refine cr_Vi (As := [.int (kind), .int (a), .int (b)]) (rest := []) ⟨hx, hb, hml, hown, hts⟩ (c_X4_made l g s0  w h hs0 (nI 0) nt mo gb wr nr su pr ob ki fi se ta nd ii sp qu rF rT rD P hP4 (kind) (a) (b)) (cw_V 3 hts tg_tail tw_510 tw_512 tp_22 tw_4 tw_513 rfl rfl (by decide +kernel) ⟨Nat.le_trans (by decide) hRm.1, Nat.le_trans (by decide) hRm.2⟩) hK hP h0s hS (mW_0) rfl rfl rfl hl.1 rfl (Nat.le_of_ble_eq_true rfl) dX4_path_73 hcs (fun r9 w9 H locs hw hP hS => ?_)
            exact W.iret (v := r9) hx hb hr (fun t9 ht hW => ⟨⟨_, w9, rfl, Or.inr (Or.inr ⟨by clear hts hP hK hx hb hr hown hS hRm hcs hl hlocks; grind, by clear hts hP hK hx hb hr hown hS hRm hcs hl hlocks; grind, hw⟩), cB_of ht hP⟩, hS.F ht⟩) hS.2.2 dX4_path_76
          · refine lv_iload_n hx hb dX4_path_56 rfl (lv_at hl 2 rfl) ?_
            refine lv_iconst (v := nI 0) hx hb dX4_path_57 (by decide) ?_
            refine lv_bipush (v := nI 15) hx hb dX4_path_58 (by decide) ?_
            refine cr_Si (As := [.int (a), .int (nI 0), .int (nI 15)]) (rest := []) ⟨hx, hb, hml, hown, hts⟩ (c_X4_isBetween l g s0 (mW g w h (nI 0) nt (nI P) mo gb wr nr su pr ob ki fi se ta nd ii sp qu rF rT rD) (a) (nI 0) (nI 15)) (cw_S 3 hts tg_tail tw_499 tw_500 tw_4 tw_501 rfl rfl (by decide +kernel) ⟨Nat.le_trans (by decide) hRm.1, Nat.le_trans (by decide) hRm.2⟩) hK hP h0s hS rfl hl.1 rfl (Nat.le_of_ble_eq_true rfl) dX4_path_60 hcs (fun r9 w9 H locs hw hP hS => ?_)
            obtain ⟨e_r9, hw9⟩ := hw
            rw [hw9] at hP
            subst e_r9
            refine lv_if_ne (tgt := 69) hx hb dX4_path_63 (by decide) (fun c_63 => ?_) (fun c_63 => ?_)
            · have c_63 := zB_1.mp c_63
              refine lv_aload_n hx hb dX4_path_69 rfl (lv_at hl 0 rfl) ?_
              refine lv_iload_n hx hb dX4_path_70 rfl (lv_at hl 1 rfl) ?_
              refine lv_iload_n hx hb dX4_path_71 rfl (lv_at hl 2 rfl) ?_
              refine lv_iload_n hx hb dX4_path_72 rfl (lv_at hl 3 rfl) ?_
              refine cr_Vi (As := [.int (kind), .int (a), .int (b)]) (rest := []) ⟨hx, hb, hml, hown, hts⟩ (c_X4_made l g s0  w h hs0 (nI 0) nt mo gb wr nr su pr ob ki fi se ta nd ii sp qu rF rT rD P hP4 (kind) (a) (b)) (cw_V 3 hts tg_tail tw_510 tw_512 tp_22 tw_4 tw_513 rfl rfl (by decide +kernel) ⟨Nat.le_trans (by decide) hRm.1, Nat.le_trans (by decide) hRm.2⟩) hK hP h0s hS (mW_0) rfl rfl rfl hl.1 rfl (Nat.le_of_ble_eq_true rfl) dX4_path_73 hcs (fun r9 w9 H locs hw hP hS => ?_)
              exact W.iret (v := r9) hx hb hr (fun t9 ht hW => ⟨⟨_, w9, rfl, Or.inr (Or.inr ⟨by clear hts hP hK hx hb hr hown hS hRm hcs hl hlocks; grind, by clear hts hP hK hx hb hr hown hS hRm hcs hl hlocks; grind, hw⟩), cB_of ht hP⟩, hS.F ht⟩) hS.2.2 dX4_path_76
            · have c_63 := zB_0.mp c_63
              refine lv_bipush (v := (-2)) hx hb dX4_path_66 (by decide) ?_
              exact W.iret (v := (-2)) hx hb hr (fun t9 ht hW => ⟨⟨_, (mW g w h (nI 0) nt (nI P) mo gb wr nr su pr ob ki fi se ta nd ii sp qu rF rT rD), rfl, Or.inr (Or.inl ⟨by clear hts hP hK hx hb hr hown hS hRm hcs hl hlocks; grind, by clear hts hP hK hx hb hr hown hS hRm hcs hl hlocks; grind, rfl, rfl⟩), cB_of ht hP⟩, hS.F ht⟩) hS.2.2 dX4_path_68
      · have c_37 := zB_0.mp c_37
        refine lv_iconst (v := (-1)) hx hb dX4_path_40 (by decide) ?_
        exact W.iret (v := (-1)) hx hb hr (fun t9 ht hW => ⟨⟨_, (mW g w h (nI 0) nt (nI P) mo gb wr nr su pr ob ki fi se ta nd ii sp qu rF rT rD), rfl, Or.inl ⟨by clear hts hP hK hx hb hr hown hS hRm hcs hl hlocks; grind, rfl, rfl⟩, cB_of ht hP⟩, hS.F ht⟩) hS.2.2 dX4_path_41
  · have c_12 := zB_1.mp c_12
    refine lv_aload_n hx hb dX4_path_15 rfl (lv_at hl 0 rfl) ?_
    refine lv_iload_n hx hb dX4_path_16 rfl (lv_at hl 2 rfl) ?_
    refine cr_Vi (As := [.int (a)]) (rest := []) ⟨hx, hb, hml, hown, hts⟩ (c_X4_isPath l g s0  w h hs0 (nI 0) nt (nI P) mo gb wr nr su pr ob ki fi se ta nd ii sp qu rF rT rD a) (cw_V 1 hts tg_tail tw_506 tw_508 tp_21 tw_4 tw_509 rfl rfl (by decide +kernel) ⟨Nat.le_trans (by decide) hRm.1, Nat.le_trans (by decide) hRm.2⟩) hK hP h0s hS (mW_0) rfl rfl rfl hl.1 rfl (Nat.le_of_ble_eq_true rfl) dX4_path_17 hcs (fun r9 w9 H locs hw hP hS => ?_)
    obtain ⟨e_r9, hw9⟩ := hw
    rw [hw9] at hP
    subst e_r9
    refine lv_if_eq (tgt := 40) hx hb dX4_path_20 (by decide) (fun c_20 => ?_) (fun c_20 => ?_)
    · have c_20 := zB_0.mp c_20
      refine lv_iconst (v := (-1)) hx hb dX4_path_40 (by decide) ?_
      exact W.iret (v := (-1)) hx hb hr (fun t9 ht hW => ⟨⟨_, (mW g w h (nI 0) nt (nI P) mo gb wr nr su pr ob ki fi se ta nd ii sp qu rF rT rD), rfl, Or.inl ⟨by clear hts hP hK hx hb hr hown hS hRm hcs hl hlocks; grind, rfl, rfl⟩, cB_of ht hP⟩, hS.F ht⟩) hS.2.2 dX4_path_41
    · have c_20 := zB_1.mp c_20
      refine lv_iload_n hx hb dX4_path_23 rfl (lv_at hl 1 rfl) ?_
      refine lv_iconst (v := nI 2) hx hb dX4_path_24 (by decide) ?_
      refine lv_iconst (v := nI 3) hx hb dX4_path_25 (by decide) ?_
      refine cr_Si (As := [.int (kind), .int (nI 2), .int (nI 3)]) (rest := []) ⟨hx, hb, hml, hown, hts⟩ (c_X4_isBetween l g s0 (mW g w h (nI 0) nt (nI P) mo gb wr nr su pr ob ki fi se ta nd ii sp qu rF rT rD) (kind) (nI 2) (nI 3)) (cw_S 3 hts tg_tail tw_499 tw_500 tw_4 tw_501 rfl rfl (by decide +kernel) ⟨Nat.le_trans (by decide) hRm.1, Nat.le_trans (by decide) hRm.2⟩) hK hP h0s hS rfl hl.1 rfl (Nat.le_of_ble_eq_true rfl) dX4_path_26 hcs (fun r9 w9 H locs hw hP hS => ?_)
      obtain ⟨e_r9, hw9⟩ := hw
      rw [hw9] at hP
      subst e_r9
      refine lv_if_eq (tgt := 42) hx hb dX4_path_29 (by decide) (fun c_29 => ?_) (fun c_29 => ?_)
      · have c_29 := zB_0.mp c_29
        refine lv_iload_n hx hb dX4_path_42 rfl (lv_at hl 1 rfl) ?_
        refine lv_iconst (v := nI 0) hx hb dX4_path_43 (by decide) ?_
        refine lv_bipush (v := nI 6) hx hb dX4_path_44 (by decide) ?_
        refine cr_Si (As := [.int (kind), .int (nI 0), .int (nI 6)]) (rest := []) ⟨hx, hb, hml, hown, hts⟩ (c_X4_isBetween l g s0 (mW g w h (nI 0) nt (nI P) mo gb wr nr su pr ob ki fi se ta nd ii sp qu rF rT rD) (kind) (nI 0) (nI 6)) (cw_S 3 hts tg_tail tw_499 tw_500 tw_4 tw_501 rfl rfl (by decide +kernel) ⟨Nat.le_trans (by decide) hRm.1, Nat.le_trans (by decide) hRm.2⟩) hK hP h0s hS rfl hl.1 rfl (Nat.le_of_ble_eq_true rfl) dX4_path_46 hcs (fun r9 w9 H locs hw hP hS => ?_)
        obtain ⟨e_r9, hw9⟩ := hw
        rw [hw9] at hP
        subst e_r9
        refine lv_if_eq (tgt := 66) hx hb dX4_path_49 (by decide) (fun c_49 => ?_) (fun c_49 => ?_)
        · have c_49 := zB_0.mp c_49
          refine lv_bipush (v := (-2)) hx hb dX4_path_66 (by decide) ?_
          exact W.iret (v := (-2)) hx hb hr (fun t9 ht hW => ⟨⟨_, (mW g w h (nI 0) nt (nI P) mo gb wr nr su pr ob ki fi se ta nd ii sp qu rF rT rD), rfl, Or.inr (Or.inl ⟨by clear hts hP hK hx hb hr hown hS hRm hcs hl hlocks; grind, by clear hts hP hK hx hb hr hown hS hRm hcs hl hlocks; grind, rfl, rfl⟩), cB_of ht hP⟩, hS.F ht⟩) hS.2.2 dX4_path_68
        · have c_49 := zB_1.mp c_49
          refine lv_iload_n hx hb dX4_path_52 rfl (lv_at hl 1 rfl) ?_
          refine lv_if_ne (tgt := 69) hx hb dX4_path_53 (by decide) (fun c_53 => ?_) (fun c_53 => ?_)
          · refine lv_aload_n hx hb dX4_path_69 rfl (lv_at hl 0 rfl) ?_
            refine lv_iload_n hx hb dX4_path_70 rfl (lv_at hl 1 rfl) ?_
            refine lv_iload_n hx hb dX4_path_71 rfl (lv_at hl 2 rfl) ?_
            refine lv_iload_n hx hb dX4_path_72 rfl (lv_at hl 3 rfl) ?_
            refine cr_Vi (As := [.int (kind), .int (a), .int (b)]) (rest := []) ⟨hx, hb, hml, hown, hts⟩ (c_X4_made l g s0  w h hs0 (nI 0) nt mo gb wr nr su pr ob ki fi se ta nd ii sp qu rF rT rD P hP4 (kind) (a) (b)) (cw_V 3 hts tg_tail tw_510 tw_512 tp_22 tw_4 tw_513 rfl rfl (by decide +kernel) ⟨Nat.le_trans (by decide) hRm.1, Nat.le_trans (by decide) hRm.2⟩) hK hP h0s hS (mW_0) rfl rfl rfl hl.1 rfl (Nat.le_of_ble_eq_true rfl) dX4_path_73 hcs (fun r9 w9 H locs hw hP hS => ?_)
            exact W.iret (v := r9) hx hb hr (fun t9 ht hW => ⟨⟨_, w9, rfl, Or.inr (Or.inr ⟨by clear hts hP hK hx hb hr hown hS hRm hcs hl hlocks; grind, by clear hts hP hK hx hb hr hown hS hRm hcs hl hlocks; grind, hw⟩), cB_of ht hP⟩, hS.F ht⟩) hS.2.2 dX4_path_76
          · refine lv_iload_n hx hb dX4_path_56 rfl (lv_at hl 2 rfl) ?_
            refine lv_iconst (v := nI 0) hx hb dX4_path_57 (by decide) ?_
            refine lv_bipush (v := nI 15) hx hb dX4_path_58 (by decide) ?_
            refine cr_Si (As := [.int (a), .int (nI 0), .int (nI 15)]) (rest := []) ⟨hx, hb, hml, hown, hts⟩ (c_X4_isBetween l g s0 (mW g w h (nI 0) nt (nI P) mo gb wr nr su pr ob ki fi se ta nd ii sp qu rF rT rD) (a) (nI 0) (nI 15)) (cw_S 3 hts tg_tail tw_499 tw_500 tw_4 tw_501 rfl rfl (by decide +kernel) ⟨Nat.le_trans (by decide) hRm.1, Nat.le_trans (by decide) hRm.2⟩) hK hP h0s hS rfl hl.1 rfl (Nat.le_of_ble_eq_true rfl) dX4_path_60 hcs (fun r9 w9 H locs hw hP hS => ?_)
            obtain ⟨e_r9, hw9⟩ := hw
            rw [hw9] at hP
            subst e_r9
            refine lv_if_ne (tgt := 69) hx hb dX4_path_63 (by decide) (fun c_63 => ?_) (fun c_63 => ?_)
            · have c_63 := zB_1.mp c_63
              refine lv_aload_n hx hb dX4_path_69 rfl (lv_at hl 0 rfl) ?_
              refine lv_iload_n hx hb dX4_path_70 rfl (lv_at hl 1 rfl) ?_
              refine lv_iload_n hx hb dX4_path_71 rfl (lv_at hl 2 rfl) ?_
              refine lv_iload_n hx hb dX4_path_72 rfl (lv_at hl 3 rfl) ?_
              refine cr_Vi (As := [.int (kind), .int (a), .int (b)]) (rest := []) ⟨hx, hb, hml, hown, hts⟩ (c_X4_made l g s0  w h hs0 (nI 0) nt mo gb wr nr su pr ob ki fi se ta nd ii sp qu rF rT rD P hP4 (kind) (a) (b)) (cw_V 3 hts tg_tail tw_510 tw_512 tp_22 tw_4 tw_513 rfl rfl (by decide +kernel) ⟨Nat.le_trans (by decide) hRm.1, Nat.le_trans (by decide) hRm.2⟩) hK hP h0s hS (mW_0) rfl rfl rfl hl.1 rfl (Nat.le_of_ble_eq_true rfl) dX4_path_73 hcs (fun r9 w9 H locs hw hP hS => ?_)
              exact W.iret (v := r9) hx hb hr (fun t9 ht hW => ⟨⟨_, w9, rfl, Or.inr (Or.inr ⟨by clear hts hP hK hx hb hr hown hS hRm hcs hl hlocks; grind, by clear hts hP hK hx hb hr hown hS hRm hcs hl hlocks; grind, hw⟩), cB_of ht hP⟩, hS.F ht⟩) hS.2.2 dX4_path_76
            · have c_63 := zB_0.mp c_63
              refine lv_bipush (v := (-2)) hx hb dX4_path_66 (by decide) ?_
              exact W.iret (v := (-2)) hx hb hr (fun t9 ht hW => ⟨⟨_, (mW g w h (nI 0) nt (nI P) mo gb wr nr su pr ob ki fi se ta nd ii sp qu rF rT rD), rfl, Or.inr (Or.inl ⟨by clear hts hP hK hx hb hr hown hS hRm hcs hl hlocks; grind, by clear hts hP hK hx hb hr hown hS hRm hcs hl hlocks; grind, rfl, rfl⟩), cB_of ht hP⟩, hS.F ht⟩) hS.2.2 dX4_path_68
      · have c_29 := zB_1.mp c_29
        refine lv_aload_n hx hb dX4_path_32 rfl (lv_at hl 0 rfl) ?_
        refine lv_iload_n hx hb dX4_path_33 rfl (lv_at hl 3 rfl) ?_
        refine cr_Vi (As := [.int (b)]) (rest := []) ⟨hx, hb, hml, hown, hts⟩ (c_X4_isPath l g s0  w h hs0 (nI 0) nt (nI P) mo gb wr nr su pr ob ki fi se ta nd ii sp qu rF rT rD b) (cw_V 1 hts tg_tail tw_506 tw_508 tp_21 tw_4 tw_509 rfl rfl (by decide +kernel) ⟨Nat.le_trans (by decide) hRm.1, Nat.le_trans (by decide) hRm.2⟩) hK hP h0s hS (mW_0) rfl rfl rfl hl.1 rfl (Nat.le_of_ble_eq_true rfl) dX4_path_34 hcs (fun r9 w9 H locs hw hP hS => ?_)
        obtain ⟨e_r9, hw9⟩ := hw
        rw [hw9] at hP
        subst e_r9
        refine lv_if_ne (tgt := 42) hx hb dX4_path_37 (by decide) (fun c_37 => ?_) (fun c_37 => ?_)
        · have c_37 := zB_1.mp c_37
          refine lv_iload_n hx hb dX4_path_42 rfl (lv_at hl 1 rfl) ?_
          refine lv_iconst (v := nI 0) hx hb dX4_path_43 (by decide) ?_
          refine lv_bipush (v := nI 6) hx hb dX4_path_44 (by decide) ?_
          refine cr_Si (As := [.int (kind), .int (nI 0), .int (nI 6)]) (rest := []) ⟨hx, hb, hml, hown, hts⟩ (c_X4_isBetween l g s0 (mW g w h (nI 0) nt (nI P) mo gb wr nr su pr ob ki fi se ta nd ii sp qu rF rT rD) (kind) (nI 0) (nI 6)) (cw_S 3 hts tg_tail tw_499 tw_500 tw_4 tw_501 rfl rfl (by decide +kernel) ⟨Nat.le_trans (by decide) hRm.1, Nat.le_trans (by decide) hRm.2⟩) hK hP h0s hS rfl hl.1 rfl (Nat.le_of_ble_eq_true rfl) dX4_path_46 hcs (fun r9 w9 H locs hw hP hS => ?_)
          obtain ⟨e_r9, hw9⟩ := hw
          rw [hw9] at hP
          subst e_r9
          refine lv_if_eq (tgt := 66) hx hb dX4_path_49 (by decide) (fun c_49 => ?_) (fun c_49 => ?_)
          · have c_49 := zB_0.mp c_49
            refine lv_bipush (v := (-2)) hx hb dX4_path_66 (by decide) ?_
            exact W.iret (v := (-2)) hx hb hr (fun t9 ht hW => ⟨⟨_, (mW g w h (nI 0) nt (nI P) mo gb wr nr su pr ob ki fi se ta nd ii sp qu rF rT rD), rfl, Or.inr (Or.inl ⟨by clear hts hP hK hx hb hr hown hS hRm hcs hl hlocks; grind, by clear hts hP hK hx hb hr hown hS hRm hcs hl hlocks; grind, rfl, rfl⟩), cB_of ht hP⟩, hS.F ht⟩) hS.2.2 dX4_path_68
          · have c_49 := zB_1.mp c_49
            refine lv_iload_n hx hb dX4_path_52 rfl (lv_at hl 1 rfl) ?_
            refine lv_if_ne (tgt := 69) hx hb dX4_path_53 (by decide) (fun c_53 => ?_) (fun c_53 => ?_)
            · refine lv_aload_n hx hb dX4_path_69 rfl (lv_at hl 0 rfl) ?_
              refine lv_iload_n hx hb dX4_path_70 rfl (lv_at hl 1 rfl) ?_
              refine lv_iload_n hx hb dX4_path_71 rfl (lv_at hl 2 rfl) ?_
              refine lv_iload_n hx hb dX4_path_72 rfl (lv_at hl 3 rfl) ?_
              refine cr_Vi (As := [.int (kind), .int (a), .int (b)]) (rest := []) ⟨hx, hb, hml, hown, hts⟩ (c_X4_made l g s0  w h hs0 (nI 0) nt mo gb wr nr su pr ob ki fi se ta nd ii sp qu rF rT rD P hP4 (kind) (a) (b)) (cw_V 3 hts tg_tail tw_510 tw_512 tp_22 tw_4 tw_513 rfl rfl (by decide +kernel) ⟨Nat.le_trans (by decide) hRm.1, Nat.le_trans (by decide) hRm.2⟩) hK hP h0s hS (mW_0) rfl rfl rfl hl.1 rfl (Nat.le_of_ble_eq_true rfl) dX4_path_73 hcs (fun r9 w9 H locs hw hP hS => ?_)
              exact W.iret (v := r9) hx hb hr (fun t9 ht hW => ⟨⟨_, w9, rfl, Or.inr (Or.inr ⟨by clear hts hP hK hx hb hr hown hS hRm hcs hl hlocks; grind, by clear hts hP hK hx hb hr hown hS hRm hcs hl hlocks; grind, hw⟩), cB_of ht hP⟩, hS.F ht⟩) hS.2.2 dX4_path_76
            · refine lv_iload_n hx hb dX4_path_56 rfl (lv_at hl 2 rfl) ?_
              refine lv_iconst (v := nI 0) hx hb dX4_path_57 (by decide) ?_
              refine lv_bipush (v := nI 15) hx hb dX4_path_58 (by decide) ?_
              refine cr_Si (As := [.int (a), .int (nI 0), .int (nI 15)]) (rest := []) ⟨hx, hb, hml, hown, hts⟩ (c_X4_isBetween l g s0 (mW g w h (nI 0) nt (nI P) mo gb wr nr su pr ob ki fi se ta nd ii sp qu rF rT rD) (a) (nI 0) (nI 15)) (cw_S 3 hts tg_tail tw_499 tw_500 tw_4 tw_501 rfl rfl (by decide +kernel) ⟨Nat.le_trans (by decide) hRm.1, Nat.le_trans (by decide) hRm.2⟩) hK hP h0s hS rfl hl.1 rfl (Nat.le_of_ble_eq_true rfl) dX4_path_60 hcs (fun r9 w9 H locs hw hP hS => ?_)
              obtain ⟨e_r9, hw9⟩ := hw
              rw [hw9] at hP
              subst e_r9
              refine lv_if_ne (tgt := 69) hx hb dX4_path_63 (by decide) (fun c_63 => ?_) (fun c_63 => ?_)
              · have c_63 := zB_1.mp c_63
                refine lv_aload_n hx hb dX4_path_69 rfl (lv_at hl 0 rfl) ?_
                refine lv_iload_n hx hb dX4_path_70 rfl (lv_at hl 1 rfl) ?_
                refine lv_iload_n hx hb dX4_path_71 rfl (lv_at hl 2 rfl) ?_
                refine lv_iload_n hx hb dX4_path_72 rfl (lv_at hl 3 rfl) ?_
                refine cr_Vi (As := [.int (kind), .int (a), .int (b)]) (rest := []) ⟨hx, hb, hml, hown, hts⟩ (c_X4_made l g s0  w h hs0 (nI 0) nt mo gb wr nr su pr ob ki fi se ta nd ii sp qu rF rT rD P hP4 (kind) (a) (b)) (cw_V 3 hts tg_tail tw_510 tw_512 tp_22 tw_4 tw_513 rfl rfl (by decide +kernel) ⟨Nat.le_trans (by decide) hRm.1, Nat.le_trans (by decide) hRm.2⟩) hK hP h0s hS (mW_0) rfl rfl rfl hl.1 rfl (Nat.le_of_ble_eq_true rfl) dX4_path_73 hcs (fun r9 w9 H locs hw hP hS => ?_)
                exact W.iret (v := r9) hx hb hr (fun t9 ht hW => ⟨⟨_, w9, rfl, Or.inr (Or.inr ⟨by clear hts hP hK hx hb hr hown hS hRm hcs hl hlocks; grind, by clear hts hP hK hx hb hr hown hS hRm hcs hl hlocks; grind, hw⟩), cB_of ht hP⟩, hS.F ht⟩) hS.2.2 dX4_path_76
              · have c_63 := zB_0.mp c_63
                refine lv_bipush (v := (-2)) hx hb dX4_path_66 (by decide) ?_
                exact W.iret (v := (-2)) hx hb hr (fun t9 ht hW => ⟨⟨_, (mW g w h (nI 0) nt (nI P) mo gb wr nr su pr ob ki fi se ta nd ii sp qu rF rT rD), rfl, Or.inr (Or.inl ⟨by clear hts hP hK hx hb hr hown hS hRm hcs hl hlocks; grind, by clear hts hP hK hx hb hr hown hS hRm hcs hl hlocks; grind, rfl, rfl⟩), cB_of ht hP⟩, hS.F ht⟩) hS.2.2 dX4_path_68
        · have c_37 := zB_0.mp c_37
          refine lv_iconst (v := (-1)) hx hb dX4_path_40 (by decide) ?_
          exact W.iret (v := (-1)) hx hb hr (fun t9 ht hW => ⟨⟨_, (mW g w h (nI 0) nt (nI P) mo gb wr nr su pr ob ki fi se ta nd ii sp qu rF rT rD), rfl, Or.inl ⟨by clear hts hP hK hx hb hr hown hS hRm hcs hl hlocks; grind, rfl, rfl⟩, cB_of ht hP⟩, hS.F ht⟩) hS.2.2 dX4_path_41

set_option maxHeartbeats 4000000 in
set_option maxRecDepth 100000 in
theorem c_X4_inverse (l : Launch) (g : gX) (s0 : Nat) (w : wd_M) (h : Nat) (hs0 : s0 ≤ h) (rf nt mo gb wr nr : Int32) (su pr ob ki fi se ta nd ii sp qu rF rT rD : Nat → Int32) (P : Nat) (hP4 : P ≤ 40) (a : Int32) : Met l yX4_inverse (Cond.code yX4_inverse cX4_inverse 2 (some .int) :: tg) ({ frames := 2, cells := 0, slots := 0, locals := 46 }) (cP g s0 (mW g w h rf nt (nI P) mo gb wr nr su pr ob ki fi se ta nd ii sp qu rF rT rD) [.ref h, .int (a)]) (cI g s0 (fun r w' => (¬ (nI 1 ≤ a ∧ a ≤ nI P) ∧ r = -1 ∧ w' = (mW g w h (nI 0) nt (nI P) mo gb wr nr su pr ob ki fi se ta nd ii sp qu rF rT rD)) ∨ ((nI 1 ≤ a ∧ a ≤ nI P) ∧ ((P = 40 ∧ r = -4 ∧ w' = (mW g w h (nI 0) nt (nI P) mo gb wr nr su pr ob ki fi se ta nd ii sp qu rF rT rD)) ∨ (P < 40 ∧ r = nI (P + 1) ∧ w' = (mW g w h (nI 0) nt (nI (P + 1)) mo gb wr nr su pr ob (upd ki (P + 1) (nI 1)) (upd fi (P + 1) a) (upd se (P + 1) (nI 0)) ta nd ii sp qu rF rT rD)))))) 0 0 (cA s0) := by
  refine Met.ofW (cc := cX4_inverse) (maxL := 2) (ret := some .int) (by decide) rfl ?_
  intro p e s m args below meth c s₁ B9 hml hv
  obtain ⟨rfl, h0s, hP, hK⟩ := hv
  have hx := B9.exec
  have hb := B9.bytes
  have hr := B9.returns
  have hts := atoms_spec (ws := Cond.code yX4_inverse cX4_inverse 2 (some .int) :: tg) B9.pre
  have hown : s.vm.findClass RX4 = some m.cls := findClass_of_methodNamed B9.named
  have hlocks := B9.notSynchronized
  have hS : gS s0 s.heap s.heap [] := va_S.rf
  have hRm : 2 ≤ (headSpec (Cond.code yX4_inverse cX4_inverse 2 (some .int) :: tg) ({ frames := 2, cells := 0, slots := 0, locals := 46 })).room.frames ∧ 46 ≤ (headSpec (Cond.code yX4_inverse cX4_inverse 2 (some .int) :: tg) ({ frames := 2, cells := 0, slots := 0, locals := 46 })).room.locals := ⟨Nat.le_refl _, Nat.le_refl _⟩
  have hcs : 0 + 0 ≤ (headSpec (Cond.code yX4_inverse cX4_inverse 2 (some .int) :: tg) ({ frames := 2, cells := 0, slots := 0, locals := 46 })).room.cells ∧ 0 + 0 ≤ (headSpec (Cond.code yX4_inverse cX4_inverse 2 (some .int) :: tg) ({ frames := 2, cells := 0, slots := 0, locals := 46 })).room.slots := ⟨Nat.zero_le _, Nat.zero_le _⟩
  have hl := lv_entry ([.ref h, .int (a)]) (n := 2) (Nat.le_of_ble_eq_true rfl)
  rw [lg_entry_eq]
  generalize (lg_sl ([.ref h, .int (a)]) ++ List.replicate (2 - (lg_sl ([.ref h, .int (a)])).length) Slot.unset).toArray = ls at hl ⊢
  have hl : lv_has ls 2 [(0, .ref h), (1, .int (a))] := hl
  refine lv_aload_n hx hb dX4_inverse_0 rfl (lv_at hl 0 rfl) ?_
  refine lv_iconst (v := nI 0) hx hb dX4_inverse_1 (by decide) ?_
  refine wd_put (ci := 5) (v := .int (nI 0)) (ty := .int) (C := RX4) (T := TX4) (N := 21) hx hb hts iwX4 tyX4 tyX4_ok nmX4 hown hK.1 hP hS (by omega) (mW_0) rfl 0 (by decide) (hts _ (tg_tail _ tw_423)) (fun _ h9 => h9) rfl (by decide +kernel) (rfl) (rfl) (Nat.le_of_ble_eq_true rfl) dX4_inverse_2 (fun H locs hP hS hz => ?_)
  have hP : gP g (mW g w h (nI 0) nt (nI P) mo gb wr nr su pr ob ki fi se ta nd ii sp qu rF rT rD) H := by have h9 : gP g (wd_up (mW g w h rf nt (nI P) mo gb wr nr su pr ob ki fi se ta nd ii sp qu rF rT rD) h (.inr (5, [.int (nI 0), .ref (h + 1), .ref (h + 2), .ref (h + 3), .int (nt), .ref (h + 4), .ref (h + 5), .ref (h + 6), .int (nI P), .int (mo), .ref (h + 7), .ref (h + 8), .ref (h + 9), .int (gb), .ref (h + 10), .ref (h + 11), .int (wr), .int (nr), .ref (h + 12), .ref (h + 13), .ref (h + 14)]))) H := hP; rw [mW_s0] at h9; exact h9
  refine lv_aload_n hx hb dX4_inverse_5 rfl (lv_at hl 0 rfl) ?_
  refine lv_iload_n hx hb dX4_inverse_6 rfl (lv_at hl 1 rfl) ?_
  refine cr_Vi (As := [.int (a)]) (rest := []) ⟨hx, hb, hml, hown, hts⟩ (c_X4_isPath l g s0  w h hs0 (nI 0) nt (nI P) mo gb wr nr su pr ob ki fi se ta nd ii sp qu rF rT rD a) (cw_V 1 hts tg_tail tw_506 tw_508 tp_21 tw_4 tw_509 rfl rfl (by decide +kernel) ⟨Nat.le_trans (by decide) hRm.1, Nat.le_trans (by decide) hRm.2⟩) hK hP h0s hS (mW_0) rfl rfl rfl hl.1 rfl (Nat.le_of_ble_eq_true rfl) dX4_inverse_7 hcs (fun r9 w9 H locs hw hP hS => ?_)
  obtain ⟨e_r9, hw9⟩ := hw
  rw [hw9] at hP
  subst e_r9
  refine lv_if_eq (tgt := 23) hx hb dX4_inverse_10 (by decide) (fun c_10 => ?_) (fun c_10 => ?_)
  · have c_10 := zB_0.mp c_10
    refine lv_iconst (v := (-1)) hx hb dX4_inverse_23 (by decide) ?_
    exact W.iret (v := (-1)) hx hb hr (fun t9 ht hW => ⟨⟨_, (mW g w h (nI 0) nt (nI P) mo gb wr nr su pr ob ki fi se ta nd ii sp qu rF rT rD), rfl, Or.inl ⟨c_10, rfl, rfl⟩, cB_of ht hP⟩, hS.F ht⟩) hS.2.2 dX4_inverse_24
  · have c_10 := zB_1.mp c_10
    refine lv_aload_n hx hb dX4_inverse_13 rfl (lv_at hl 0 rfl) ?_
    refine lv_iconst (v := nI 1) hx hb dX4_inverse_14 (by decide) ?_
    refine lv_iload_n hx hb dX4_inverse_15 rfl (lv_at hl 1 rfl) ?_
    refine lv_iconst (v := nI 0) hx hb dX4_inverse_16 (by decide) ?_
    refine cr_Vi (As := [.int (nI 1), .int (a), .int (nI 0)]) (rest := []) ⟨hx, hb, hml, hown, hts⟩ (c_X4_made l g s0  w h hs0 (nI 0) nt mo gb wr nr su pr ob ki fi se ta nd ii sp qu rF rT rD P hP4 (nI 1) (a) (nI 0)) (cw_V 3 hts tg_tail tw_510 tw_512 tp_22 tw_4 tw_513 rfl rfl (by decide +kernel) ⟨Nat.le_trans (by decide) hRm.1, Nat.le_trans (by decide) hRm.2⟩) hK hP h0s hS (mW_0) rfl rfl rfl hl.1 rfl (Nat.le_of_ble_eq_true rfl) dX4_inverse_17 hcs (fun r9 w9 H locs hw hP hS => ?_)
    refine lv_goto (tgt := 24) hx hb dX4_inverse_20 (by decide) ?_
    exact W.iret (v := r9) hx hb hr (fun t9 ht hW => ⟨⟨_, w9, rfl, Or.inr ⟨c_10, hw⟩, cB_of ht hP⟩, hS.F ht⟩) hS.2.2 dX4_inverse_24

set_option maxHeartbeats 4000000 in
set_option maxRecDepth 100000 in
theorem c_X4_negated (l : Launch) (g : gX) (s0 : Nat) (w : wd_M) (h : Nat) (hs0 : s0 ≤ h) (rf nt mo gb wr nr : Int32) (su pr ob ki fi se ta nd ii sp qu rF rT rD : Nat → Int32) (P : Nat) (hP4 : P ≤ 40) (a b : Int32) : Met l yX4_negated (Cond.code yX4_negated cX4_negated 3 (some .int) :: tg) ({ frames := 2, cells := 0, slots := 0, locals := 46 }) (cP g s0 (mW g w h rf nt (nI P) mo gb wr nr su pr ob ki fi se ta nd ii sp qu rF rT rD) [.ref h, .int (a), .int (b)]) (cI g s0 (fun r w' => (¬ ((nI 0 ≤ a ∧ a ≤ nI 15) ∧ (-1 ≤ b ∧ b ≤ nI 15)) ∧ r = -2 ∧ w' = (mW g w h (nI 0) nt (nI P) mo gb wr nr su pr ob ki fi se ta nd ii sp qu rF rT rD)) ∨ (((nI 0 ≤ a ∧ a ≤ nI 15) ∧ (-1 ≤ b ∧ b ≤ nI 15)) ∧ ((P = 40 ∧ r = -4 ∧ w' = (mW g w h (nI 0) nt (nI P) mo gb wr nr su pr ob ki fi se ta nd ii sp qu rF rT rD)) ∨ (P < 40 ∧ r = nI (P + 1) ∧ w' = (mW g w h (nI 0) nt (nI (P + 1)) mo gb wr nr su pr ob (upd ki (P + 1) (nI 7)) (upd fi (P + 1) a) (upd se (P + 1) b) ta nd ii sp qu rF rT rD)))))) 0 0 (cA s0) := by
  refine Met.ofW (cc := cX4_negated) (maxL := 3) (ret := some .int) (by decide) rfl ?_
  intro p e s m args below meth c s₁ B9 hml hv
  obtain ⟨rfl, h0s, hP, hK⟩ := hv
  have hx := B9.exec
  have hb := B9.bytes
  have hr := B9.returns
  have hts := atoms_spec (ws := Cond.code yX4_negated cX4_negated 3 (some .int) :: tg) B9.pre
  have hown : s.vm.findClass RX4 = some m.cls := findClass_of_methodNamed B9.named
  have hlocks := B9.notSynchronized
  have hS : gS s0 s.heap s.heap [] := va_S.rf
  have hRm : 2 ≤ (headSpec (Cond.code yX4_negated cX4_negated 3 (some .int) :: tg) ({ frames := 2, cells := 0, slots := 0, locals := 46 })).room.frames ∧ 46 ≤ (headSpec (Cond.code yX4_negated cX4_negated 3 (some .int) :: tg) ({ frames := 2, cells := 0, slots := 0, locals := 46 })).room.locals := ⟨Nat.le_refl _, Nat.le_refl _⟩
  have hcs : 0 + 0 ≤ (headSpec (Cond.code yX4_negated cX4_negated 3 (some .int) :: tg) ({ frames := 2, cells := 0, slots := 0, locals := 46 })).room.cells ∧ 0 + 0 ≤ (headSpec (Cond.code yX4_negated cX4_negated 3 (some .int) :: tg) ({ frames := 2, cells := 0, slots := 0, locals := 46 })).room.slots := ⟨Nat.zero_le _, Nat.zero_le _⟩
  have hl := lv_entry ([.ref h, .int (a), .int (b)]) (n := 3) (Nat.le_of_ble_eq_true rfl)
  rw [lg_entry_eq]
  generalize (lg_sl ([.ref h, .int (a), .int (b)]) ++ List.replicate (3 - (lg_sl ([.ref h, .int (a), .int (b)])).length) Slot.unset).toArray = ls at hl ⊢
  have hl : lv_has ls 3 [(0, .ref h), (1, .int (a)), (2, .int (b))] := hl
  refine lv_aload_n hx hb dX4_negated_0 rfl (lv_at hl 0 rfl) ?_
  refine lv_iconst (v := nI 0) hx hb dX4_negated_1 (by decide) ?_
  refine wd_put (ci := 5) (v := .int (nI 0)) (ty := .int) (C := RX4) (T := TX4) (N := 21) hx hb hts iwX4 tyX4 tyX4_ok nmX4 hown hK.1 hP hS (by omega) (mW_0) rfl 0 (by decide) (hts _ (tg_tail _ tw_423)) (fun _ h9 => h9) rfl (by decide +kernel) (rfl) (rfl) (Nat.le_of_ble_eq_true rfl) dX4_negated_2 (fun H locs hP hS hz => ?_)
  have hP : gP g (mW g w h (nI 0) nt (nI P) mo gb wr nr su pr ob ki fi se ta nd ii sp qu rF rT rD) H := by have h9 : gP g (wd_up (mW g w h rf nt (nI P) mo gb wr nr su pr ob ki fi se ta nd ii sp qu rF rT rD) h (.inr (5, [.int (nI 0), .ref (h + 1), .ref (h + 2), .ref (h + 3), .int (nt), .ref (h + 4), .ref (h + 5), .ref (h + 6), .int (nI P), .int (mo), .ref (h + 7), .ref (h + 8), .ref (h + 9), .int (gb), .ref (h + 10), .ref (h + 11), .int (wr), .int (nr), .ref (h + 12), .ref (h + 13), .ref (h + 14)]))) H := hP; rw [mW_s0] at h9; exact h9
  refine lv_iload_n hx hb dX4_negated_5 rfl (lv_at hl 1 rfl) ?_
  refine lv_iconst (v := nI 0) hx hb dX4_negated_6 (by decide) ?_
  refine lv_bipush (v := nI 15) hx hb dX4_negated_7 (by decide) ?_
  refine cr_Si (As := [.int (a), .int (nI 0), .int (nI 15)]) (rest := []) ⟨hx, hb, hml, hown, hts⟩ (c_X4_isBetween l g s0 (mW g w h (nI 0) nt (nI P) mo gb wr nr su pr ob ki fi se ta nd ii sp qu rF rT rD) (a) (nI 0) (nI 15)) (cw_S 3 hts tg_tail tw_499 tw_500 tw_4 tw_501 rfl rfl (by decide +kernel) ⟨Nat.le_trans (by decide) hRm.1, Nat.le_trans (by decide) hRm.2⟩) hK hP h0s hS rfl hl.1 rfl (Nat.le_of_ble_eq_true rfl) dX4_negated_9 hcs (fun r9 w9 H locs hw hP hS => ?_)
  obtain ⟨e_r9, hw9⟩ := hw
  rw [hw9] at hP
  subst e_r9
  refine lv_if_eq (tgt := 25) hx hb dX4_negated_12 (by decide) (fun c_12 => ?_) (fun c_12 => ?_)
  · have c_12 := zB_0.mp c_12
    refine lv_bipush (v := (-2)) hx hb dX4_negated_25 (by decide) ?_
    exact W.iret (v := (-2)) hx hb hr (fun t9 ht hW => ⟨⟨_, (mW g w h (nI 0) nt (nI P) mo gb wr nr su pr ob ki fi se ta nd ii sp qu rF rT rD), rfl, Or.inl ⟨by clear hts hP hK hx hb hr hown hS hRm hcs hl hlocks; grind, rfl, rfl⟩, cB_of ht hP⟩, hS.F ht⟩) hS.2.2 dX4_negated_27
  · have c_12 := zB_1.mp c_12
    refine lv_iload_n hx hb dX4_negated_15 rfl (lv_at hl 2 rfl) ?_
    refine lv_iconst (v := (-1)) hx hb dX4_negated_16 (by decide) ?_
    refine lv_bipush (v := nI 15) hx hb dX4_negated_17 (by decide) ?_
    refine cr_Si (As := [.int (b), .int ((-1)), .int (nI 15)]) (rest := []) ⟨hx, hb, hml, hown, hts⟩ (c_X4_isBetween l g s0 (mW g w h (nI 0) nt (nI P) mo gb wr nr su pr ob ki fi se ta nd ii sp qu rF rT rD) (b) (-1) (nI 15)) (cw_S 3 hts tg_tail tw_499 tw_500 tw_4 tw_501 rfl rfl (by decide +kernel) ⟨Nat.le_trans (by decide) hRm.1, Nat.le_trans (by decide) hRm.2⟩) hK hP h0s hS rfl hl.1 rfl (Nat.le_of_ble_eq_true rfl) dX4_negated_19 hcs (fun r9 w9 H locs hw hP hS => ?_)
    obtain ⟨e_r9, hw9⟩ := hw
    rw [hw9] at hP
    subst e_r9
    refine lv_if_ne (tgt := 28) hx hb dX4_negated_22 (by decide) (fun c_22 => ?_) (fun c_22 => ?_)
    · have c_22 := zB_1.mp c_22
      refine lv_aload_n hx hb dX4_negated_28 rfl (lv_at hl 0 rfl) ?_
      refine lv_bipush (v := nI 7) hx hb dX4_negated_29 (by decide) ?_
      refine lv_iload_n hx hb dX4_negated_31 rfl (lv_at hl 1 rfl) ?_
      refine lv_iload_n hx hb dX4_negated_32 rfl (lv_at hl 2 rfl) ?_
      refine cr_Vi (As := [.int (nI 7), .int (a), .int (b)]) (rest := []) ⟨hx, hb, hml, hown, hts⟩ (c_X4_made l g s0  w h hs0 (nI 0) nt mo gb wr nr su pr ob ki fi se ta nd ii sp qu rF rT rD P hP4 (nI 7) (a) (b)) (cw_V 3 hts tg_tail tw_510 tw_512 tp_22 tw_4 tw_513 rfl rfl (by decide +kernel) ⟨Nat.le_trans (by decide) hRm.1, Nat.le_trans (by decide) hRm.2⟩) hK hP h0s hS (mW_0) rfl rfl rfl hl.1 rfl (Nat.le_of_ble_eq_true rfl) dX4_negated_33 hcs (fun r9 w9 H locs hw hP hS => ?_)
      exact W.iret (v := r9) hx hb hr (fun t9 ht hW => ⟨⟨_, w9, rfl, Or.inr ⟨⟨c_12, c_22⟩, hw⟩, cB_of ht hP⟩, hS.F ht⟩) hS.2.2 dX4_negated_36
    · have c_22 := zB_0.mp c_22
      refine lv_bipush (v := (-2)) hx hb dX4_negated_25 (by decide) ?_
      exact W.iret (v := (-2)) hx hb hr (fun t9 ht hW => ⟨⟨_, (mW g w h (nI 0) nt (nI P) mo gb wr nr su pr ob ki fi se ta nd ii sp qu rF rT rD), rfl, Or.inl ⟨by clear hts hP hK hx hb hr hown hS hRm hcs hl hlocks; grind, rfl, rfl⟩, cB_of ht hP⟩, hS.F ht⟩) hS.2.2 dX4_negated_27

set_option maxHeartbeats 4000000 in
set_option maxRecDepth 100000 in
theorem c_X4_steps (l : Launch) (g : gX) (s0 : Nat) (w : wd_M) (h : Nat) (hs0 : s0 ≤ h) (rf nt np mo gb wr nr : Int32) (su pr ob ki fi se ta nd ii sp qu rF rT rD : Nat → Int32) (a : Int32) : Met l yX4_steps (Cond.code yX4_steps cX4_steps 2 (some .int) :: tg) ({ frames := 1, cells := 0, slots := 0, locals := 22 }) (cP g s0 (mW g w h rf nt np mo gb wr nr su pr ob ki fi se ta nd ii sp qu rF rT rD) [.ref h, .int (a)]) (cI g s0 (fun r w' => (¬ (nI 1 ≤ a ∧ a ≤ nI 1024) ∧ r = -2 ∧ w' = (mW g w h (nI 0) nt np mo gb wr nr su pr ob ki fi se ta nd ii sp qu rF rT rD)) ∨ ((nI 1 ≤ a ∧ a ≤ nI 1024) ∧ r = nI 1 ∧ w' = (mW g w h (nI 0) nt np a gb wr nr su pr ob ki fi se ta nd ii sp qu rF rT rD)))) 0 0 (cA s0) := by
  refine Met.ofW (cc := cX4_steps) (maxL := 2) (ret := some .int) (by decide) rfl ?_
  intro p e s m args below meth c s₁ B9 hml hv
  obtain ⟨rfl, h0s, hP, hK⟩ := hv
  have hx := B9.exec
  have hb := B9.bytes
  have hr := B9.returns
  have hts := atoms_spec (ws := Cond.code yX4_steps cX4_steps 2 (some .int) :: tg) B9.pre
  have hown : s.vm.findClass RX4 = some m.cls := findClass_of_methodNamed B9.named
  have hlocks := B9.notSynchronized
  have hS : gS s0 s.heap s.heap [] := va_S.rf
  have hRm : 1 ≤ (headSpec (Cond.code yX4_steps cX4_steps 2 (some .int) :: tg) ({ frames := 1, cells := 0, slots := 0, locals := 22 })).room.frames ∧ 22 ≤ (headSpec (Cond.code yX4_steps cX4_steps 2 (some .int) :: tg) ({ frames := 1, cells := 0, slots := 0, locals := 22 })).room.locals := ⟨Nat.le_refl _, Nat.le_refl _⟩
  have hcs : 0 + 0 ≤ (headSpec (Cond.code yX4_steps cX4_steps 2 (some .int) :: tg) ({ frames := 1, cells := 0, slots := 0, locals := 22 })).room.cells ∧ 0 + 0 ≤ (headSpec (Cond.code yX4_steps cX4_steps 2 (some .int) :: tg) ({ frames := 1, cells := 0, slots := 0, locals := 22 })).room.slots := ⟨Nat.zero_le _, Nat.zero_le _⟩
  have hl := lv_entry ([.ref h, .int (a)]) (n := 2) (Nat.le_of_ble_eq_true rfl)
  rw [lg_entry_eq]
  generalize (lg_sl ([.ref h, .int (a)]) ++ List.replicate (2 - (lg_sl ([.ref h, .int (a)])).length) Slot.unset).toArray = ls at hl ⊢
  have hl : lv_has ls 2 [(0, .ref h), (1, .int (a))] := hl
  refine lv_aload_n hx hb dX4_steps_0 rfl (lv_at hl 0 rfl) ?_
  refine lv_iconst (v := nI 0) hx hb dX4_steps_1 (by decide) ?_
  refine wd_put (ci := 5) (v := .int (nI 0)) (ty := .int) (C := RX4) (T := TX4) (N := 21) hx hb hts iwX4 tyX4 tyX4_ok nmX4 hown hK.1 hP hS (by omega) (mW_0) rfl 0 (by decide) (hts _ (tg_tail _ tw_423)) (fun _ h9 => h9) rfl (by decide +kernel) (rfl) (rfl) (Nat.le_of_ble_eq_true rfl) dX4_steps_2 (fun H locs hP hS hz => ?_)
  have hP : gP g (mW g w h (nI 0) nt np mo gb wr nr su pr ob ki fi se ta nd ii sp qu rF rT rD) H := by have h9 : gP g (wd_up (mW g w h rf nt np mo gb wr nr su pr ob ki fi se ta nd ii sp qu rF rT rD) h (.inr (5, [.int (nI 0), .ref (h + 1), .ref (h + 2), .ref (h + 3), .int (nt), .ref (h + 4), .ref (h + 5), .ref (h + 6), .int (np), .int (mo), .ref (h + 7), .ref (h + 8), .ref (h + 9), .int (gb), .ref (h + 10), .ref (h + 11), .int (wr), .int (nr), .ref (h + 12), .ref (h + 13), .ref (h + 14)]))) H := hP; rw [mW_s0] at h9; exact h9
  refine lv_iload_n hx hb dX4_steps_5 rfl (lv_at hl 1 rfl) ?_
  refine lv_iconst (v := nI 1) hx hb dX4_steps_6 (by decide) ?_
  refine lv_sipush (v := nI 1024) hx hb dX4_steps_7 (by decide +kernel) ?_
  refine cr_Si (As := [.int (a), .int (nI 1), .int (nI 1024)]) (rest := []) ⟨hx, hb, hml, hown, hts⟩ (c_X4_isBetween l g s0 (mW g w h (nI 0) nt np mo gb wr nr su pr ob ki fi se ta nd ii sp qu rF rT rD) (a) (nI 1) (nI 1024)) (cw_S 3 hts tg_tail tw_499 tw_500 tw_4 tw_501 rfl rfl (by decide +kernel) ⟨Nat.le_trans (by decide) hRm.1, Nat.le_trans (by decide) hRm.2⟩) hK hP h0s hS rfl hl.1 rfl (Nat.le_of_ble_eq_true rfl) dX4_steps_10 hcs (fun r9 w9 H locs hw hP hS => ?_)
  obtain ⟨e_r9, hw9⟩ := hw
  rw [hw9] at hP
  subst e_r9
  refine lv_if_ne (tgt := 19) hx hb dX4_steps_13 (by decide) (fun c_13 => ?_) (fun c_13 => ?_)
  · have c_13 := zB_1.mp c_13
    refine lv_aload_n hx hb dX4_steps_19 rfl (lv_at hl 0 rfl) ?_
    refine lv_iload_n hx hb dX4_steps_20 rfl (lv_at hl 1 rfl) ?_
    refine wd_put (ci := 5) (v := .int (a)) (ty := .int) (C := RX4) (T := TX4) (N := 21) hx hb hts iwX4 tyX4 tyX4_ok nmX4 hown hK.1 hP hS (by omega) (mW_0) rfl 9 (by decide) (hts _ (tg_tail _ tw_432)) (fun _ h9 => h9) rfl (by decide +kernel) (rfl) (rfl) (Nat.le_of_ble_eq_true rfl) dX4_steps_21 (fun H locs hP hS hz => ?_)
    have hP : gP g (mW g w h (nI 0) nt np a gb wr nr su pr ob ki fi se ta nd ii sp qu rF rT rD) H := by have h9 : gP g (wd_up (mW g w h (nI 0) nt np mo gb wr nr su pr ob ki fi se ta nd ii sp qu rF rT rD) h (.inr (5, [.int (nI 0), .ref (h + 1), .ref (h + 2), .ref (h + 3), .int (nt), .ref (h + 4), .ref (h + 5), .ref (h + 6), .int (np), .int (a), .ref (h + 7), .ref (h + 8), .ref (h + 9), .int (gb), .ref (h + 10), .ref (h + 11), .int (wr), .int (nr), .ref (h + 12), .ref (h + 13), .ref (h + 14)]))) H := hP; rw [mW_s0] at h9; exact h9
    refine lv_iconst (v := nI 1) hx hb dX4_steps_24 (by decide) ?_
    exact W.iret (v := nI 1) hx hb hr (fun t9 ht hW => ⟨⟨_, (mW g w h (nI 0) nt np a gb wr nr su pr ob ki fi se ta nd ii sp qu rF rT rD), rfl, Or.inr ⟨c_13, rfl, rfl⟩, cB_of ht hP⟩, hS.F ht⟩) hS.2.2 dX4_steps_25
  · have c_13 := zB_0.mp c_13
    refine lv_bipush (v := (-2)) hx hb dX4_steps_16 (by decide) ?_
    exact W.iret (v := (-2)) hx hb hr (fun t9 ht hW => ⟨⟨_, (mW g w h (nI 0) nt np mo gb wr nr su pr ob ki fi se ta nd ii sp qu rF rT rD), rfl, Or.inl ⟨c_13, rfl, rfl⟩, cB_of ht hP⟩, hS.F ht⟩) hS.2.2 dX4_steps_18

