/-! THE REFERENCE: methods without a loop -/
theorem nI_o : nI 1 = 1 := by decide
theorem lc_le {x y : Int64} : lg_cmp x y ≤ 0 ↔ x ≤ y := by
  unfold lg_cmp
  rw [← Int64.not_lt]
  by_cases h : y < x
  · simp [h]
  · simp [h]
    by_cases h2 : x = y <;> simp_all
theorem lc_eq {x y : Int64} : lg_cmp x y = 0 ↔ x = y := by
  unfold lg_cmp
  by_cases h : y < x
  · simp [h]
    intro e
    subst e
    exact absurd h (fun q => by rw [Int64.lt_iff_toInt_lt] at q; omega)
  · simp [h]
theorem lc_ne {x y : Int64} : ¬ lg_cmp x y = 0 ↔ ¬ x = y := not_congr lc_eq
theorem zB_n {P : Prop} [Decidable P] : narrow .boolean (.int (zB P)) = .int (zB P) := by
  unfold zB
  split <;> rfl
theorem zB_1 {P : Prop} [Decidable P] : ¬ zB P = 0 ↔ P := by
  unfold zB
  by_cases h : P <;> simp [h]
theorem zB_0 {P : Prop} [Decidable P] : zB P = 0 ↔ ¬ P := by
  unfold zB
  by_cases h : P <;> simp [h]
theorem zB_c {P Q : Prop} [Decidable P] [Decidable Q] (h : P ↔ Q) : zB P = zB Q := by
  unfold zB
  by_cases hq : Q
  · rw [if_pos hq, if_pos (h.mpr hq)]
  · rw [if_neg hq, if_neg (fun q => hq (h.mp q))]
theorem mn_cap {V : Nat} (h : V < 2 ^ 63) (c : ¬ lN V ≤ lN 1000000) : min V 1000000 = 1000000 := by
  have := mt (pk_lLE h (by decide)).mpr c
  omega
theorem mn_low {V : Nat} (h : V < 2 ^ 63) (c : lN V ≤ lN 1000000) : min V 1000000 = V := by
  have := (pk_lLE h (by decide)).mp c
  omega
set_option maxHeartbeats 4000000 in
set_option maxRecDepth 100000 in
theorem c_X4_thrown (l : Launch) (g : gX) (s0 : Nat) (w : wd_M) (h : Nat) (hs0 : s0 ≤ h) (rf nt np mo gb wr nr : Int32) (su pr ob ki fi se ta nd ii sp qu rF rT rD : Nat → Int32)  : Met l yX4_thrown (Cond.code yX4_thrown cX4_thrown 1 (some .int) :: tg) ({ frames := 0, cells := 0, slots := 0, locals := 0 }) (cP g s0 (mW g w h rf nt np mo gb wr nr su pr ob ki fi se ta nd ii sp qu rF rT rD) [.ref h]) (cI g s0 (fun r w' => r = rf ∧ w' = (mW g w h rf nt np mo gb wr nr su pr ob ki fi se ta nd ii sp qu rF rT rD))) 0 0 (cA s0) := by
  refine Met.ofW (cc := cX4_thrown) (maxL := 1) (ret := some .int) (by decide) rfl ?_
  intro p e s m args below meth c s₁ B9 hml hv
  obtain ⟨rfl, h0s, hP, hK⟩ := hv
  have hx := B9.exec
  have hb := B9.bytes
  have hr := B9.returns
  have hts := atoms_spec (ws := Cond.code yX4_thrown cX4_thrown 1 (some .int) :: tg) B9.pre
  have hown : s.vm.findClass RX4 = some m.cls := findClass_of_methodNamed B9.named
  have hlocks := B9.notSynchronized
  have hS : gS s0 s.heap s.heap [] := va_S.rf
  have hRm : 0 ≤ (headSpec (Cond.code yX4_thrown cX4_thrown 1 (some .int) :: tg) ({ frames := 0, cells := 0, slots := 0, locals := 0 })).room.frames ∧ 0 ≤ (headSpec (Cond.code yX4_thrown cX4_thrown 1 (some .int) :: tg) ({ frames := 0, cells := 0, slots := 0, locals := 0 })).room.locals := ⟨Nat.le_refl _, Nat.le_refl _⟩
  have hcs : 0 + 0 ≤ (headSpec (Cond.code yX4_thrown cX4_thrown 1 (some .int) :: tg) ({ frames := 0, cells := 0, slots := 0, locals := 0 })).room.cells ∧ 0 + 0 ≤ (headSpec (Cond.code yX4_thrown cX4_thrown 1 (some .int) :: tg) ({ frames := 0, cells := 0, slots := 0, locals := 0 })).room.slots := ⟨Nat.zero_le _, Nat.zero_le _⟩
  have hl := lv_entry ([.ref h]) (n := 1) (Nat.le_of_ble_eq_true rfl)
  rw [lg_entry_eq]
  generalize (lg_sl ([.ref h]) ++ List.replicate (1 - (lg_sl ([.ref h])).length) Slot.unset).toArray = ls at hl ⊢
  have hl : lv_has ls 1 [(0, .ref h)] := hl
  refine lv_aload_n hx hb dX4_thrown_0 rfl (lv_at hl 0 rfl) ?_
  refine wd_get (ci := 5) (v := .int (rf)) (C := RX4) (T := TX4) (N := 21) hx hb hts iwX4 hown hK.1 hP (mW_0) rfl 0 (by decide) (hts _ (tg_tail _ tw_423)) (fun _ h9 => h9) rfl dX4_thrown_1 ?_
  exact W.iret (v := rf) hx hb hr (fun t9 ht hW => ⟨⟨_, (mW g w h rf nt np mo gb wr nr su pr ob ki fi se ta nd ii sp qu rF rT rD), rfl, ⟨rfl, rfl⟩, cB_of ht hP⟩, hS.F ht⟩) hS.2.2 dX4_thrown_4

theorem ti_m1 : (-1 : Int32).toInt = -1 := by decide
set_option maxHeartbeats 4000000 in
set_option maxRecDepth 100000 in
theorem c_X4_isEnd (l : Launch) (g : gX) (s0 : Nat) (w : wd_M) (v : Int32) : Met l yX4_isEnd (Cond.code yX4_isEnd cX4_isEnd 1 (some .boolean) :: tg) ({ frames := 0, cells := 0, slots := 0, locals := 0 }) (cP g s0 w [.int (v)]) (cI g s0 (fun r w' => r = zB (-1 ≤ v ∧ v < nI 32) ∧ w' = w)) 0 0 (cA s0) := by
  refine Met.ofW (cc := cX4_isEnd) (maxL := 1) (ret := some .boolean) (by decide) rfl ?_
  intro p e s m args below meth c s₁ B9 hml hv
  obtain ⟨rfl, h0s, hP, hK⟩ := hv
  have hx := B9.exec
  have hb := B9.bytes
  have hr := B9.returns
  have hts := atoms_spec (ws := Cond.code yX4_isEnd cX4_isEnd 1 (some .boolean) :: tg) B9.pre
  have hown : s.vm.findClass RX4 = some m.cls := findClass_of_methodNamed B9.named
  have hlocks := B9.notSynchronized
  have hS : gS s0 s.heap s.heap [] := va_S.rf
  have hRm : 0 ≤ (headSpec (Cond.code yX4_isEnd cX4_isEnd 1 (some .boolean) :: tg) ({ frames := 0, cells := 0, slots := 0, locals := 0 })).room.frames ∧ 0 ≤ (headSpec (Cond.code yX4_isEnd cX4_isEnd 1 (some .boolean) :: tg) ({ frames := 0, cells := 0, slots := 0, locals := 0 })).room.locals := ⟨Nat.le_refl _, Nat.le_refl _⟩
  have hcs : 0 + 0 ≤ (headSpec (Cond.code yX4_isEnd cX4_isEnd 1 (some .boolean) :: tg) ({ frames := 0, cells := 0, slots := 0, locals := 0 })).room.cells ∧ 0 + 0 ≤ (headSpec (Cond.code yX4_isEnd cX4_isEnd 1 (some .boolean) :: tg) ({ frames := 0, cells := 0, slots := 0, locals := 0 })).room.slots := ⟨Nat.zero_le _, Nat.zero_le _⟩
  have hl := lv_entry ([.int (v)]) (n := 1) (Nat.le_of_ble_eq_true rfl)
  rw [lg_entry_eq]
  generalize (lg_sl ([.int (v)]) ++ List.replicate (1 - (lg_sl ([.int (v)])).length) Slot.unset).toArray = ls at hl ⊢
  have hl : lv_has ls 1 [(0, .int (v))] := hl
  refine lv_iload_n hx hb dX4_isEnd_0 rfl (lv_at hl 0 rfl) ?_
  refine lv_iconst (v := (-1)) hx hb dX4_isEnd_1 (by decide) ?_
  refine lv_icmp_lt (tgt := 15) hx hb dX4_isEnd_2 (by decide) (fun c_2 => ?_) (fun c_2 => ?_)
  · refine lv_iconst (v := nI 0) hx hb dX4_isEnd_15 (by decide) ?_
    exact W.zret (ty := .boolean) (v := nI 0) hx hb hr (by rfl) (fun t9 ht hW => ⟨⟨_, w, rfl, ⟨by unfold zB; simp only [Int32.lt_iff_toInt_lt, Int32.le_iff_toInt_le, ti_32, ti_16, Int32.toInt_zero, ti_m1] at c_2 ⊢; split <;> first | rfl | (exfalso; omega), rfl⟩, cB_of ht hP⟩, hS.F ht⟩) hS.2.2 dX4_isEnd_16
  · refine lv_iload_n hx hb dX4_isEnd_5 rfl (lv_at hl 0 rfl) ?_
    refine lv_bipush (v := nI 32) hx hb dX4_isEnd_6 (by decide) ?_
    refine lv_icmp_ge (tgt := 15) hx hb dX4_isEnd_8 (by decide) (fun c_8 => ?_) (fun c_8 => ?_)
    · refine lv_iconst (v := nI 0) hx hb dX4_isEnd_15 (by decide) ?_
      exact W.zret (ty := .boolean) (v := nI 0) hx hb hr (by rfl) (fun t9 ht hW => ⟨⟨_, w, rfl, ⟨by unfold zB; simp only [Int32.lt_iff_toInt_lt, Int32.le_iff_toInt_le, ti_32, ti_16, Int32.toInt_zero, ti_m1] at c_2 c_8 ⊢; split <;> first | rfl | (exfalso; omega), rfl⟩, cB_of ht hP⟩, hS.F ht⟩) hS.2.2 dX4_isEnd_16
    · refine lv_iconst (v := nI 1) hx hb dX4_isEnd_11 (by decide) ?_
      refine lv_goto (tgt := 16) hx hb dX4_isEnd_12 (by decide) ?_
      exact W.zret (ty := .boolean) (v := nI 1) hx hb hr (by rfl) (fun t9 ht hW => ⟨⟨_, w, rfl, ⟨by unfold zB; simp only [Int32.lt_iff_toInt_lt, Int32.le_iff_toInt_le, ti_32, ti_16, Int32.toInt_zero, ti_m1] at c_2 c_8 ⊢; split <;> first | rfl | (exfalso; omega), rfl⟩, cB_of ht hP⟩, hS.F ht⟩) hS.2.2 dX4_isEnd_16

set_option maxHeartbeats 4000000 in
set_option maxRecDepth 100000 in
theorem c_X4_fits (l : Launch) (g : gX) (s0 : Nat) (w : wd_M) (x y a b : Int32) : Met l yX4_fits (Cond.code yX4_fits cX4_fits 4 (some .boolean) :: tg) ({ frames := 0, cells := 0, slots := 0, locals := 0 }) (cP g s0 w [.int (x), .int (y), .int (a), .int (b)]) (cI g s0 (fun r w' => r = zB ((a < 0 ∨ a = x) ∧ (b < 0 ∨ b = y)) ∧ w' = w)) 0 0 (cA s0) := by
  refine Met.ofW (cc := cX4_fits) (maxL := 4) (ret := some .boolean) (by decide) rfl ?_
  intro p e s m args below meth c s₁ B9 hml hv
  obtain ⟨rfl, h0s, hP, hK⟩ := hv
  have hx := B9.exec
  have hb := B9.bytes
  have hr := B9.returns
  have hts := atoms_spec (ws := Cond.code yX4_fits cX4_fits 4 (some .boolean) :: tg) B9.pre
  have hown : s.vm.findClass RX4 = some m.cls := findClass_of_methodNamed B9.named
  have hlocks := B9.notSynchronized
  have hS : gS s0 s.heap s.heap [] := va_S.rf
  have hRm : 0 ≤ (headSpec (Cond.code yX4_fits cX4_fits 4 (some .boolean) :: tg) ({ frames := 0, cells := 0, slots := 0, locals := 0 })).room.frames ∧ 0 ≤ (headSpec (Cond.code yX4_fits cX4_fits 4 (some .boolean) :: tg) ({ frames := 0, cells := 0, slots := 0, locals := 0 })).room.locals := ⟨Nat.le_refl _, Nat.le_refl _⟩
  have hcs : 0 + 0 ≤ (headSpec (Cond.code yX4_fits cX4_fits 4 (some .boolean) :: tg) ({ frames := 0, cells := 0, slots := 0, locals := 0 })).room.cells ∧ 0 + 0 ≤ (headSpec (Cond.code yX4_fits cX4_fits 4 (some .boolean) :: tg) ({ frames := 0, cells := 0, slots := 0, locals := 0 })).room.slots := ⟨Nat.zero_le _, Nat.zero_le _⟩
  have hl := lv_entry ([.int (x), .int (y), .int (a), .int (b)]) (n := 4) (Nat.le_of_ble_eq_true rfl)
  rw [lg_entry_eq]
  generalize (lg_sl ([.int (x), .int (y), .int (a), .int (b)]) ++ List.replicate (4 - (lg_sl ([.int (x), .int (y), .int (a), .int (b)])).length) Slot.unset).toArray = ls at hl ⊢
  have hl : lv_has ls 4 [(0, .int (x)), (1, .int (y)), (2, .int (a)), (3, .int (b))] := hl
  refine lv_iload_n hx hb dX4_fits_0 rfl (lv_at hl 2 rfl) ?_
  refine lv_if_lt (tgt := 9) hx hb dX4_fits_1 (by decide) (fun c_1 => ?_) (fun c_1 => ?_)
  · refine lv_iload_n hx hb dX4_fits_9 rfl (lv_at hl 3 rfl) ?_
    refine lv_if_lt (tgt := 18) hx hb dX4_fits_10 (by decide) (fun c_10 => ?_) (fun c_10 => ?_)
    · refine lv_iconst (v := nI 1) hx hb dX4_fits_18 (by decide) ?_
      refine lv_goto (tgt := 23) hx hb dX4_fits_19 (by decide) ?_
      exact W.zret (ty := .boolean) (v := nI 1) hx hb hr (by rfl) (fun t9 ht hW => ⟨⟨_, w, rfl, ⟨by unfold zB; simp [nI_0, nI_o, c_1, c_10], rfl⟩, cB_of ht hP⟩, hS.F ht⟩) hS.2.2 dX4_fits_23
    · refine lv_iload_n hx hb dX4_fits_13 rfl (lv_at hl 3 rfl) ?_
      refine lv_iload_n hx hb dX4_fits_14 rfl (lv_at hl 1 rfl) ?_
      refine lv_icmp_ne (tgt := 22) hx hb dX4_fits_15 (by decide) (fun c_15 => ?_) (fun c_15 => ?_)
      · refine lv_iconst (v := nI 0) hx hb dX4_fits_22 (by decide) ?_
        exact W.zret (ty := .boolean) (v := nI 0) hx hb hr (by rfl) (fun t9 ht hW => ⟨⟨_, w, rfl, ⟨by unfold zB; simp [nI_0, nI_o, c_1, c_10, c_15], rfl⟩, cB_of ht hP⟩, hS.F ht⟩) hS.2.2 dX4_fits_23
      · refine lv_iconst (v := nI 1) hx hb dX4_fits_18 (by decide) ?_
        refine lv_goto (tgt := 23) hx hb dX4_fits_19 (by decide) ?_
        exact W.zret (ty := .boolean) (v := nI 1) hx hb hr (by rfl) (fun t9 ht hW => ⟨⟨_, w, rfl, ⟨by unfold zB; simp [nI_0, nI_o, c_1, c_10, c_15], rfl⟩, cB_of ht hP⟩, hS.F ht⟩) hS.2.2 dX4_fits_23
  · refine lv_iload_n hx hb dX4_fits_4 rfl (lv_at hl 2 rfl) ?_
    refine lv_iload_n hx hb dX4_fits_5 rfl (lv_at hl 0 rfl) ?_
    refine lv_icmp_ne (tgt := 22) hx hb dX4_fits_6 (by decide) (fun c_6 => ?_) (fun c_6 => ?_)
    · refine lv_iconst (v := nI 0) hx hb dX4_fits_22 (by decide) ?_
      exact W.zret (ty := .boolean) (v := nI 0) hx hb hr (by rfl) (fun t9 ht hW => ⟨⟨_, w, rfl, ⟨by unfold zB; simp [nI_0, nI_o, c_1, c_6], rfl⟩, cB_of ht hP⟩, hS.F ht⟩) hS.2.2 dX4_fits_23
    · refine lv_iload_n hx hb dX4_fits_9 rfl (lv_at hl 3 rfl) ?_
      refine lv_if_lt (tgt := 18) hx hb dX4_fits_10 (by decide) (fun c_10 => ?_) (fun c_10 => ?_)
      · refine lv_iconst (v := nI 1) hx hb dX4_fits_18 (by decide) ?_
        refine lv_goto (tgt := 23) hx hb dX4_fits_19 (by decide) ?_
        exact W.zret (ty := .boolean) (v := nI 1) hx hb hr (by rfl) (fun t9 ht hW => ⟨⟨_, w, rfl, ⟨by unfold zB; simp [nI_0, nI_o, c_1, c_6, c_10], rfl⟩, cB_of ht hP⟩, hS.F ht⟩) hS.2.2 dX4_fits_23
      · refine lv_iload_n hx hb dX4_fits_13 rfl (lv_at hl 3 rfl) ?_
        refine lv_iload_n hx hb dX4_fits_14 rfl (lv_at hl 1 rfl) ?_
        refine lv_icmp_ne (tgt := 22) hx hb dX4_fits_15 (by decide) (fun c_15 => ?_) (fun c_15 => ?_)
        · refine lv_iconst (v := nI 0) hx hb dX4_fits_22 (by decide) ?_
          exact W.zret (ty := .boolean) (v := nI 0) hx hb hr (by rfl) (fun t9 ht hW => ⟨⟨_, w, rfl, ⟨by unfold zB; simp [nI_0, nI_o, c_1, c_6, c_10, c_15], rfl⟩, cB_of ht hP⟩, hS.F ht⟩) hS.2.2 dX4_fits_23
        · refine lv_iconst (v := nI 1) hx hb dX4_fits_18 (by decide) ?_
          refine lv_goto (tgt := 23) hx hb dX4_fits_19 (by decide) ?_
          exact W.zret (ty := .boolean) (v := nI 1) hx hb hr (by rfl) (fun t9 ht hW => ⟨⟨_, w, rfl, ⟨by unfold zB; simp [nI_0, nI_o, c_1, c_6, c_10, c_15], rfl⟩, cB_of ht hP⟩, hS.F ht⟩) hS.2.2 dX4_fits_23

set_option maxHeartbeats 4000000 in
set_option maxRecDepth 100000 in
theorem c_X4_isRow (l : Launch) (g : gX) (s0 : Nat) (w : wd_M) (h : Nat) (hs0 : s0 ≤ h) (rf nt np mo gb wr : Int32) (su pr ob ki fi se ta nd ii sp qu rF rT rD : Nat → Int32) (N : Nat) (hN : N ≤ 2000) (i : Int32) : Met l yX4_isRow (Cond.code yX4_isRow cX4_isRow 2 (some .boolean) :: tg) ({ frames := 0, cells := 0, slots := 0, locals := 0 }) (cP g s0 (mW g w h rf nt np mo gb wr (nI N) su pr ob ki fi se ta nd ii sp qu rF rT rD) [.ref h, .int (i)]) (cI g s0 (fun r w' => r = zB (¬ wr = 0 ∧ ¬ i < 0 ∧ ¬ nI N ≤ i) ∧ w' = (mW g w h rf nt np mo gb wr (nI N) su pr ob ki fi se ta nd ii sp qu rF rT rD))) 0 0 (cA s0) := by
  refine Met.ofW (cc := cX4_isRow) (maxL := 2) (ret := some .boolean) (by decide) rfl ?_
  intro p e s m args below meth c s₁ B9 hml hv
  obtain ⟨rfl, h0s, hP, hK⟩ := hv
  have hx := B9.exec
  have hb := B9.bytes
  have hr := B9.returns
  have hts := atoms_spec (ws := Cond.code yX4_isRow cX4_isRow 2 (some .boolean) :: tg) B9.pre
  have hown : s.vm.findClass RX4 = some m.cls := findClass_of_methodNamed B9.named
  have hlocks := B9.notSynchronized
  have hS : gS s0 s.heap s.heap [] := va_S.rf
  have hRm : 0 ≤ (headSpec (Cond.code yX4_isRow cX4_isRow 2 (some .boolean) :: tg) ({ frames := 0, cells := 0, slots := 0, locals := 0 })).room.frames ∧ 0 ≤ (headSpec (Cond.code yX4_isRow cX4_isRow 2 (some .boolean) :: tg) ({ frames := 0, cells := 0, slots := 0, locals := 0 })).room.locals := ⟨Nat.le_refl _, Nat.le_refl _⟩
  have hcs : 0 + 0 ≤ (headSpec (Cond.code yX4_isRow cX4_isRow 2 (some .boolean) :: tg) ({ frames := 0, cells := 0, slots := 0, locals := 0 })).room.cells ∧ 0 + 0 ≤ (headSpec (Cond.code yX4_isRow cX4_isRow 2 (some .boolean) :: tg) ({ frames := 0, cells := 0, slots := 0, locals := 0 })).room.slots := ⟨Nat.zero_le _, Nat.zero_le _⟩
  have hl := lv_entry ([.ref h, .int (i)]) (n := 2) (Nat.le_of_ble_eq_true rfl)
  rw [lg_entry_eq]
  generalize (lg_sl ([.ref h, .int (i)]) ++ List.replicate (2 - (lg_sl ([.ref h, .int (i)])).length) Slot.unset).toArray = ls at hl ⊢
  have hl : lv_has ls 2 [(0, .ref h), (1, .int (i))] := hl
  refine lv_aload_n hx hb dX4_isRow_0 rfl (lv_at hl 0 rfl) ?_
  refine wd_get (ci := 5) (v := .int (wr)) (C := RX4) (T := TX4) (N := 21) hx hb hts iwX4 hown hK.1 hP (mW_0) rfl 16 (by decide) (hts _ (tg_tail _ tw_439)) (fun _ h9 => h9) rfl dX4_isRow_1 ?_
  refine lv_if_eq (tgt := 23) hx hb dX4_isRow_4 (by decide) (fun c_4 => ?_) (fun c_4 => ?_)
  · refine lv_iconst (v := nI 0) hx hb dX4_isRow_23 (by decide) ?_
    exact W.zret (ty := .boolean) (v := nI 0) hx hb hr (by rfl) (fun t9 ht hW => ⟨⟨_, (mW g w h rf nt np mo gb wr (nI N) su pr ob ki fi se ta nd ii sp qu rF rT rD), rfl, ⟨by unfold zB; simp [nI_0, nI_o, c_4], rfl⟩, cB_of ht hP⟩, hS.F ht⟩) hS.2.2 dX4_isRow_24
  · refine lv_iload_n hx hb dX4_isRow_7 rfl (lv_at hl 1 rfl) ?_
    refine lv_if_lt (tgt := 23) hx hb dX4_isRow_8 (by decide) (fun c_8 => ?_) (fun c_8 => ?_)
    · refine lv_iconst (v := nI 0) hx hb dX4_isRow_23 (by decide) ?_
      exact W.zret (ty := .boolean) (v := nI 0) hx hb hr (by rfl) (fun t9 ht hW => ⟨⟨_, (mW g w h rf nt np mo gb wr (nI N) su pr ob ki fi se ta nd ii sp qu rF rT rD), rfl, ⟨by unfold zB; simp [nI_0, nI_o, c_4, c_8], rfl⟩, cB_of ht hP⟩, hS.F ht⟩) hS.2.2 dX4_isRow_24
    · refine lv_iload_n hx hb dX4_isRow_11 rfl (lv_at hl 1 rfl) ?_
      refine lv_aload_n hx hb dX4_isRow_12 rfl (lv_at hl 0 rfl) ?_
      refine wd_get (ci := 5) (v := .int (nI N)) (C := RX4) (T := TX4) (N := 21) hx hb hts iwX4 hown hK.1 hP (mW_0) rfl 17 (by decide) (hts _ (tg_tail _ tw_440)) (fun _ h9 => h9) rfl dX4_isRow_13 ?_
      refine lv_icmp_ge (tgt := 23) hx hb dX4_isRow_16 (by decide) (fun c_16 => ?_) (fun c_16 => ?_)
      · refine lv_iconst (v := nI 0) hx hb dX4_isRow_23 (by decide) ?_
        exact W.zret (ty := .boolean) (v := nI 0) hx hb hr (by rfl) (fun t9 ht hW => ⟨⟨_, (mW g w h rf nt np mo gb wr (nI N) su pr ob ki fi se ta nd ii sp qu rF rT rD), rfl, ⟨by unfold zB; simp [nI_0, nI_o, c_4, c_8, c_16], rfl⟩, cB_of ht hP⟩, hS.F ht⟩) hS.2.2 dX4_isRow_24
      · refine lv_iconst (v := nI 1) hx hb dX4_isRow_19 (by decide) ?_
        refine lv_goto (tgt := 24) hx hb dX4_isRow_20 (by decide) ?_
        exact W.zret (ty := .boolean) (v := nI 1) hx hb hr (by rfl) (fun t9 ht hW => ⟨⟨_, (mW g w h rf nt np mo gb wr (nI N) su pr ob ki fi se ta nd ii sp qu rF rT rD), rfl, ⟨by unfold zB; simp [nI_0, nI_o, c_4, c_8, c_16], rfl⟩, cB_of ht hP⟩, hS.F ht⟩) hS.2.2 dX4_isRow_24

set_option maxHeartbeats 4000000 in
set_option maxRecDepth 100000 in
theorem c_X4_cell (l : Launch) (g : gX) (s0 : Nat) (w : wd_M) (h : Nat) (hs0 : s0 ≤ h) (rf nt np mo gb wr nr : Int32) (su pr ob ki fi se ta nd ii sp qu rF rT rD : Nat → Int32) (u x y : Nat) (hp : u ≤ 40) (hx1 : x < 32) (hy1 : y < 32) : Met l yX4_cell (Cond.code yX4_cell cX4_cell 4 (some .int) :: tg) ({ frames := 0, cells := 0, slots := 0, locals := 0 }) (cP g s0 (mW g w h rf nt np mo gb wr nr su pr ob ki fi se ta nd ii sp qu rF rT rD) [.ref h, .int (nI u), .int (nI x), .int (nI y)]) (cI g s0 (fun r w' => r = ta (1024 * u + 32 * x + y) ∧ w' = (mW g w h rf nt np mo gb wr nr su pr ob ki fi se ta nd ii sp qu rF rT rD))) 0 0 (cA s0) := by
  refine Met.ofW (cc := cX4_cell) (maxL := 4) (ret := some .int) (by decide) rfl ?_
  intro p e s m args below meth c s₁ B9 hml hv
  obtain ⟨rfl, h0s, hP, hK⟩ := hv
  have hx := B9.exec
  have hb := B9.bytes
  have hr := B9.returns
  have hts := atoms_spec (ws := Cond.code yX4_cell cX4_cell 4 (some .int) :: tg) B9.pre
  have hown : s.vm.findClass RX4 = some m.cls := findClass_of_methodNamed B9.named
  have hlocks := B9.notSynchronized
  have hS : gS s0 s.heap s.heap [] := va_S.rf
  have hRm : 0 ≤ (headSpec (Cond.code yX4_cell cX4_cell 4 (some .int) :: tg) ({ frames := 0, cells := 0, slots := 0, locals := 0 })).room.frames ∧ 0 ≤ (headSpec (Cond.code yX4_cell cX4_cell 4 (some .int) :: tg) ({ frames := 0, cells := 0, slots := 0, locals := 0 })).room.locals := ⟨Nat.le_refl _, Nat.le_refl _⟩
  have hcs : 0 + 0 ≤ (headSpec (Cond.code yX4_cell cX4_cell 4 (some .int) :: tg) ({ frames := 0, cells := 0, slots := 0, locals := 0 })).room.cells ∧ 0 + 0 ≤ (headSpec (Cond.code yX4_cell cX4_cell 4 (some .int) :: tg) ({ frames := 0, cells := 0, slots := 0, locals := 0 })).room.slots := ⟨Nat.zero_le _, Nat.zero_le _⟩
  have hl := lv_entry ([.ref h, .int (nI u), .int (nI x), .int (nI y)]) (n := 4) (Nat.le_of_ble_eq_true rfl)
  rw [lg_entry_eq]
  generalize (lg_sl ([.ref h, .int (nI u), .int (nI x), .int (nI y)]) ++ List.replicate (4 - (lg_sl ([.ref h, .int (nI u), .int (nI x), .int (nI y)])).length) Slot.unset).toArray = ls at hl ⊢
  have hl : lv_has ls 4 [(0, .ref h), (1, .int (nI u)), (2, .int (nI x)), (3, .int (nI y))] := hl
  refine lv_aload_n hx hb dX4_cell_0 rfl (lv_at hl 0 rfl) ?_
  refine wd_get (ci := 5) (v := .ref (h + 7)) (C := RX4) (T := TX4) (N := 21) hx hb hts iwX4 hown hK.1 hP (mW_0) rfl 10 (by decide) (hts _ (tg_tail _ tw_433)) (fun _ h9 => h9) rfl dX4_cell_1 ?_
  refine lv_sipush (v := nI 1024) hx hb dX4_cell_4 (by decide +kernel) ?_
  refine lv_iload_n hx hb dX4_cell_7 rfl (lv_at hl 1 rfl) ?_
  refine lv_imul hx hb dX4_cell_8 ?_
  refine wd_ti (x' := nI (1024 * u)) (pk_mul _ _) ?_
  refine lv_bipush (v := nI 32) hx hb dX4_cell_9 (by decide) ?_
  refine lv_iload_n hx hb dX4_cell_11 rfl (lv_at hl 2 rfl) ?_
  refine lv_imul hx hb dX4_cell_12 ?_
  refine wd_ti (x' := nI (32 * x)) (pk_mul _ _) ?_
  refine lv_iadd hx hb dX4_cell_13 ?_
  refine wd_ti (x' := nI ((1024 * u) + (32 * x))) (nI_add _ _) ?_
  refine lv_iload_n hx hb dX4_cell_14 rfl (lv_at hl 3 rfl) ?_
  refine lv_iadd hx hb dX4_cell_15 ?_
  refine wd_ti (x' := nI (((1024 * u) + (32 * x)) + y)) (nI_add _ _) ?_
  refine wd_ildN hx hb hK.1 hP 0 (k := (((1024 * u) + (32 * x)) + y)) (mW_7) rfl (by omega) (by decide) dX4_cell_16 ?_
  exact W.iret (v := ta (((1024 * u) + (32 * x)) + y)) hx hb hr (fun t9 ht hW => ⟨⟨_, (mW g w h rf nt np mo gb wr nr su pr ob ki fi se ta nd ii sp qu rF rT rD), rfl, ⟨rfl, rfl⟩, cB_of ht hP⟩, hS.F ht⟩) hS.2.2 dX4_cell_17

set_option maxHeartbeats 4000000 in
set_option maxRecDepth 100000 in
theorem c_X4_put (l : Launch) (g : gX) (s0 : Nat) (w : wd_M) (h : Nat) (hs0 : s0 ≤ h) (rf nt np mo gb wr nr : Int32) (su pr ob ki fi se ta nd ii sp qu rF rT rD : Nat → Int32) (u x y V : Nat) (hp : u ≤ 40) (hx1 : x < 32) (hy1 : y < 32) (hV : V < 2 ^ 63) : Met l yX4_put (Cond.code yX4_put cX4_put 6 (none) :: tg) ({ frames := 0, cells := 0, slots := 0, locals := 0 }) (cP g s0 (mW g w h rf nt np mo gb wr nr su pr ob ki fi se ta nd ii sp qu rF rT rD) [.ref h, .int (nI u), .int (nI x), .int (nI y), .long (lN V)]) (cV g s0 (fun w' => w' = (mW g w h rf nt np mo gb wr nr su pr ob ki fi se (upd ta (1024 * u + 32 * x + y) (nI (min V 1000000))) nd ii sp qu rF rT rD))) 0 0 (cA s0) := by
  refine Met.ofW (cc := cX4_put) (maxL := 6) (ret := none) (by decide) rfl ?_
  intro p e s m args below meth c s₁ B9 hml hv
  obtain ⟨rfl, h0s, hP, hK⟩ := hv
  have hx := B9.exec
  have hb := B9.bytes
  have hr := B9.returns
  have hts := atoms_spec (ws := Cond.code yX4_put cX4_put 6 (none) :: tg) B9.pre
  have hown : s.vm.findClass RX4 = some m.cls := findClass_of_methodNamed B9.named
  have hlocks := B9.notSynchronized
  have hS : gS s0 s.heap s.heap [] := va_S.rf
  have hRm : 0 ≤ (headSpec (Cond.code yX4_put cX4_put 6 (none) :: tg) ({ frames := 0, cells := 0, slots := 0, locals := 0 })).room.frames ∧ 0 ≤ (headSpec (Cond.code yX4_put cX4_put 6 (none) :: tg) ({ frames := 0, cells := 0, slots := 0, locals := 0 })).room.locals := ⟨Nat.le_refl _, Nat.le_refl _⟩
  have hcs : 0 + 0 ≤ (headSpec (Cond.code yX4_put cX4_put 6 (none) :: tg) ({ frames := 0, cells := 0, slots := 0, locals := 0 })).room.cells ∧ 0 + 0 ≤ (headSpec (Cond.code yX4_put cX4_put 6 (none) :: tg) ({ frames := 0, cells := 0, slots := 0, locals := 0 })).room.slots := ⟨Nat.zero_le _, Nat.zero_le _⟩
  have hl := lv_entry ([.ref h, .int (nI u), .int (nI x), .int (nI y), .long (lN V)]) (n := 6) (Nat.le_of_ble_eq_true rfl)
  rw [lg_entry_eq]
  generalize (lg_sl ([.ref h, .int (nI u), .int (nI x), .int (nI y), .long (lN V)]) ++ List.replicate (6 - (lg_sl ([.ref h, .int (nI u), .int (nI x), .int (nI y), .long (lN V)])).length) Slot.unset).toArray = ls at hl ⊢
  have hl : lv_has ls 6 [(0, .ref h), (1, .int (nI u)), (2, .int (nI x)), (3, .int (nI y)), (4, .long (lN V))] := hl
  refine lv_aload_n hx hb dX4_put_0 rfl (lv_at hl 0 rfl) ?_
  refine wd_get (ci := 5) (v := .ref (h + 7)) (C := RX4) (T := TX4) (N := 21) hx hb hts iwX4 hown hK.1 hP (mW_0) rfl 10 (by decide) (hts _ (tg_tail _ tw_433)) (fun _ h9 => h9) rfl dX4_put_1 ?_
  refine lv_sipush (v := nI 1024) hx hb dX4_put_4 (by decide +kernel) ?_
  refine lv_iload_n hx hb dX4_put_7 rfl (lv_at hl 1 rfl) ?_
  refine lv_imul hx hb dX4_put_8 ?_
  refine wd_ti (x' := nI (1024 * u)) (pk_mul _ _) ?_
  refine lv_bipush (v := nI 32) hx hb dX4_put_9 (by decide) ?_
  refine lv_iload_n hx hb dX4_put_11 rfl (lv_at hl 2 rfl) ?_
  refine lv_imul hx hb dX4_put_12 ?_
  refine wd_ti (x' := nI (32 * x)) (pk_mul _ _) ?_
  refine lv_iadd hx hb dX4_put_13 ?_
  refine wd_ti (x' := nI ((1024 * u) + (32 * x))) (nI_add _ _) ?_
  refine lv_iload_n hx hb dX4_put_14 rfl (lv_at hl 3 rfl) ?_
  refine lv_iadd hx hb dX4_put_15 ?_
  refine wd_ti (x' := nI (((1024 * u) + (32 * x)) + y)) (nI_add _ _) ?_
  refine lv_lload hx hb dX4_put_16 (lv_at hl 4 rfl) ?_
  refine lv_ldc2 hx hb hown (hts _ (tg_tail _ tw_565)) dX4_put_18 ?_
  refine wd_tl (x' := lN 1000000) (by decide +kernel) ?_
  refine W.lcmp hx hb dX4_put_21 ?_
  refine lv_if_le (tgt := 31) hx hb dX4_put_22 (by decide) (fun c_22 => ?_) (fun c_22 => ?_)
  · have c_22 := lc_le.mp c_22
    refine lv_lload hx hb dX4_put_31 (lv_at hl 4 rfl) ?_
    refine lv_l2i (v := (lN V).toInt32) hx hb dX4_put_33 (rfl) ?_
    refine wd_istN hx hb hK.1 hP hS (by omega) 0 (k := (((1024 * u) + (32 * x)) + y)) (mW_7) rfl (by omega) (by decide) dX4_put_34 (fun H locs hP hS hz => ?_)
    have hP : gP g (mW g w h rf nt np mo gb wr nr su pr ob ki fi se (upd (ta) (((1024 * u) + (32 * x)) + y) ((lN V).toInt32)) nd ii sp qu rF rT rD) H := by have h9 : gP g (wd_up (mW g w h rf nt np mo gb wr nr su pr ob ki fi se ta nd ii sp qu rF rT rD) (h + 7) (wd_iA (g.2 0) 41984 (upd (ta) (((1024 * u) + (32 * x)) + y) ((lN V).toInt32)))) H := hP; rw [mW_s7] at h9; exact h9
    exact W.vret hx hb hr (fun t9 ht hW => ⟨⟨(mW g w h rf nt np mo gb wr nr su pr ob ki fi se (upd (ta) (((1024 * u) + (32 * x)) + y) ((lN V).toInt32)) nd ii sp qu rF rT rD), rfl, by rw [mn_low hV c_22, lN_i], cB_of ht hP⟩, hS.F ht⟩) hS.2.2 dX4_put_35
  · have c_22 := mt lc_le.mpr c_22
    refine lv_ldc2 hx hb hown (hts _ (tg_tail _ tw_565)) dX4_put_25 ?_
    refine wd_tl (x' := lN 1000000) (by decide +kernel) ?_
    refine lv_goto (tgt := 33) hx hb dX4_put_28 (by decide) ?_
    refine lv_l2i (v := (lN 1000000).toInt32) hx hb dX4_put_33 (rfl) ?_
    refine wd_istN hx hb hK.1 hP hS (by omega) 0 (k := (((1024 * u) + (32 * x)) + y)) (mW_7) rfl (by omega) (by decide) dX4_put_34 (fun H locs hP hS hz => ?_)
    have hP : gP g (mW g w h rf nt np mo gb wr nr su pr ob ki fi se (upd (ta) (((1024 * u) + (32 * x)) + y) ((lN 1000000).toInt32)) nd ii sp qu rF rT rD) H := by have h9 : gP g (wd_up (mW g w h rf nt np mo gb wr nr su pr ob ki fi se ta nd ii sp qu rF rT rD) (h + 7) (wd_iA (g.2 0) 41984 (upd (ta) (((1024 * u) + (32 * x)) + y) ((lN 1000000).toInt32)))) H := hP; rw [mW_s7] at h9; exact h9
    exact W.vret hx hb hr (fun t9 ht hW => ⟨⟨(mW g w h rf nt np mo gb wr nr su pr ob ki fi se (upd (ta) (((1024 * u) + (32 * x)) + y) ((lN 1000000).toInt32)) nd ii sp qu rF rT rD), rfl, by rw [mn_cap hV c_22, lN_i], cB_of ht hP⟩, hS.F ht⟩) hS.2.2 dX4_put_35

set_option maxHeartbeats 4000000 in
set_option maxRecDepth 100000 in
theorem c_X4_isNode (l : Launch) (g : gX) (s0 : Nat) (w : wd_M) (n : Int32) : Met l yX4_isNode (Cond.code yX4_isNode cX4_isNode 1 (some .boolean) :: tg) ({ frames := 1, cells := 0, slots := 0, locals := 22 }) (cP g s0 w [.int (n)]) (cI g s0 (fun r w' => r = zB (nI 0 ≤ n ∧ n ≤ nI 31) ∧ w' = w)) 0 0 (cA s0) := by
  refine Met.ofW (cc := cX4_isNode) (maxL := 1) (ret := some .boolean) (by decide) rfl ?_
  intro p e s m args below meth c s₁ B9 hml hv
  obtain ⟨rfl, h0s, hP, hK⟩ := hv
  have hx := B9.exec
  have hb := B9.bytes
  have hr := B9.returns
  have hts := atoms_spec (ws := Cond.code yX4_isNode cX4_isNode 1 (some .boolean) :: tg) B9.pre
  have hown : s.vm.findClass RX4 = some m.cls := findClass_of_methodNamed B9.named
  have hlocks := B9.notSynchronized
  have hS : gS s0 s.heap s.heap [] := va_S.rf
  have hRm : 1 ≤ (headSpec (Cond.code yX4_isNode cX4_isNode 1 (some .boolean) :: tg) ({ frames := 1, cells := 0, slots := 0, locals := 22 })).room.frames ∧ 22 ≤ (headSpec (Cond.code yX4_isNode cX4_isNode 1 (some .boolean) :: tg) ({ frames := 1, cells := 0, slots := 0, locals := 22 })).room.locals := ⟨Nat.le_refl _, Nat.le_refl _⟩
  have hcs : 0 + 0 ≤ (headSpec (Cond.code yX4_isNode cX4_isNode 1 (some .boolean) :: tg) ({ frames := 1, cells := 0, slots := 0, locals := 22 })).room.cells ∧ 0 + 0 ≤ (headSpec (Cond.code yX4_isNode cX4_isNode 1 (some .boolean) :: tg) ({ frames := 1, cells := 0, slots := 0, locals := 22 })).room.slots := ⟨Nat.zero_le _, Nat.zero_le _⟩
  have hl := lv_entry ([.int (n)]) (n := 1) (Nat.le_of_ble_eq_true rfl)
  rw [lg_entry_eq]
  generalize (lg_sl ([.int (n)]) ++ List.replicate (1 - (lg_sl ([.int (n)])).length) Slot.unset).toArray = ls at hl ⊢
  have hl : lv_has ls 1 [(0, .int (n))] := hl
  refine lv_iload_n hx hb dX4_isNode_0 rfl (lv_at hl 0 rfl) ?_
  refine lv_iconst (v := nI 0) hx hb dX4_isNode_1 (by decide) ?_
  refine lv_bipush (v := nI 31) hx hb dX4_isNode_2 (by decide) ?_
  refine cr_Si (As := [.int (n), .int (nI 0), .int (nI 31)]) (rest := []) ⟨hx, hb, hml, hown, hts⟩ (c_X4_isBetween l g s0 w n (nI 0) (nI 31)) (cw_S 3 hts tg_tail tw_499 tw_500 tw_4 tw_501 rfl rfl (by decide +kernel) ⟨Nat.le_trans (by decide) hRm.1, Nat.le_trans (by decide) hRm.2⟩) hK hP h0s hS rfl hl.1 rfl (Nat.le_of_ble_eq_true rfl) dX4_isNode_4 hcs (fun r1 w9 H locs hw hP hS => ?_)
  obtain ⟨e_r1, hw9⟩ := hw
  rw [hw9] at hP
  exact W.zret (ty := .boolean) (v := r1) hx hb hr (by rw [e_r1]; exact zB_n) (fun t9 ht hW => ⟨⟨_, w, rfl, ⟨e_r1, rfl⟩, cB_of ht hP⟩, hS.F ht⟩) hS.2.2 dX4_isNode_7

set_option maxHeartbeats 4000000 in
set_option maxRecDepth 100000 in
theorem c_X4_isPath (l : Launch) (g : gX) (s0 : Nat) (w : wd_M) (h : Nat) (hs0 : s0 ≤ h) (rf nt np mo gb wr nr : Int32) (su pr ob ki fi se ta nd ii sp qu rF rT rD : Nat → Int32) (n : Int32) : Met l yX4_isPath (Cond.code yX4_isPath cX4_isPath 2 (some .boolean) :: tg) ({ frames := 1, cells := 0, slots := 0, locals := 22 }) (cP g s0 (mW g w h rf nt np mo gb wr nr su pr ob ki fi se ta nd ii sp qu rF rT rD) [.ref h, .int (n)]) (cI g s0 (fun r w' => r = zB (nI 1 ≤ n ∧ n ≤ np) ∧ w' = (mW g w h rf nt np mo gb wr nr su pr ob ki fi se ta nd ii sp qu rF rT rD))) 0 0 (cA s0) := by
  refine Met.ofW (cc := cX4_isPath) (maxL := 2) (ret := some .boolean) (by decide) rfl ?_
  intro p e s m args below meth c s₁ B9 hml hv
  obtain ⟨rfl, h0s, hP, hK⟩ := hv
  have hx := B9.exec
  have hb := B9.bytes
  have hr := B9.returns
  have hts := atoms_spec (ws := Cond.code yX4_isPath cX4_isPath 2 (some .boolean) :: tg) B9.pre
  have hown : s.vm.findClass RX4 = some m.cls := findClass_of_methodNamed B9.named
  have hlocks := B9.notSynchronized
  have hS : gS s0 s.heap s.heap [] := va_S.rf
  have hRm : 1 ≤ (headSpec (Cond.code yX4_isPath cX4_isPath 2 (some .boolean) :: tg) ({ frames := 1, cells := 0, slots := 0, locals := 22 })).room.frames ∧ 22 ≤ (headSpec (Cond.code yX4_isPath cX4_isPath 2 (some .boolean) :: tg) ({ frames := 1, cells := 0, slots := 0, locals := 22 })).room.locals := ⟨Nat.le_refl _, Nat.le_refl _⟩
  have hcs : 0 + 0 ≤ (headSpec (Cond.code yX4_isPath cX4_isPath 2 (some .boolean) :: tg) ({ frames := 1, cells := 0, slots := 0, locals := 22 })).room.cells ∧ 0 + 0 ≤ (headSpec (Cond.code yX4_isPath cX4_isPath 2 (some .boolean) :: tg) ({ frames := 1, cells := 0, slots := 0, locals := 22 })).room.slots := ⟨Nat.zero_le _, Nat.zero_le _⟩
  have hl := lv_entry ([.ref h, .int (n)]) (n := 2) (Nat.le_of_ble_eq_true rfl)
  rw [lg_entry_eq]
  generalize (lg_sl ([.ref h, .int (n)]) ++ List.replicate (2 - (lg_sl ([.ref h, .int (n)])).length) Slot.unset).toArray = ls at hl ⊢
  have hl : lv_has ls 2 [(0, .ref h), (1, .int (n))] := hl
  refine lv_iload_n hx hb dX4_isPath_0 rfl (lv_at hl 1 rfl) ?_
  refine lv_iconst (v := nI 1) hx hb dX4_isPath_1 (by decide) ?_
  refine lv_aload_n hx hb dX4_isPath_2 rfl (lv_at hl 0 rfl) ?_
  refine wd_get (ci := 5) (v := .int (np)) (C := RX4) (T := TX4) (N := 21) hx hb hts iwX4 hown hK.1 hP (mW_0) rfl 8 (by decide) (hts _ (tg_tail _ tw_431)) (fun _ h9 => h9) rfl dX4_isPath_3 ?_
  refine cr_Si (As := [.int (n), .int (nI 1), .int (np)]) (rest := []) ⟨hx, hb, hml, hown, hts⟩ (c_X4_isBetween l g s0 (mW g w h rf nt np mo gb wr nr su pr ob ki fi se ta nd ii sp qu rF rT rD) n (nI 1) np) (cw_S 3 hts tg_tail tw_499 tw_500 tw_4 tw_501 rfl rfl (by decide +kernel) ⟨Nat.le_trans (by decide) hRm.1, Nat.le_trans (by decide) hRm.2⟩) hK hP h0s hS rfl hl.1 rfl (Nat.le_of_ble_eq_true rfl) dX4_isPath_6 hcs (fun r1 w9 H locs hw hP hS => ?_)
  obtain ⟨e_r1, hw9⟩ := hw
  rw [hw9] at hP
  exact W.zret (ty := .boolean) (v := r1) hx hb hr (by rw [e_r1]; exact zB_n) (fun t9 ht hW => ⟨⟨_, (mW g w h rf nt np mo gb wr nr su pr ob ki fi se ta nd ii sp qu rF rT rD), rfl, ⟨e_r1, rfl⟩, cB_of ht hP⟩, hS.F ht⟩) hS.2.2 dX4_isPath_9

