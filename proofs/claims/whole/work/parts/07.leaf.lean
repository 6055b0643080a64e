/-! LEAVES: the fields' words, then methods that write nothing -/
def zB (P : Prop) [Decidable P] : Int32 := if P then 1 else 0
theorem cB_of {g : gX} {w : wd_M} {t : State} {H : Heap} (ht : t.heap = H) (hP : gP g w H) : cB g w t := by
  show gP g w t.heap
  rw [ht]
  exact hP
theorem ti_32 : (nI 32).toInt = 32 := by decide
theorem ti_16 : (nI 16).toInt = 16 := by decide
theorem ivX0 : ∀ w ∈ u_ws RX0 TX0 10, w ∈ tg := by
  show ∀ w ∈ [u_lay RX0 TX0 0, u_lay RX0 TX0 1, u_lay RX0 TX0 2, u_lay RX0 TX0 3, u_lay RX0 TX0 4, u_lay RX0 TX0 5, u_lay RX0 TX0 6, u_lay RX0 TX0 7, u_lay RX0 TX0 8, u_lay RX0 TX0 9], w ∈ tg
  exact List.forall_mem_cons.mpr ⟨tw_134, List.forall_mem_cons.mpr ⟨tw_136, List.forall_mem_cons.mpr ⟨tw_138, List.forall_mem_cons.mpr ⟨tw_140, List.forall_mem_cons.mpr ⟨tw_142, List.forall_mem_cons.mpr ⟨tw_144, List.forall_mem_cons.mpr ⟨tw_146, List.forall_mem_cons.mpr ⟨tw_148, List.forall_mem_cons.mpr ⟨tw_150, List.forall_mem_cons.mpr ⟨tw_152, fun _ h => absurd h List.not_mem_nil⟩⟩⟩⟩⟩⟩⟩⟩⟩⟩
theorem iwX0 {x : Cond} : ∀ w ∈ u_ws RX0 TX0 10, w ∈ x :: tg := fun w h => List.mem_cons_of_mem _ (ivX0 w h)
theorem ivX1 : ∀ w ∈ u_ws RX1 TX1 5, w ∈ tg := by
  show ∀ w ∈ [u_lay RX1 TX1 0, u_lay RX1 TX1 1, u_lay RX1 TX1 2, u_lay RX1 TX1 3, u_lay RX1 TX1 4], w ∈ tg
  exact List.forall_mem_cons.mpr ⟨tw_58, List.forall_mem_cons.mpr ⟨tw_60, List.forall_mem_cons.mpr ⟨tw_62, List.forall_mem_cons.mpr ⟨tw_64, List.forall_mem_cons.mpr ⟨tw_66, fun _ h => absurd h List.not_mem_nil⟩⟩⟩⟩⟩
theorem iwX1 {x : Cond} : ∀ w ∈ u_ws RX1 TX1 5, w ∈ x :: tg := fun w h => List.mem_cons_of_mem _ (ivX1 w h)
theorem ivX2 : ∀ w ∈ u_ws RX2 TX2 3, w ∈ tg := by
  show ∀ w ∈ [u_lay RX2 TX2 0, u_lay RX2 TX2 1, u_lay RX2 TX2 2], w ∈ tg
  exact List.forall_mem_cons.mpr ⟨tw_33, List.forall_mem_cons.mpr ⟨tw_35, List.forall_mem_cons.mpr ⟨tw_37, fun _ h => absurd h List.not_mem_nil⟩⟩⟩
theorem iwX2 {x : Cond} : ∀ w ∈ u_ws RX2 TX2 3, w ∈ x :: tg := fun w h => List.mem_cons_of_mem _ (ivX2 w h)
theorem ivX3 : ∀ w ∈ u_ws RX3 TX3 6, w ∈ tg := by
  show ∀ w ∈ [u_lay RX3 TX3 0, u_lay RX3 TX3 1, u_lay RX3 TX3 2, u_lay RX3 TX3 3, u_lay RX3 TX3 4, u_lay RX3 TX3 5], w ∈ tg
  exact List.forall_mem_cons.mpr ⟨tw_75, List.forall_mem_cons.mpr ⟨tw_77, List.forall_mem_cons.mpr ⟨tw_79, List.forall_mem_cons.mpr ⟨tw_81, List.forall_mem_cons.mpr ⟨tw_83, List.forall_mem_cons.mpr ⟨tw_85, fun _ h => absurd h List.not_mem_nil⟩⟩⟩⟩⟩⟩
theorem iwX3 {x : Cond} : ∀ w ∈ u_ws RX3 TX3 6, w ∈ x :: tg := fun w h => List.mem_cons_of_mem _ (ivX3 w h)
theorem ivX4 : ∀ w ∈ u_ws RX4 TX4 21, w ∈ tg := by
  show ∀ w ∈ [u_lay RX4 TX4 0, u_lay RX4 TX4 1, u_lay RX4 TX4 2, u_lay RX4 TX4 3, u_lay RX4 TX4 4, u_lay RX4 TX4 5, u_lay RX4 TX4 6, u_lay RX4 TX4 7, u_lay RX4 TX4 8, u_lay RX4 TX4 9, u_lay RX4 TX4 10, u_lay RX4 TX4 11, u_lay RX4 TX4 12, u_lay RX4 TX4 13, u_lay RX4 TX4 14, u_lay RX4 TX4 15, u_lay RX4 TX4 16, u_lay RX4 TX4 17, u_lay RX4 TX4 18, u_lay RX4 TX4 19, u_lay RX4 TX4 20], w ∈ tg
  exact List.forall_mem_cons.mpr ⟨tw_444, List.forall_mem_cons.mpr ⟨tw_446, List.forall_mem_cons.mpr ⟨tw_448, List.forall_mem_cons.mpr ⟨tw_450, List.forall_mem_cons.mpr ⟨tw_452, List.forall_mem_cons.mpr ⟨tw_454, List.forall_mem_cons.mpr ⟨tw_456, List.forall_mem_cons.mpr ⟨tw_458, List.forall_mem_cons.mpr ⟨tw_460, List.forall_mem_cons.mpr ⟨tw_462, List.forall_mem_cons.mpr ⟨tw_464, List.forall_mem_cons.mpr ⟨tw_466, List.forall_mem_cons.mpr ⟨tw_468, List.forall_mem_cons.mpr ⟨tw_470, List.forall_mem_cons.mpr ⟨tw_472, List.forall_mem_cons.mpr ⟨tw_474, List.forall_mem_cons.mpr ⟨tw_476, List.forall_mem_cons.mpr ⟨tw_478, List.forall_mem_cons.mpr ⟨tw_480, List.forall_mem_cons.mpr ⟨tw_482, List.forall_mem_cons.mpr ⟨tw_484, fun _ h => absurd h List.not_mem_nil⟩⟩⟩⟩⟩⟩⟩⟩⟩⟩⟩⟩⟩⟩⟩⟩⟩⟩⟩⟩⟩
theorem iwX4 {x : Cond} : ∀ w ∈ u_ws RX4 TX4 21, w ∈ x :: tg := fun w h => List.mem_cons_of_mem _ (ivX4 w h)
abbrev pO (k kd li : Int32) (inn oth : Option Nat) (pa : Int64) (t j : Nat) (cs cg : Int32) : va_E := .inr (1, [.int k, .int kd, .int li, va_rf inn, va_rf oth, .long pa, .ref t, .ref j, .int cs, .int cg])
set_option maxHeartbeats 4000000 in
set_option maxRecDepth 100000 in
theorem c_X3_isNode (l : Launch) (g : gX) (s0 : Nat) (w : wd_M) (n : Int32) : Met l yX3_isNode (Cond.code yX3_isNode cX3_isNode 1 (some .boolean) :: tg) ({ frames := 0, cells := 0, slots := 0, locals := 0 }) (cP g s0 w [.int (n)]) (cI g s0 (fun r w' => r = zB (0 ≤ n ∧ n < nI 32) ∧ w' = w)) 0 0 (cA s0) := by
  refine Met.ofW (cc := cX3_isNode) (maxL := 1) (ret := some .boolean) (by decide) rfl ?_
  intro p e s m args below meth c s₁ B9 hml hv
  obtain ⟨rfl, h0s, hP, hK⟩ := hv
  have hx := B9.exec
  have hb := B9.bytes
  have hr := B9.returns
  have hts := atoms_spec (ws := Cond.code yX3_isNode cX3_isNode 1 (some .boolean) :: tg) B9.pre
  have hown : s.vm.findClass RX3 = some m.cls := findClass_of_methodNamed B9.named
  have hlocks := B9.notSynchronized
  have hS : gS s0 s.heap s.heap [] := va_S.rf
  have hRm : 0 ≤ (headSpec (Cond.code yX3_isNode cX3_isNode 1 (some .boolean) :: tg) ({ frames := 0, cells := 0, slots := 0, locals := 0 })).room.frames ∧ 0 ≤ (headSpec (Cond.code yX3_isNode cX3_isNode 1 (some .boolean) :: tg) ({ frames := 0, cells := 0, slots := 0, locals := 0 })).room.locals := ⟨Nat.le_refl _, Nat.le_refl _⟩
  have hcs : 0 + 0 ≤ (headSpec (Cond.code yX3_isNode cX3_isNode 1 (some .boolean) :: tg) ({ frames := 0, cells := 0, slots := 0, locals := 0 })).room.cells ∧ 0 + 0 ≤ (headSpec (Cond.code yX3_isNode cX3_isNode 1 (some .boolean) :: tg) ({ frames := 0, cells := 0, slots := 0, locals := 0 })).room.slots := ⟨Nat.zero_le _, Nat.zero_le _⟩
  have hl := lv_entry ([.int (n)]) (n := 1) (Nat.le_of_ble_eq_true rfl)
  rw [lg_entry_eq]
  generalize (lg_sl ([.int (n)]) ++ List.replicate (1 - (lg_sl ([.int (n)])).length) Slot.unset).toArray = ls at hl ⊢
  have hl : lv_has ls 1 [(0, .int (n))] := hl
  refine lv_iload_n hx hb dX3_isNode_0 rfl (lv_at hl 0 rfl) ?_
  refine lv_if_lt (tgt := 14) hx hb dX3_isNode_1 (by decide) (fun c_1 => ?_) (fun c_1 => ?_)
  · refine lv_iconst (v := nI 0) hx hb dX3_isNode_14 (by decide) ?_
    exact W.zret (ty := .boolean) (v := nI 0) hx hb hr (by rfl) (fun t9 ht hW => ⟨⟨_, w, rfl, ⟨by unfold zB; simp only [Int32.lt_iff_toInt_lt, Int32.le_iff_toInt_le, ti_32, ti_16, Int32.toInt_zero] at c_1 ⊢; split <;> first | rfl | (exfalso; omega), rfl⟩, cB_of ht hP⟩, hS.F ht⟩) hS.2.2 dX3_isNode_15
  · refine lv_iload_n hx hb dX3_isNode_4 rfl (lv_at hl 0 rfl) ?_
    refine lv_bipush (v := nI 32) hx hb dX3_isNode_5 (by decide) ?_
    refine lv_icmp_ge (tgt := 14) hx hb dX3_isNode_7 (by decide) (fun c_7 => ?_) (fun c_7 => ?_)
    · refine lv_iconst (v := nI 0) hx hb dX3_isNode_14 (by decide) ?_
      exact W.zret (ty := .boolean) (v := nI 0) hx hb hr (by rfl) (fun t9 ht hW => ⟨⟨_, w, rfl, ⟨by unfold zB; simp only [Int32.lt_iff_toInt_lt, Int32.le_iff_toInt_le, ti_32, ti_16, Int32.toInt_zero] at c_1 c_7 ⊢; split <;> first | rfl | (exfalso; omega), rfl⟩, cB_of ht hP⟩, hS.F ht⟩) hS.2.2 dX3_isNode_15
    · refine lv_iconst (v := nI 1) hx hb dX3_isNode_10 (by decide) ?_
      refine lv_goto (tgt := 15) hx hb dX3_isNode_11 (by decide) ?_
      exact W.zret (ty := .boolean) (v := nI 1) hx hb hr (by rfl) (fun t9 ht hW => ⟨⟨_, w, rfl, ⟨by unfold zB; simp only [Int32.lt_iff_toInt_lt, Int32.le_iff_toInt_le, ti_32, ti_16, Int32.toInt_zero] at c_1 c_7 ⊢; split <;> first | rfl | (exfalso; omega), rfl⟩, cB_of ht hP⟩, hS.F ht⟩) hS.2.2 dX3_isNode_15

set_option maxHeartbeats 4000000 in
set_option maxRecDepth 100000 in
theorem c_X3_isPredicate (l : Launch) (g : gX) (s0 : Nat) (w : wd_M) (n : Int32) : Met l yX3_isPredicate (Cond.code yX3_isPredicate cX3_isPredicate 1 (some .boolean) :: tg) ({ frames := 0, cells := 0, slots := 0, locals := 0 }) (cP g s0 w [.int (n)]) (cI g s0 (fun r w' => r = zB (0 ≤ n ∧ n < nI 16) ∧ w' = w)) 0 0 (cA s0) := by
  refine Met.ofW (cc := cX3_isPredicate) (maxL := 1) (ret := some .boolean) (by decide) rfl ?_
  intro p e s m args below meth c s₁ B9 hml hv
  obtain ⟨rfl, h0s, hP, hK⟩ := hv
  have hx := B9.exec
  have hb := B9.bytes
  have hr := B9.returns
  have hts := atoms_spec (ws := Cond.code yX3_isPredicate cX3_isPredicate 1 (some .boolean) :: tg) B9.pre
  have hown : s.vm.findClass RX3 = some m.cls := findClass_of_methodNamed B9.named
  have hlocks := B9.notSynchronized
  have hS : gS s0 s.heap s.heap [] := va_S.rf
  have hRm : 0 ≤ (headSpec (Cond.code yX3_isPredicate cX3_isPredicate 1 (some .boolean) :: tg) ({ frames := 0, cells := 0, slots := 0, locals := 0 })).room.frames ∧ 0 ≤ (headSpec (Cond.code yX3_isPredicate cX3_isPredicate 1 (some .boolean) :: tg) ({ frames := 0, cells := 0, slots := 0, locals := 0 })).room.locals := ⟨Nat.le_refl _, Nat.le_refl _⟩
  have hcs : 0 + 0 ≤ (headSpec (Cond.code yX3_isPredicate cX3_isPredicate 1 (some .boolean) :: tg) ({ frames := 0, cells := 0, slots := 0, locals := 0 })).room.cells ∧ 0 + 0 ≤ (headSpec (Cond.code yX3_isPredicate cX3_isPredicate 1 (some .boolean) :: tg) ({ frames := 0, cells := 0, slots := 0, locals := 0 })).room.slots := ⟨Nat.zero_le _, Nat.zero_le _⟩
  have hl := lv_entry ([.int (n)]) (n := 1) (Nat.le_of_ble_eq_true rfl)
  rw [lg_entry_eq]
  generalize (lg_sl ([.int (n)]) ++ List.replicate (1 - (lg_sl ([.int (n)])).length) Slot.unset).toArray = ls at hl ⊢
  have hl : lv_has ls 1 [(0, .int (n))] := hl
  refine lv_iload_n hx hb dX3_isPredicate_0 rfl (lv_at hl 0 rfl) ?_
  refine lv_if_lt (tgt := 14) hx hb dX3_isPredicate_1 (by decide) (fun c_1 => ?_) (fun c_1 => ?_)
  · refine lv_iconst (v := nI 0) hx hb dX3_isPredicate_14 (by decide) ?_
    exact W.zret (ty := .boolean) (v := nI 0) hx hb hr (by rfl) (fun t9 ht hW => ⟨⟨_, w, rfl, ⟨by unfold zB; simp only [Int32.lt_iff_toInt_lt, Int32.le_iff_toInt_le, ti_32, ti_16, Int32.toInt_zero] at c_1 ⊢; split <;> first | rfl | (exfalso; omega), rfl⟩, cB_of ht hP⟩, hS.F ht⟩) hS.2.2 dX3_isPredicate_15
  · refine lv_iload_n hx hb dX3_isPredicate_4 rfl (lv_at hl 0 rfl) ?_
    refine lv_bipush (v := nI 16) hx hb dX3_isPredicate_5 (by decide) ?_
    refine lv_icmp_ge (tgt := 14) hx hb dX3_isPredicate_7 (by decide) (fun c_7 => ?_) (fun c_7 => ?_)
    · refine lv_iconst (v := nI 0) hx hb dX3_isPredicate_14 (by decide) ?_
      exact W.zret (ty := .boolean) (v := nI 0) hx hb hr (by rfl) (fun t9 ht hW => ⟨⟨_, w, rfl, ⟨by unfold zB; simp only [Int32.lt_iff_toInt_lt, Int32.le_iff_toInt_le, ti_32, ti_16, Int32.toInt_zero] at c_1 c_7 ⊢; split <;> first | rfl | (exfalso; omega), rfl⟩, cB_of ht hP⟩, hS.F ht⟩) hS.2.2 dX3_isPredicate_15
    · refine lv_iconst (v := nI 1) hx hb dX3_isPredicate_10 (by decide) ?_
      refine lv_goto (tgt := 15) hx hb dX3_isPredicate_11 (by decide) ?_
      exact W.zret (ty := .boolean) (v := nI 1) hx hb hr (by rfl) (fun t9 ht hW => ⟨⟨_, w, rfl, ⟨by unfold zB; simp only [Int32.lt_iff_toInt_lt, Int32.le_iff_toInt_le, ti_32, ti_16, Int32.toInt_zero] at c_1 c_7 ⊢; split <;> first | rfl | (exfalso; omega), rfl⟩, cB_of ht hP⟩, hS.F ht⟩) hS.2.2 dX3_isPredicate_15

set_option maxHeartbeats 4000000 in
set_option maxRecDepth 100000 in
theorem c_X4_isBetween (l : Launch) (g : gX) (s0 : Nat) (w : wd_M) (v a b : Int32) : Met l yX4_isBetween (Cond.code yX4_isBetween cX4_isBetween 3 (some .boolean) :: tg) ({ frames := 0, cells := 0, slots := 0, locals := 0 }) (cP g s0 w [.int (v), .int (a), .int (b)]) (cI g s0 (fun r w' => r = zB (a ≤ v ∧ v ≤ b) ∧ w' = w)) 0 0 (cA s0) := by
  refine Met.ofW (cc := cX4_isBetween) (maxL := 3) (ret := some .boolean) (by decide) rfl ?_
  intro p e s m args below meth c s₁ B9 hml hv
  obtain ⟨rfl, h0s, hP, hK⟩ := hv
  have hx := B9.exec
  have hb := B9.bytes
  have hr := B9.returns
  have hts := atoms_spec (ws := Cond.code yX4_isBetween cX4_isBetween 3 (some .boolean) :: tg) B9.pre
  have hown : s.vm.findClass RX4 = some m.cls := findClass_of_methodNamed B9.named
  have hlocks := B9.notSynchronized
  have hS : gS s0 s.heap s.heap [] := va_S.rf
  have hRm : 0 ≤ (headSpec (Cond.code yX4_isBetween cX4_isBetween 3 (some .boolean) :: tg) ({ frames := 0, cells := 0, slots := 0, locals := 0 })).room.frames ∧ 0 ≤ (headSpec (Cond.code yX4_isBetween cX4_isBetween 3 (some .boolean) :: tg) ({ frames := 0, cells := 0, slots := 0, locals := 0 })).room.locals := ⟨Nat.le_refl _, Nat.le_refl _⟩
  have hcs : 0 + 0 ≤ (headSpec (Cond.code yX4_isBetween cX4_isBetween 3 (some .boolean) :: tg) ({ frames := 0, cells := 0, slots := 0, locals := 0 })).room.cells ∧ 0 + 0 ≤ (headSpec (Cond.code yX4_isBetween cX4_isBetween 3 (some .boolean) :: tg) ({ frames := 0, cells := 0, slots := 0, locals := 0 })).room.slots := ⟨Nat.zero_le _, Nat.zero_le _⟩
  have hl := lv_entry ([.int (v), .int (a), .int (b)]) (n := 3) (Nat.le_of_ble_eq_true rfl)
  rw [lg_entry_eq]
  generalize (lg_sl ([.int (v), .int (a), .int (b)]) ++ List.replicate (3 - (lg_sl ([.int (v), .int (a), .int (b)])).length) Slot.unset).toArray = ls at hl ⊢
  have hl : lv_has ls 3 [(0, .int (v)), (1, .int (a)), (2, .int (b))] := hl
  refine lv_iload_n hx hb dX4_isBetween_0 rfl (lv_at hl 0 rfl) ?_
  refine lv_iload_n hx hb dX4_isBetween_1 rfl (lv_at hl 1 rfl) ?_
  refine lv_icmp_lt (tgt := 14) hx hb dX4_isBetween_2 (by decide) (fun c_2 => ?_) (fun c_2 => ?_)
  · refine lv_iconst (v := nI 0) hx hb dX4_isBetween_14 (by decide) ?_
    exact W.zret (ty := .boolean) (v := nI 0) hx hb hr (by rfl) (fun t9 ht hW => ⟨⟨_, w, rfl, ⟨by unfold zB; simp only [Int32.lt_iff_toInt_lt, Int32.le_iff_toInt_le, ti_32, ti_16, Int32.toInt_zero] at c_2 ⊢; split <;> first | rfl | (exfalso; omega), rfl⟩, cB_of ht hP⟩, hS.F ht⟩) hS.2.2 dX4_isBetween_15
  · refine lv_iload_n hx hb dX4_isBetween_5 rfl (lv_at hl 0 rfl) ?_
    refine lv_iload_n hx hb dX4_isBetween_6 rfl (lv_at hl 2 rfl) ?_
    refine lv_icmp_gt (tgt := 14) hx hb dX4_isBetween_7 (by decide) (fun c_7 => ?_) (fun c_7 => ?_)
    · refine lv_iconst (v := nI 0) hx hb dX4_isBetween_14 (by decide) ?_
      exact W.zret (ty := .boolean) (v := nI 0) hx hb hr (by rfl) (fun t9 ht hW => ⟨⟨_, w, rfl, ⟨by unfold zB; simp only [Int32.lt_iff_toInt_lt, Int32.le_iff_toInt_le, ti_32, ti_16, Int32.toInt_zero] at c_2 c_7 ⊢; split <;> first | rfl | (exfalso; omega), rfl⟩, cB_of ht hP⟩, hS.F ht⟩) hS.2.2 dX4_isBetween_15
    · refine lv_iconst (v := nI 1) hx hb dX4_isBetween_10 (by decide) ?_
      refine lv_goto (tgt := 15) hx hb dX4_isBetween_11 (by decide) ?_
      exact W.zret (ty := .boolean) (v := nI 1) hx hb hr (by rfl) (fun t9 ht hW => ⟨⟨_, w, rfl, ⟨by unfold zB; simp only [Int32.lt_iff_toInt_lt, Int32.le_iff_toInt_le, ti_32, ti_16, Int32.toInt_zero] at c_2 c_7 ⊢; split <;> first | rfl | (exfalso; omega), rfl⟩, cB_of ht hP⟩, hS.F ht⟩) hS.2.2 dX4_isBetween_15

set_option maxHeartbeats 4000000 in
set_option maxRecDepth 100000 in
theorem c_X0_timesOf (l : Launch) (g : gX) (s0 : Nat) (w : wd_M) (h0 t j : Nat) (k kd li : Int32) (inn oth : Option Nat) (pa : Int64) (cs cg : Int32) (Lh : w h0 = some (pO k kd li inn oth pa t j cs cg)) (f : Nat → Int32) (Lt : w t = some (wd_iA (g.2 0) 1024 f)) (x y : Nat) (hx1 : x < 32) (hy1 : y < 32) : Met l yX0_timesOf (Cond.code yX0_timesOf cX0_timesOf 3 (some .int) :: tg) ({ frames := 0, cells := 0, slots := 0, locals := 0 }) (cP g s0 w [.ref h0, .int (nI x), .int (nI y)]) (cI g s0 (fun r w' => r = f (x * 32 + y) ∧ w' = w)) 0 0 (cA s0) := by
  refine Met.ofW (cc := cX0_timesOf) (maxL := 3) (ret := some .int) (by decide) rfl ?_
  intro p e s m args below meth c s₁ B9 hml hv
  obtain ⟨rfl, h0s, hP, hK⟩ := hv
  have hx := B9.exec
  have hb := B9.bytes
  have hr := B9.returns
  have hts := atoms_spec (ws := Cond.code yX0_timesOf cX0_timesOf 3 (some .int) :: tg) B9.pre
  have hown : s.vm.findClass RX0 = some m.cls := findClass_of_methodNamed B9.named
  have hlocks := B9.notSynchronized
  have hS : gS s0 s.heap s.heap [] := va_S.rf
  have hRm : 0 ≤ (headSpec (Cond.code yX0_timesOf cX0_timesOf 3 (some .int) :: tg) ({ frames := 0, cells := 0, slots := 0, locals := 0 })).room.frames ∧ 0 ≤ (headSpec (Cond.code yX0_timesOf cX0_timesOf 3 (some .int) :: tg) ({ frames := 0, cells := 0, slots := 0, locals := 0 })).room.locals := ⟨Nat.le_refl _, Nat.le_refl _⟩
  have hcs : 0 + 0 ≤ (headSpec (Cond.code yX0_timesOf cX0_timesOf 3 (some .int) :: tg) ({ frames := 0, cells := 0, slots := 0, locals := 0 })).room.cells ∧ 0 + 0 ≤ (headSpec (Cond.code yX0_timesOf cX0_timesOf 3 (some .int) :: tg) ({ frames := 0, cells := 0, slots := 0, locals := 0 })).room.slots := ⟨Nat.zero_le _, Nat.zero_le _⟩
  have hl := lv_entry ([.ref h0, .int (nI x), .int (nI y)]) (n := 3) (Nat.le_of_ble_eq_true rfl)
  rw [lg_entry_eq]
  generalize (lg_sl ([.ref h0, .int (nI x), .int (nI y)]) ++ List.replicate (3 - (lg_sl ([.ref h0, .int (nI x), .int (nI y)])).length) Slot.unset).toArray = ls at hl ⊢
  have hl : lv_has ls 3 [(0, .ref h0), (1, .int (nI x)), (2, .int (nI y))] := hl
  refine lv_aload_n hx hb dX0_timesOf_0 rfl (lv_at hl 0 rfl) ?_
  refine wd_get (ci := 1) (v := .ref t) (C := RX0) (T := TX0) (N := 10) hx hb hts iwX0 hown hK.1 hP (Lh) rfl 6 (by decide) (hts _ (tg_tail _ tw_129)) (fun _ h9 => h9) rfl dX0_timesOf_1 ?_
  refine lv_iload_n hx hb dX0_timesOf_4 rfl (lv_at hl 1 rfl) ?_
  refine lv_bipush (v := nI 32) hx hb dX0_timesOf_5 (by decide) ?_
  refine lv_imul hx hb dX0_timesOf_7 ?_
  refine wd_ti (x' := nI (x * 32)) (pk_mul _ _) ?_
  refine lv_iload_n hx hb dX0_timesOf_8 rfl (lv_at hl 2 rfl) ?_
  refine lv_iadd hx hb dX0_timesOf_9 ?_
  refine wd_ti (x' := nI ((x * 32) + y)) (nI_add _ _) ?_
  refine wd_ildN hx hb hK.1 hP 0 (k := ((x * 32) + y)) (Lt) rfl (by omega) (by decide) dX0_timesOf_10 ?_
  exact W.iret (v := f ((x * 32) + y)) hx hb hr (fun t9 ht hW => ⟨⟨_, w, rfl, ⟨rfl, rfl⟩, cB_of ht hP⟩, hS.F ht⟩) hS.2.2 dX0_timesOf_11

set_option maxHeartbeats 4000000 in
set_option maxRecDepth 100000 in
theorem c_X0_walks (l : Launch) (g : gX) (s0 : Nat) (w : wd_M) (h0 t j : Nat) (k kd li : Int32) (inn oth : Option Nat) (pa : Int64) (cs cg : Int32) (Lh : w h0 = some (pO k kd li inn oth pa t j cs cg)) : Met l yX0_walks (Cond.code yX0_walks cX0_walks 1 (some .boolean) :: tg) ({ frames := 0, cells := 0, slots := 0, locals := 0 }) (cP g s0 w [.ref h0]) (cI g s0 (fun r w' => r = zB (kd = nI 4 ∨ kd = nI 5) ∧ w' = w)) 0 0 (cA s0) := by
  refine Met.ofW (cc := cX0_walks) (maxL := 1) (ret := some .boolean) (by decide) rfl ?_
  intro p e s m args below meth c s₁ B9 hml hv
  obtain ⟨rfl, h0s, hP, hK⟩ := hv
  have hx := B9.exec
  have hb := B9.bytes
  have hr := B9.returns
  have hts := atoms_spec (ws := Cond.code yX0_walks cX0_walks 1 (some .boolean) :: tg) B9.pre
  have hown : s.vm.findClass RX0 = some m.cls := findClass_of_methodNamed B9.named
  have hlocks := B9.notSynchronized
  have hS : gS s0 s.heap s.heap [] := va_S.rf
  have hRm : 0 ≤ (headSpec (Cond.code yX0_walks cX0_walks 1 (some .boolean) :: tg) ({ frames := 0, cells := 0, slots := 0, locals := 0 })).room.frames ∧ 0 ≤ (headSpec (Cond.code yX0_walks cX0_walks 1 (some .boolean) :: tg) ({ frames := 0, cells := 0, slots := 0, locals := 0 })).room.locals := ⟨Nat.le_refl _, Nat.le_refl _⟩
  have hcs : 0 + 0 ≤ (headSpec (Cond.code yX0_walks cX0_walks 1 (some .boolean) :: tg) ({ frames := 0, cells := 0, slots := 0, locals := 0 })).room.cells ∧ 0 + 0 ≤ (headSpec (Cond.code yX0_walks cX0_walks 1 (some .boolean) :: tg) ({ frames := 0, cells := 0, slots := 0, locals := 0 })).room.slots := ⟨Nat.zero_le _, Nat.zero_le _⟩
  have hl := lv_entry ([.ref h0]) (n := 1) (Nat.le_of_ble_eq_true rfl)
  rw [lg_entry_eq]
  generalize (lg_sl ([.ref h0]) ++ List.replicate (1 - (lg_sl ([.ref h0])).length) Slot.unset).toArray = ls at hl ⊢
  have hl : lv_has ls 1 [(0, .ref h0)] := hl
  refine lv_aload_n hx hb dX0_walks_0 rfl (lv_at hl 0 rfl) ?_
  refine wd_get (ci := 1) (v := .int (kd)) (C := RX0) (T := TX0) (N := 10) hx hb hts iwX0 hown hK.1 hP (Lh) rfl 1 (by decide) (hts _ (tg_tail _ tw_124)) (fun _ h9 => h9) rfl dX0_walks_1 ?_
  refine lv_iconst (v := nI 4) hx hb dX0_walks_4 (by decide) ?_
  refine lv_icmp_eq (tgt := 16) hx hb dX0_walks_5 (by decide) (fun c_5 => ?_) (fun c_5 => ?_)
  · refine lv_iconst (v := nI 1) hx hb dX0_walks_16 (by decide) ?_
    refine lv_goto (tgt := 21) hx hb dX0_walks_17 (by decide) ?_
    exact W.zret (ty := .boolean) (v := nI 1) hx hb hr (by rfl) (fun t9 ht hW => ⟨⟨_, w, rfl, ⟨by unfold zB; simp only [c_5]; rfl, rfl⟩, cB_of ht hP⟩, hS.F ht⟩) hS.2.2 dX0_walks_21
  · refine lv_aload_n hx hb dX0_walks_8 rfl (lv_at hl 0 rfl) ?_
    refine wd_get (ci := 1) (v := .int (kd)) (C := RX0) (T := TX0) (N := 10) hx hb hts iwX0 hown hK.1 hP (Lh) rfl 1 (by decide) (hts _ (tg_tail _ tw_124)) (fun _ h9 => h9) rfl dX0_walks_9 ?_
    refine lv_iconst (v := nI 5) hx hb dX0_walks_12 (by decide) ?_
    refine lv_icmp_ne (tgt := 20) hx hb dX0_walks_13 (by decide) (fun c_13 => ?_) (fun c_13 => ?_)
    · refine lv_iconst (v := nI 0) hx hb dX0_walks_20 (by decide) ?_
      exact W.zret (ty := .boolean) (v := nI 0) hx hb hr (by rfl) (fun t9 ht hW => ⟨⟨_, w, rfl, ⟨by unfold zB; simp only [c_5, c_13]; rfl, rfl⟩, cB_of ht hP⟩, hS.F ht⟩) hS.2.2 dX0_walks_21
    · refine lv_iconst (v := nI 1) hx hb dX0_walks_16 (by decide) ?_
      refine lv_goto (tgt := 21) hx hb dX0_walks_17 (by decide) ?_
      exact W.zret (ty := .boolean) (v := nI 1) hx hb hr (by rfl) (fun t9 ht hW => ⟨⟨_, w, rfl, ⟨by unfold zB; simp only [c_5, c_13]; rfl, rfl⟩, cB_of ht hP⟩, hS.F ht⟩) hS.2.2 dX0_walks_21

