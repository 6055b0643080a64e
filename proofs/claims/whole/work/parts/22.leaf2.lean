/-! BITS (pasted from kit/laws/BITS.to-paste), and THE CLASS: leaves -/
def bt (x : Int32) (i : Nat) : Bool := x.toBitVec.getLsbD i
theorem b_ext {x y : Int32} (h : ∀ i, i < 32 → bt x i = bt y i) : x = y := Int32.toBitVec_inj.mp (BitVec.eq_of_getLsbD_eq (fun i hi => h i hi))
theorem b_or (x y : Int32) (i : Nat) : bt (x ||| y) i = (bt x i || bt y i) := by unfold bt; rw [Int32.toBitVec_or, BitVec.getLsbD_or]
theorem b_and (x y : Int32) (i : Nat) : bt (x &&& y) i = (bt x i && bt y i) := by unfold bt; rw [Int32.toBitVec_and, BitVec.getLsbD_and]
theorem b_xor (x y : Int32) (i : Nat) : bt (x ^^^ y) i = (bt x i ^^ bt y i) := by unfold bt; rw [Int32.toBitVec_xor, BitVec.getLsbD_xor]
theorem b_big {x : Int32} {i : Nat} (h : 32 ≤ i) : bt x i = false := BitVec.getLsbD_of_ge _ _ h
theorem b_255 (i : Nat) : bt 255 i = decide (i < 8) := by
  rcases Nat.lt_or_ge i 32 with h | h
  · exact (by decide +kernel : ∀ i, i < 32 → bt 255 i = decide (i < 8)) i h
  · rw [b_big h, decide_eq_false (by omega)]
theorem b_65535 (i : Nat) : bt 65535 i = decide (i < 16) := by
  rcases Nat.lt_or_ge i 32 with h | h
  · exact (by decide +kernel : ∀ i, i < 32 → bt 65535 i = decide (i < 16)) i h
  · rw [b_big h, decide_eq_false (by omega)]
theorem b_m1 : ∀ i, i < 32 → bt (-1) i = true := by decide +kernel
theorem b_0 (i : Nat) : bt 0 i = false := BitVec.getLsbD_zero
theorem s_l : ∀ n, n < 32 → ((nI n &&& 31).toBitVec.smod 32).toNat = n := by decide +kernel
theorem s_u : ∀ n, n < 32 → (((nI n).toUInt32 &&& Int32.toUInt32 31).toBitVec % 32).toNat = n := by decide +kernel
theorem b_shl (n : Nat) (hn : n < 32) (x : Int32) {i : Nat} (hi : i < 32) : bt (x <<< (nI n &&& 31)) i = (decide (n ≤ i) && bt x (i - n)) := by
  unfold bt
  rw [Int32.toBitVec_shiftLeft]
  show (x.toBitVec <<< ((nI n &&& 31).toBitVec.smod 32).toNat).getLsbD i = _
  rw [s_l n hn, BitVec.getLsbD_shiftLeft]
  rcases Nat.lt_or_ge i n with h | h
  · simp [h, Nat.not_le.mpr h]
  · simp [hi, h, Nat.not_lt.mpr h]
theorem b_ushr (n : Nat) (hn : n < 32) (x : Int32) (i : Nat) : bt ((x.toUInt32 >>> ((nI n).toUInt32 &&& Int32.toUInt32 31)).toInt32) i = bt x (n + i) := by
  show (x.toUInt32 >>> ((nI n).toUInt32 &&& Int32.toUInt32 31)).toBitVec.getLsbD i = x.toUInt32.toBitVec.getLsbD (n + i)
  rw [UInt32.toBitVec_shiftRight]
  show (x.toUInt32.toBitVec >>> (((nI n).toUInt32 &&& Int32.toUInt32 31).toBitVec % 32).toNat).getLsbD i = _
  rw [s_u n hn, BitVec.getLsbD_ushiftRight]
theorem b_sshr (n : Nat) (hn : n < 32) (x : Int32) {i : Nat} (hi : i < 32) : bt (x >>> (nI n &&& 31)) i = if n + i < 32 then bt x (n + i) else bt x 31 := by
  unfold bt
  rw [Int32.toBitVec_shiftRight]
  show (x.toBitVec.sshiftRight ((nI n &&& 31).toBitVec.smod 32).toNat).getLsbD i = _
  rw [s_l n hn, BitVec.getLsbD_sshiftRight, BitVec.msb_eq_getLsbD_last]
  simp [hi]
theorem b_shl8 (x : Int32) {i : Nat} (hi : i < 32) : bt (x <<< ((8 : Int32) &&& 31)) i = (decide (8 ≤ i) && bt x (i - 8)) := b_shl 8 (by omega) x hi
theorem b_shl16 (x : Int32) {i : Nat} (hi : i < 32) : bt (x <<< ((16 : Int32) &&& 31)) i = (decide (16 ≤ i) && bt x (i - 16)) := b_shl 16 (by omega) x hi
theorem b_shl24 (x : Int32) {i : Nat} (hi : i < 32) : bt (x <<< ((24 : Int32) &&& 31)) i = (decide (24 ≤ i) && bt x (i - 24)) := b_shl 24 (by omega) x hi
theorem b_sshr8 (x : Int32) {i : Nat} (hi : i < 32) : bt (x >>> ((8 : Int32) &&& 31)) i = if 8 + i < 32 then bt x (8 + i) else bt x 31 := b_sshr 8 (by omega) x hi
theorem bT {b : Bool} (h : ¬ b = false) : b = true := by cases b <;> simp_all
abbrev sh1 (k : Nat) : Int32 := (1 : Int32) <<< (nI k &&& 31)
theorem b_1 (i : Nat) (hi : i < 32) : bt 1 i = decide (i = 0) := by
  have h : ∀ i, i < 32 → bt 1 i = decide (i = 0) := by decide +kernel
  exact h i hi
theorem b_sh (k i : Nat) (hk : k < 32) (hi : i < 32) : bt (sh1 k) i = decide (i = k) := by
  unfold sh1
  rw [b_shl k hk 1 hi]
  by_cases h : k ≤ i
  · rw [b_1 (i - k) (by omega)]
    simp only [h, decide_true, Bool.true_and]
    by_cases h2 : i = k
    · simp [h2]
    · have : ¬ i - k = 0 := by omega
      simp [h2, this]
  · have : ¬ i = k := by omega
    simp [h, this]
theorem b_an1 (y : Int32) : y &&& 1 = 0 ↔ bt y 0 = false := by
  constructor
  · intro h
    have h1 : bt (y &&& 1) 0 = bt 0 0 := by rw [h]
    rw [b_and, b_1 0 (by decide), b_0] at h1
    simpa using h1
  · intro h
    refine b_ext (fun i hi => ?_)
    rw [b_and, b_1 i hi, b_0]
    by_cases h2 : i = 0
    · subst h2; rw [h]; rfl
    · simp [h2]
abbrev ush (x : Int32) (k : Nat) : Int32 := (x.toUInt32 >>> ((nI k).toUInt32 &&& Int32.toUInt32 31)).toInt32
theorem b_ush0 (x : Int32) (k : Nat) (hk : k < 32) : (ush x k) &&& 1 = 0 ↔ bt x k = false := by
  rw [b_an1]
  unfold ush
  rw [b_ushr k hk x 0, Nat.add_zero]
theorem b_ush1 (x : Int32) (k : Nat) (hk : k < 32) : (ush x k) &&& 1 = if bt x k = true then nI 1 else nI 0 := by
  refine b_ext (fun i hi => ?_)
  rw [b_and, b_1 i hi]
  unfold ush
  rw [b_ushr k hk x i]
  by_cases h2 : i = 0
  · subst h2
    rw [Nat.add_zero]
    cases h : bt x k
    · simp; decide
    · simp; decide
  · simp only [h2, decide_false, Bool.and_false]
    cases h : bt x k
    · simp; exact b_0 i
    · simp
      have := b_1 i hi
      rw [show (nI 1) = (1 : Int32) from rfl, this]
      simp [h2]
set_option maxHeartbeats 4000000 in
set_option maxRecDepth 100000 in
theorem c_X3_lowest (l : Launch) (g : gX) (s0 : Nat) (w : wd_M) (v : Int32) : Met l yX3_lowest (Cond.code yX3_lowest cX3_lowest 1 (some .int) :: tg) ({ frames := 0, cells := 0, slots := 0, locals := 0 }) (cP g s0 w [.int (v)]) (cI g s0 (fun r w' => r = (if v = -1 then nI 0 else v) ∧ w' = w)) 0 0 (cA s0) := by
  refine Met.ofW (cc := cX3_lowest) (maxL := 1) (ret := some .int) (by decide) rfl ?_
  intro p e s m args below meth c s₁ B9 hml hv
  obtain ⟨rfl, h0s, hP, hK⟩ := hv
  have hx := B9.exec
  have hb := B9.bytes
  have hr := B9.returns
  have hts := atoms_spec (ws := Cond.code yX3_lowest cX3_lowest 1 (some .int) :: tg) B9.pre
  have hown : s.vm.findClass RX3 = some m.cls := findClass_of_methodNamed B9.named
  have hlocks := B9.notSynchronized
  have hS : gS s0 s.heap s.heap [] := va_S.rf
  have hRm : 0 ≤ (headSpec (Cond.code yX3_lowest cX3_lowest 1 (some .int) :: tg) ({ frames := 0, cells := 0, slots := 0, locals := 0 })).room.frames ∧ 0 ≤ (headSpec (Cond.code yX3_lowest cX3_lowest 1 (some .int) :: tg) ({ frames := 0, cells := 0, slots := 0, locals := 0 })).room.locals := ⟨Nat.le_refl _, Nat.le_refl _⟩
  have hcs : 0 + 0 ≤ (headSpec (Cond.code yX3_lowest cX3_lowest 1 (some .int) :: tg) ({ frames := 0, cells := 0, slots := 0, locals := 0 })).room.cells ∧ 0 + 0 ≤ (headSpec (Cond.code yX3_lowest cX3_lowest 1 (some .int) :: tg) ({ frames := 0, cells := 0, slots := 0, locals := 0 })).room.slots := ⟨Nat.zero_le _, Nat.zero_le _⟩
  have hl := lv_entry ([.int (v)]) (n := 1) (Nat.le_of_ble_eq_true rfl)
  rw [lg_entry_eq]
  generalize (lg_sl ([.int (v)]) ++ List.replicate (1 - (lg_sl ([.int (v)])).length) Slot.unset).toArray = ls at hl ⊢
  have hl : lv_has ls 1 [(0, .int (v))] := hl
  refine lv_iload_n hx hb dX3_lowest_0 rfl (lv_at hl 0 rfl) ?_
  refine lv_iconst (v := (-1)) hx hb dX3_lowest_1 (by decide) ?_
  refine lv_icmp_ne (tgt := 9) hx hb dX3_lowest_2 (by decide) (fun c_2 => ?_) (fun c_2 => ?_)
  · refine lv_iload_n hx hb dX3_lowest_9 rfl (lv_at hl 0 rfl) ?_
    exact W.iret (v := v) hx hb hr (fun t9 ht hW => ⟨⟨_, w, rfl, ⟨by rw [if_neg c_2], rfl⟩, cB_of ht hP⟩, hS.F ht⟩) hS.2.2 dX3_lowest_10
  · refine lv_iconst (v := nI 0) hx hb dX3_lowest_5 (by decide) ?_
    refine lv_goto (tgt := 10) hx hb dX3_lowest_6 (by decide) ?_
    exact W.iret (v := nI 0) hx hb hr (fun t9 ht hW => ⟨⟨_, w, rfl, ⟨by rw [if_pos c_2], rfl⟩, cB_of ht hP⟩, hS.F ht⟩) hS.2.2 dX3_lowest_10

set_option maxHeartbeats 4000000 in
set_option maxRecDepth 100000 in
theorem c_X3_highest (l : Launch) (g : gX) (s0 : Nat) (w : wd_M) (v : Int32) : Met l yX3_highest (Cond.code yX3_highest cX3_highest 1 (some .int) :: tg) ({ frames := 0, cells := 0, slots := 0, locals := 0 }) (cP g s0 w [.int (v)]) (cI g s0 (fun r w' => r = (if v = -1 then nI 31 else v) ∧ w' = w)) 0 0 (cA s0) := by
  refine Met.ofW (cc := cX3_highest) (maxL := 1) (ret := some .int) (by decide) rfl ?_
  intro p e s m args below meth c s₁ B9 hml hv
  obtain ⟨rfl, h0s, hP, hK⟩ := hv
  have hx := B9.exec
  have hb := B9.bytes
  have hr := B9.returns
  have hts := atoms_spec (ws := Cond.code yX3_highest cX3_highest 1 (some .int) :: tg) B9.pre
  have hown : s.vm.findClass RX3 = some m.cls := findClass_of_methodNamed B9.named
  have hlocks := B9.notSynchronized
  have hS : gS s0 s.heap s.heap [] := va_S.rf
  have hRm : 0 ≤ (headSpec (Cond.code yX3_highest cX3_highest 1 (some .int) :: tg) ({ frames := 0, cells := 0, slots := 0, locals := 0 })).room.frames ∧ 0 ≤ (headSpec (Cond.code yX3_highest cX3_highest 1 (some .int) :: tg) ({ frames := 0, cells := 0, slots := 0, locals := 0 })).room.locals := ⟨Nat.le_refl _, Nat.le_refl _⟩
  have hcs : 0 + 0 ≤ (headSpec (Cond.code yX3_highest cX3_highest 1 (some .int) :: tg) ({ frames := 0, cells := 0, slots := 0, locals := 0 })).room.cells ∧ 0 + 0 ≤ (headSpec (Cond.code yX3_highest cX3_highest 1 (some .int) :: tg) ({ frames := 0, cells := 0, slots := 0, locals := 0 })).room.slots := ⟨Nat.zero_le _, Nat.zero_le _⟩
  have hl := lv_entry ([.int (v)]) (n := 1) (Nat.le_of_ble_eq_true rfl)
  rw [lg_entry_eq]
  generalize (lg_sl ([.int (v)]) ++ List.replicate (1 - (lg_sl ([.int (v)])).length) Slot.unset).toArray = ls at hl ⊢
  have hl : lv_has ls 1 [(0, .int (v))] := hl
  refine lv_iload_n hx hb dX3_highest_0 rfl (lv_at hl 0 rfl) ?_
  refine lv_iconst (v := (-1)) hx hb dX3_highest_1 (by decide) ?_
  refine lv_icmp_ne (tgt := 10) hx hb dX3_highest_2 (by decide) (fun c_2 => ?_) (fun c_2 => ?_)
  · refine lv_iload_n hx hb dX3_highest_10 rfl (lv_at hl 0 rfl) ?_
    exact W.iret (v := v) hx hb hr (fun t9 ht hW => ⟨⟨_, w, rfl, ⟨by rw [if_neg c_2], rfl⟩, cB_of ht hP⟩, hS.F ht⟩) hS.2.2 dX3_highest_11
  · refine lv_bipush (v := nI 31) hx hb dX3_highest_5 (by decide) ?_
    refine lv_goto (tgt := 11) hx hb dX3_highest_7 (by decide) ?_
    exact W.iret (v := nI 31) hx hb hr (fun t9 ht hW => ⟨⟨_, w, rfl, ⟨by rw [if_pos c_2], rfl⟩, cB_of ht hP⟩, hS.F ht⟩) hS.2.2 dX3_highest_11

set_option maxHeartbeats 4000000 in
set_option maxRecDepth 100000 in
theorem c_X3_bitOf (l : Launch) (g : gX) (s0 : Nat) (w : wd_M) (v : Int32) : Met l yX3_bitOf (Cond.code yX3_bitOf cX3_bitOf 1 (some .int) :: tg) ({ frames := 0, cells := 0, slots := 0, locals := 0 }) (cP g s0 w [.int (v)]) (cI g s0 (fun r w' => r = (if v = -1 then nI 0 else (1 : Int32) <<< (v &&& 31)) ∧ w' = w)) 0 0 (cA s0) := by
  refine Met.ofW (cc := cX3_bitOf) (maxL := 1) (ret := some .int) (by decide) rfl ?_
  intro p e s m args below meth c s₁ B9 hml hv
  obtain ⟨rfl, h0s, hP, hK⟩ := hv
  have hx := B9.exec
  have hb := B9.bytes
  have hr := B9.returns
  have hts := atoms_spec (ws := Cond.code yX3_bitOf cX3_bitOf 1 (some .int) :: tg) B9.pre
  have hown : s.vm.findClass RX3 = some m.cls := findClass_of_methodNamed B9.named
  have hlocks := B9.notSynchronized
  have hS : gS s0 s.heap s.heap [] := va_S.rf
  have hRm : 0 ≤ (headSpec (Cond.code yX3_bitOf cX3_bitOf 1 (some .int) :: tg) ({ frames := 0, cells := 0, slots := 0, locals := 0 })).room.frames ∧ 0 ≤ (headSpec (Cond.code yX3_bitOf cX3_bitOf 1 (some .int) :: tg) ({ frames := 0, cells := 0, slots := 0, locals := 0 })).room.locals := ⟨Nat.le_refl _, Nat.le_refl _⟩
  have hcs : 0 + 0 ≤ (headSpec (Cond.code yX3_bitOf cX3_bitOf 1 (some .int) :: tg) ({ frames := 0, cells := 0, slots := 0, locals := 0 })).room.cells ∧ 0 + 0 ≤ (headSpec (Cond.code yX3_bitOf cX3_bitOf 1 (some .int) :: tg) ({ frames := 0, cells := 0, slots := 0, locals := 0 })).room.slots := ⟨Nat.zero_le _, Nat.zero_le _⟩
  have hl := lv_entry ([.int (v)]) (n := 1) (Nat.le_of_ble_eq_true rfl)
  rw [lg_entry_eq]
  generalize (lg_sl ([.int (v)]) ++ List.replicate (1 - (lg_sl ([.int (v)])).length) Slot.unset).toArray = ls at hl ⊢
  have hl : lv_has ls 1 [(0, .int (v))] := hl
  refine lv_iload_n hx hb dX3_bitOf_0 rfl (lv_at hl 0 rfl) ?_
  refine lv_iconst (v := (-1)) hx hb dX3_bitOf_1 (by decide) ?_
  refine lv_icmp_ne (tgt := 9) hx hb dX3_bitOf_2 (by decide) (fun c_2 => ?_) (fun c_2 => ?_)
  · refine lv_iconst (v := 1) hx hb dX3_bitOf_9 (by decide) ?_
    refine lv_iload_n hx hb dX3_bitOf_10 rfl (lv_at hl 0 rfl) ?_
    refine lv_ishl hx hb dX3_bitOf_11 ?_
    exact W.iret (v := (1) <<< ((v) &&& 31)) hx hb hr (fun t9 ht hW => ⟨⟨_, w, rfl, ⟨by rw [if_neg c_2], rfl⟩, cB_of ht hP⟩, hS.F ht⟩) hS.2.2 dX3_bitOf_12
  · refine lv_iconst (v := nI 0) hx hb dX3_bitOf_5 (by decide) ?_
    refine lv_goto (tgt := 12) hx hb dX3_bitOf_6 (by decide) ?_
    exact W.iret (v := nI 0) hx hb hr (fun t9 ht hW => ⟨⟨_, w, rfl, ⟨by rw [if_pos c_2], rfl⟩, cB_of ht hP⟩, hS.F ht⟩) hS.2.2 dX3_bitOf_12

set_option maxHeartbeats 4000000 in
set_option maxRecDepth 100000 in
theorem c_X3_holds (l : Launch) (g : gX) (s0 : Nat) (w : wd_M) (v : Int32) (k : Nat) (hk : k < 32) : Met l yX3_holds (Cond.code yX3_holds cX3_holds 2 (some .boolean) :: tg) ({ frames := 0, cells := 0, slots := 0, locals := 0 }) (cP g s0 w [.int (v), .int (nI k)]) (cI g s0 (fun r w' => r = zB (bt v k = true) ∧ w' = w)) 0 0 (cA s0) := by
  refine Met.ofW (cc := cX3_holds) (maxL := 2) (ret := some .boolean) (by decide) rfl ?_
  intro p e s m args below meth c s₁ B9 hml hv
  obtain ⟨rfl, h0s, hP, hK⟩ := hv
  have hx := B9.exec
  have hb := B9.bytes
  have hr := B9.returns
  have hts := atoms_spec (ws := Cond.code yX3_holds cX3_holds 2 (some .boolean) :: tg) B9.pre
  have hown : s.vm.findClass RX3 = some m.cls := findClass_of_methodNamed B9.named
  have hlocks := B9.notSynchronized
  have hS : gS s0 s.heap s.heap [] := va_S.rf
  have hRm : 0 ≤ (headSpec (Cond.code yX3_holds cX3_holds 2 (some .boolean) :: tg) ({ frames := 0, cells := 0, slots := 0, locals := 0 })).room.frames ∧ 0 ≤ (headSpec (Cond.code yX3_holds cX3_holds 2 (some .boolean) :: tg) ({ frames := 0, cells := 0, slots := 0, locals := 0 })).room.locals := ⟨Nat.le_refl _, Nat.le_refl _⟩
  have hcs : 0 + 0 ≤ (headSpec (Cond.code yX3_holds cX3_holds 2 (some .boolean) :: tg) ({ frames := 0, cells := 0, slots := 0, locals := 0 })).room.cells ∧ 0 + 0 ≤ (headSpec (Cond.code yX3_holds cX3_holds 2 (some .boolean) :: tg) ({ frames := 0, cells := 0, slots := 0, locals := 0 })).room.slots := ⟨Nat.zero_le _, Nat.zero_le _⟩
  have hl := lv_entry ([.int (v), .int (nI k)]) (n := 2) (Nat.le_of_ble_eq_true rfl)
  rw [lg_entry_eq]
  generalize (lg_sl ([.int (v), .int (nI k)]) ++ List.replicate (2 - (lg_sl ([.int (v), .int (nI k)])).length) Slot.unset).toArray = ls at hl ⊢
  have hl : lv_has ls 2 [(0, .int (v)), (1, .int (nI k))] := hl
  refine lv_iload_n hx hb dX3_holds_0 rfl (lv_at hl 0 rfl) ?_
  refine lv_iload_n hx hb dX3_holds_1 rfl (lv_at hl 1 rfl) ?_
  refine lv_iushr (v := ((v).toUInt32 >>> ((nI k).toUInt32 &&& Int32.toUInt32 31)).toInt32) hx hb dX3_holds_2 (rfl) ?_
  refine lv_iconst (v := 1) hx hb dX3_holds_3 (by decide) ?_
  refine lv_iand hx hb dX3_holds_4 ?_
  refine lv_if_eq (tgt := 12) hx hb dX3_holds_5 (by decide) (fun c_5 => ?_) (fun c_5 => ?_)
  · refine lv_iconst (v := nI 0) hx hb dX3_holds_12 (by decide) ?_
    exact W.zret (ty := .boolean) (v := nI 0) hx hb hr (by rfl) (fun t9 ht hW => ⟨⟨_, w, rfl, ⟨(zB_f (fun q => by have := (b_ush0 v k hk).mp c_5; rw [q] at this; cases this)).symm, rfl⟩, cB_of ht hP⟩, hS.F ht⟩) hS.2.2 dX3_holds_13
  · refine lv_iconst (v := nI 1) hx hb dX3_holds_8 (by decide) ?_
    refine lv_goto (tgt := 13) hx hb dX3_holds_9 (by decide) ?_
    exact W.zret (ty := .boolean) (v := nI 1) hx hb hr (by rfl) (fun t9 ht hW => ⟨⟨_, w, rfl, ⟨(zB_t (bT (fun q => c_5 ((b_ush0 v k hk).mpr q)))).symm, rfl⟩, cB_of ht hP⟩, hS.F ht⟩) hS.2.2 dX3_holds_13

set_option maxHeartbeats 4000000 in
set_option maxRecDepth 100000 in
theorem c_X3_isEnd (l : Launch) (g : gX) (s0 : Nat) (w : wd_M) (v : Int32) : Met l yX3_isEnd (Cond.code yX3_isEnd cX3_isEnd 1 (some .boolean) :: tg) ({ frames := 1, cells := 0, slots := 0, locals := 20 }) (cP g s0 w [.int (v)]) (cI g s0 (fun r w' => r = zB (v = -1 ∨ (0 ≤ v ∧ v < nI 32)) ∧ w' = w)) 0 0 (cA s0) := by
  refine Met.ofW (cc := cX3_isEnd) (maxL := 1) (ret := some .boolean) (by decide) rfl ?_
  intro p e s m args below meth c s₁ B9 hml hv
  obtain ⟨rfl, h0s, hP, hK⟩ := hv
  have hx := B9.exec
  have hb := B9.bytes
  have hr := B9.returns
  have hts := atoms_spec (ws := Cond.code yX3_isEnd cX3_isEnd 1 (some .boolean) :: tg) B9.pre
  have hown : s.vm.findClass RX3 = some m.cls := findClass_of_methodNamed B9.named
  have hlocks := B9.notSynchronized
  have hS : gS s0 s.heap s.heap [] := va_S.rf
  have hRm : 1 ≤ (headSpec (Cond.code yX3_isEnd cX3_isEnd 1 (some .boolean) :: tg) ({ frames := 1, cells := 0, slots := 0, locals := 20 })).room.frames ∧ 20 ≤ (headSpec (Cond.code yX3_isEnd cX3_isEnd 1 (some .boolean) :: tg) ({ frames := 1, cells := 0, slots := 0, locals := 20 })).room.locals := ⟨Nat.le_refl _, Nat.le_refl _⟩
  have hcs : 0 + 0 ≤ (headSpec (Cond.code yX3_isEnd cX3_isEnd 1 (some .boolean) :: tg) ({ frames := 1, cells := 0, slots := 0, locals := 20 })).room.cells ∧ 0 + 0 ≤ (headSpec (Cond.code yX3_isEnd cX3_isEnd 1 (some .boolean) :: tg) ({ frames := 1, cells := 0, slots := 0, locals := 20 })).room.slots := ⟨Nat.zero_le _, Nat.zero_le _⟩
  have hl := lv_entry ([.int (v)]) (n := 1) (Nat.le_of_ble_eq_true rfl)
  rw [lg_entry_eq]
  generalize (lg_sl ([.int (v)]) ++ List.replicate (1 - (lg_sl ([.int (v)])).length) Slot.unset).toArray = ls at hl ⊢
  have hl : lv_has ls 1 [(0, .int (v))] := hl
  refine lv_iload_n hx hb dX3_isEnd_0 rfl (lv_at hl 0 rfl) ?_
  refine lv_iconst (v := (-1)) hx hb dX3_isEnd_1 (by decide) ?_
  refine lv_icmp_eq (tgt := 12) hx hb dX3_isEnd_2 (by decide) (fun c_2 => ?_) (fun c_2 => ?_)
  · refine lv_iconst (v := nI 1) hx hb dX3_isEnd_12 (by decide) ?_
    refine lv_goto (tgt := 17) hx hb dX3_isEnd_13 (by decide) ?_
    exact W.zret (ty := .boolean) (v := nI 1) hx hb hr (by rfl) (fun t9 ht hW => ⟨⟨_, w, rfl, ⟨(zB_t (Or.inl c_2)).symm, rfl⟩, cB_of ht hP⟩, hS.F ht⟩) hS.2.2 dX3_isEnd_17
  · refine lv_iload_n hx hb dX3_isEnd_5 rfl (lv_at hl 0 rfl) ?_
    refine cr_Si (As := [.int (v)]) (rest := []) ⟨hx, hb, hml, hown, hts⟩ (c_X3_isNode l g s0 w v) (cw_S 1 hts tg_tail tw_92 tw_93 tw_1 tw_94 rfl rfl (by decide +kernel) ⟨Nat.le_trans (by decide) hRm.1, Nat.le_trans (by decide) hRm.2⟩) hK hP h0s hS rfl hl.1 rfl (Nat.le_of_ble_eq_true rfl) dX3_isEnd_6 hcs (fun r9 w9 H locs hw hP hS => ?_)
    obtain ⟨e_r9, hw9⟩ := hw
    rw [hw9] at hP
    subst e_r9
    refine lv_if_eq (tgt := 16) hx hb dX3_isEnd_9 (by decide) (fun c_9 => ?_) (fun c_9 => ?_)
    · have c_9 := zB_0.mp c_9
      refine lv_iconst (v := nI 0) hx hb dX3_isEnd_16 (by decide) ?_
      exact W.zret (ty := .boolean) (v := nI 0) hx hb hr (by rfl) (fun t9 ht hW => ⟨⟨_, w, rfl, ⟨(zB_f (fun q => q.elim c_2 c_9)).symm, rfl⟩, cB_of ht hP⟩, hS.F ht⟩) hS.2.2 dX3_isEnd_17
    · have c_9 := zB_1.mp c_9
      refine lv_iconst (v := nI 1) hx hb dX3_isEnd_12 (by decide) ?_
      refine lv_goto (tgt := 17) hx hb dX3_isEnd_13 (by decide) ?_
      exact W.zret (ty := .boolean) (v := nI 1) hx hb hr (by rfl) (fun t9 ht hW => ⟨⟨_, w, rfl, ⟨(zB_t (Or.inr c_9)).symm, rfl⟩, cB_of ht hP⟩, hS.F ht⟩) hS.2.2 dX3_isEnd_17

set_option maxHeartbeats 4000000 in
set_option maxRecDepth 100000 in
theorem c_X2_has (l : Launch) (g : gX) (s0 : Nat) (w : wd_M) (x : Nat) (hs0 : s0 ≤ x) (pc : Int32) (mo : Int32) (no : Int32) (sz : Int32) (rs : Int32) (wr : Int32) (lk : Nat → Int32) (ps : Nat → Option Nat) (fs : Nat → Int32) (ss : Nat → Int32) (ds : Nat → Int32) (lv : Nat → Int32) (a b d : Nat) (ha : a < 32) (hb9 : b < 16) (hd : d < 32) : Met l yX2_has (Cond.code yX2_has cX2_has 4 (some .boolean) :: tg) ({ frames := 1, cells := 0, slots := 0, locals := 21 }) (cP g s0 (xW g w x pc mo no sz rs wr lk ps fs ss ds lv) [.ref (x + 1), .int (nI a), .int (nI b), .int (nI d)]) (cI g s0 (fun r w' => r = zB (bt (lk (a * 32 + d)) b = true) ∧ w' = (xW g w x pc mo no sz rs wr lk ps fs ss ds lv))) 0 0 (cA s0) := by
  refine Met.ofW (cc := cX2_has) (maxL := 4) (ret := some .boolean) (by decide) rfl ?_
  intro p e s m args below meth c s₁ B9 hml hv
  obtain ⟨rfl, h0s, hP, hK⟩ := hv
  have hx := B9.exec
  have hb := B9.bytes
  have hr := B9.returns
  have hts := atoms_spec (ws := Cond.code yX2_has cX2_has 4 (some .boolean) :: tg) B9.pre
  have hown : s.vm.findClass RX2 = some m.cls := findClass_of_methodNamed B9.named
  have hlocks := B9.notSynchronized
  have hS : gS s0 s.heap s.heap [] := va_S.rf
  have hRm : 1 ≤ (headSpec (Cond.code yX2_has cX2_has 4 (some .boolean) :: tg) ({ frames := 1, cells := 0, slots := 0, locals := 21 })).room.frames ∧ 21 ≤ (headSpec (Cond.code yX2_has cX2_has 4 (some .boolean) :: tg) ({ frames := 1, cells := 0, slots := 0, locals := 21 })).room.locals := ⟨Nat.le_refl _, Nat.le_refl _⟩
  have hcs : 0 + 0 ≤ (headSpec (Cond.code yX2_has cX2_has 4 (some .boolean) :: tg) ({ frames := 1, cells := 0, slots := 0, locals := 21 })).room.cells ∧ 0 + 0 ≤ (headSpec (Cond.code yX2_has cX2_has 4 (some .boolean) :: tg) ({ frames := 1, cells := 0, slots := 0, locals := 21 })).room.slots := ⟨Nat.zero_le _, Nat.zero_le _⟩
  have hl := lv_entry ([.ref (x + 1), .int (nI a), .int (nI b), .int (nI d)]) (n := 4) (Nat.le_of_ble_eq_true rfl)
  rw [lg_entry_eq]
  generalize (lg_sl ([.ref (x + 1), .int (nI a), .int (nI b), .int (nI d)]) ++ List.replicate (4 - (lg_sl ([.ref (x + 1), .int (nI a), .int (nI b), .int (nI d)])).length) Slot.unset).toArray = ls at hl ⊢
  have hl : lv_has ls 4 [(0, .ref (x + 1)), (1, .int (nI a)), (2, .int (nI b)), (3, .int (nI d))] := hl
  refine lv_aload_n hx hb dX2_has_0 rfl (lv_at hl 0 rfl) ?_
  refine wd_get (ci := 3) (v := .ref (x + 2)) (C := RX2) (T := TX2) (N := 3) hx hb hts iwX2 hown hK.1 hP (xW_1) rfl 0 (by decide) (hts _ (tg_tail _ tw_26)) (fun _ h9 => h9) rfl dX2_has_1 ?_
  refine lv_iload_n hx hb dX2_has_4 rfl (lv_at hl 1 rfl) ?_
  refine lv_bipush (v := nI 32) hx hb dX2_has_5 (by decide) ?_
  refine lv_imul hx hb dX2_has_7 ?_
  refine wd_ti (x' := nI (a * 32)) (pk_mul _ _) ?_
  refine lv_iload_n hx hb dX2_has_8 rfl (lv_at hl 3 rfl) ?_
  refine lv_iadd hx hb dX2_has_9 ?_
  refine wd_ti (x' := nI ((a * 32) + d)) (nI_add _ _) ?_
  refine wd_ildN hx hb hK.1 hP 0 (k := ((a * 32) + d)) (xW_2) rfl (by omega) (by decide) dX2_has_10 ?_
  refine lv_iload_n hx hb dX2_has_11 rfl (lv_at hl 2 rfl) ?_
  refine cr_Ni (As := [.int (lk ((a * 32) + d)), .int (nI b)]) (rest := []) ⟨hx, hb, hml, hown, hts⟩ (c_X3_holds l g s0 (xW g w x pc mo no sz rs wr lk ps fs ss ds lv) (lk (a * 32 + d)) (b) (by omega)) (cw_N 2 hts tg_tail hK.2.2.1 tw_103 tw_1 tw_104 rfl rfl (by decide +kernel) ⟨Nat.le_trans (by decide) hRm.1, Nat.le_trans (by decide) hRm.2⟩) hK hP h0s hS rfl hl.1 rfl (Nat.le_of_ble_eq_true rfl) dX2_has_12 hcs (fun r9 w9 H locs hw hP hS => ?_)
  obtain ⟨e_r9, hw9⟩ := hw
  rw [hw9] at hP
  subst e_r9
  exact W.zret (ty := .boolean) (v := zB (bt (lk (a * 32 + d)) (b) = true)) hx hb hr (zB_n) (fun t9 ht hW => ⟨⟨_, (xW g w x pc mo no sz rs wr lk ps fs ss ds lv), rfl, ⟨rfl, rfl⟩, cB_of ht hP⟩, hS.F ht⟩) hS.2.2 dX2_has_15

set_option maxHeartbeats 4000000 in
set_option maxRecDepth 100000 in
theorem c_X2_add (l : Launch) (g : gX) (s0 : Nat) (w : wd_M) (x : Nat) (hs0 : s0 ≤ x) (pc : Int32) (mo : Int32) (no : Int32) (rs : Int32) (wr : Int32) (lk : Nat → Int32) (ps : Nat → Option Nat) (fs : Nat → Int32) (ss : Nat → Int32) (ds : Nat → Int32) (lv : Nat → Int32) (a b d : Nat) (ha : a < 32) (hb9 : b < 16) (hd : d < 32) (Z : Nat) : Met l yX2_add (Cond.code yX2_add cX2_add 4 (none) :: tg) ({ frames := 0, cells := 0, slots := 0, locals := 0 }) (cP g s0 (xW g w x pc mo no (nI Z) rs wr lk ps fs ss ds lv) [.ref (x + 1), .int (nI a), .int (nI b), .int (nI d)]) (cV g s0 (fun w' => w' = (xW g w x pc mo (no ||| (sh1 a ||| sh1 d)) (nI (Z + 1)) rs wr (upd lk (a * 32 + d) (lk (a * 32 + d) ||| sh1 b)) ps fs ss ds lv))) 0 0 (cA s0) := by
  refine Met.ofW (cc := cX2_add) (maxL := 4) (ret := none) (by decide) rfl ?_
  intro p e s m args below meth c s₁ B9 hml hv
  obtain ⟨rfl, h0s, hP, hK⟩ := hv
  have hx := B9.exec
  have hb := B9.bytes
  have hr := B9.returns
  have hts := atoms_spec (ws := Cond.code yX2_add cX2_add 4 (none) :: tg) B9.pre
  have hown : s.vm.findClass RX2 = some m.cls := findClass_of_methodNamed B9.named
  have hlocks := B9.notSynchronized
  have hS : gS s0 s.heap s.heap [] := va_S.rf
  have hRm : 0 ≤ (headSpec (Cond.code yX2_add cX2_add 4 (none) :: tg) ({ frames := 0, cells := 0, slots := 0, locals := 0 })).room.frames ∧ 0 ≤ (headSpec (Cond.code yX2_add cX2_add 4 (none) :: tg) ({ frames := 0, cells := 0, slots := 0, locals := 0 })).room.locals := ⟨Nat.le_refl _, Nat.le_refl _⟩
  have hcs : 0 + 0 ≤ (headSpec (Cond.code yX2_add cX2_add 4 (none) :: tg) ({ frames := 0, cells := 0, slots := 0, locals := 0 })).room.cells ∧ 0 + 0 ≤ (headSpec (Cond.code yX2_add cX2_add 4 (none) :: tg) ({ frames := 0, cells := 0, slots := 0, locals := 0 })).room.slots := ⟨Nat.zero_le _, Nat.zero_le _⟩
  have hl := lv_entry ([.ref (x + 1), .int (nI a), .int (nI b), .int (nI d)]) (n := 4) (Nat.le_of_ble_eq_true rfl)
  rw [lg_entry_eq]
  generalize (lg_sl ([.ref (x + 1), .int (nI a), .int (nI b), .int (nI d)]) ++ List.replicate (4 - (lg_sl ([.ref (x + 1), .int (nI a), .int (nI b), .int (nI d)])).length) Slot.unset).toArray = ls at hl ⊢
  have hl : lv_has ls 4 [(0, .ref (x + 1)), (1, .int (nI a)), (2, .int (nI b)), (3, .int (nI d))] := hl
  refine lv_aload_n hx hb dX2_add_0 rfl (lv_at hl 0 rfl) ?_
  refine wd_get (ci := 3) (v := .ref (x + 2)) (C := RX2) (T := TX2) (N := 3) hx hb hts iwX2 hown hK.1 hP (xW_1) rfl 0 (by decide) (hts _ (tg_tail _ tw_26)) (fun _ h9 => h9) rfl dX2_add_1 ?_
  refine lv_iload_n hx hb dX2_add_4 rfl (lv_at hl 1 rfl) ?_
  refine lv_bipush (v := nI 32) hx hb dX2_add_5 (by decide) ?_
  refine lv_imul hx hb dX2_add_7 ?_
  refine wd_ti (x' := nI (a * 32)) (pk_mul _ _) ?_
  refine lv_iload_n hx hb dX2_add_8 rfl (lv_at hl 3 rfl) ?_
  refine lv_iadd hx hb dX2_add_9 ?_
  refine wd_ti (x' := nI ((a * 32) + d)) (nI_add _ _) ?_
  refine lv_dup2_11 hx hb dX2_add_10 rfl rfl ?_
  refine wd_ildN hx hb hK.1 hP 0 (k := ((a * 32) + d)) (xW_2) rfl (by omega) (by decide) dX2_add_11 ?_
  refine lv_iconst (v := 1) hx hb dX2_add_12 (by decide) ?_
  refine lv_iload_n hx hb dX2_add_13 rfl (lv_at hl 2 rfl) ?_
  refine lv_ishl hx hb dX2_add_14 ?_
  refine lv_ior hx hb dX2_add_15 ?_
  refine wd_istN hx hb hK.1 hP hS (by omega) 0 (k := ((a * 32) + d)) (xW_2) rfl (by omega) (by decide) dX2_add_16 (fun H locs hP hS hz => ?_)
  have hP : gP g (xW g w x pc mo no (nI Z) rs wr (upd (lk) ((a * 32) + d) ((lk ((a * 32) + d)) ||| ((1) <<< ((nI b) &&& 31)))) ps fs ss ds lv) H := by have h9 : gP g (wd_up (xW g w x pc mo no (nI Z) rs wr lk ps fs ss ds lv) (x + 2) (wd_iA (g.2 0) 1024 (upd (lk) ((a * 32) + d) ((lk ((a * 32) + d)) ||| ((1) <<< ((nI b) &&& 31)))))) H := hP; rw [xW_s2] at h9; exact h9
  refine lv_aload_n hx hb dX2_add_17 rfl (lv_at hl 0 rfl) ?_
  refine lv_dup hx hb dX2_add_18 rfl ?_
  refine wd_get (ci := 3) (v := .int (no)) (C := RX2) (T := TX2) (N := 3) hx hb hts iwX2 hown hK.1 hP (xW_1) rfl 1 (by decide) (hts _ (tg_tail _ tw_28)) (fun _ h9 => h9) rfl dX2_add_19 ?_
  refine lv_iconst (v := 1) hx hb dX2_add_22 (by decide) ?_
  refine lv_iload_n hx hb dX2_add_23 rfl (lv_at hl 1 rfl) ?_
  refine lv_ishl hx hb dX2_add_24 ?_
  refine lv_iconst (v := 1) hx hb dX2_add_25 (by decide) ?_
  refine lv_iload_n hx hb dX2_add_26 rfl (lv_at hl 3 rfl) ?_
  refine lv_ishl hx hb dX2_add_27 ?_
  refine lv_ior hx hb dX2_add_28 ?_
  refine lv_ior hx hb dX2_add_29 ?_
  refine wd_put (ci := 3) (v := .int ((no) ||| (((1) <<< ((nI a) &&& 31)) ||| ((1) <<< ((nI d) &&& 31))))) (ty := .int) (C := RX2) (T := TX2) (N := 3) hx hb hts iwX2 tyX2 tyX2_ok nmX2 hown hK.1 hP hS (by omega) (xW_1) rfl 1 (by decide) (hts _ (tg_tail _ tw_28)) (fun _ h9 => h9) rfl (by decide +kernel) (rfl) (rfl) (Nat.le_of_ble_eq_true rfl) dX2_add_30 (fun H locs hP hS hz => ?_)
  have hP : gP g (xW g w x pc mo ((no) ||| (((1) <<< ((nI a) &&& 31)) ||| ((1) <<< ((nI d) &&& 31)))) (nI Z) rs wr (upd (lk) ((a * 32) + d) ((lk ((a * 32) + d)) ||| ((1) <<< ((nI b) &&& 31)))) ps fs ss ds lv) H := by have h9 : gP g (wd_up (xW g w x pc mo no (nI Z) rs wr (upd (lk) ((a * 32) + d) ((lk ((a * 32) + d)) ||| ((1) <<< ((nI b) &&& 31)))) ps fs ss ds lv) (x + 1) (.inr (3, [.ref (x + 2), .int ((no) ||| (((1) <<< ((nI a) &&& 31)) ||| ((1) <<< ((nI d) &&& 31)))), .int (nI Z)]))) H := hP; rw [xW_s1] at h9; exact h9
  refine lv_aload_n hx hb dX2_add_33 rfl (lv_at hl 0 rfl) ?_
  refine lv_dup hx hb dX2_add_34 rfl ?_
  refine wd_get (ci := 3) (v := .int (nI Z)) (C := RX2) (T := TX2) (N := 3) hx hb hts iwX2 hown hK.1 hP (xW_1) rfl 2 (by decide) (hts _ (tg_tail _ tw_30)) (fun _ h9 => h9) rfl dX2_add_35 ?_
  refine lv_iconst (v := nI 1) hx hb dX2_add_38 (by decide) ?_
  refine lv_iadd hx hb dX2_add_39 ?_
  refine wd_ti (x' := nI (Z + 1)) (nI_add _ _) ?_
  refine wd_put (ci := 3) (v := .int (nI (Z + 1))) (ty := .int) (C := RX2) (T := TX2) (N := 3) hx hb hts iwX2 tyX2 tyX2_ok nmX2 hown hK.1 hP hS (by omega) (xW_1) rfl 2 (by decide) (hts _ (tg_tail _ tw_30)) (fun _ h9 => h9) rfl (by decide +kernel) (rfl) (rfl) (Nat.le_of_ble_eq_true rfl) dX2_add_40 (fun H locs hP hS hz => ?_)
  have hP : gP g (xW g w x pc mo ((no) ||| (((1) <<< ((nI a) &&& 31)) ||| ((1) <<< ((nI d) &&& 31)))) (nI (Z + 1)) rs wr (upd (lk) ((a * 32) + d) ((lk ((a * 32) + d)) ||| ((1) <<< ((nI b) &&& 31)))) ps fs ss ds lv) H := by have h9 : gP g (wd_up (xW g w x pc mo ((no) ||| (((1) <<< ((nI a) &&& 31)) ||| ((1) <<< ((nI d) &&& 31)))) (nI Z) rs wr (upd (lk) ((a * 32) + d) ((lk ((a * 32) + d)) ||| ((1) <<< ((nI b) &&& 31)))) ps fs ss ds lv) (x + 1) (.inr (3, [.ref (x + 2), .int ((no) ||| (((1) <<< ((nI a) &&& 31)) ||| ((1) <<< ((nI d) &&& 31)))), .int (nI (Z + 1))]))) H := hP; rw [xW_s1] at h9; exact h9
  exact W.vret hx hb hr (fun t9 ht hW => ⟨⟨(xW g w x pc mo ((no) ||| (((1) <<< ((nI a) &&& 31)) ||| ((1) <<< ((nI d) &&& 31)))) (nI (Z + 1)) rs wr (upd (lk) ((a * 32) + d) ((lk ((a * 32) + d)) ||| ((1) <<< ((nI b) &&& 31)))) ps fs ss ds lv), rfl, rfl, cB_of ht hP⟩, hS.F ht⟩) hS.2.2 dX2_add_43

set_option maxHeartbeats 4000000 in
set_option maxRecDepth 100000 in
theorem c_X1_has (l : Launch) (g : gX) (s0 : Nat) (w : wd_M) (x : Nat) (hs0 : s0 ≤ x) (pc : Int32) (mo : Int32) (no : Int32) (sz : Int32) (wr : Int32) (lk : Nat → Int32) (ps : Nat → Option Nat) (fs : Nat → Int32) (ss : Nat → Int32) (ds : Nat → Int32) (lv : Nat → Int32) (N : Nat) (i : Int32) : Met l yX1_has (Cond.code yX1_has cX1_has 2 (some .boolean) :: tg) ({ frames := 0, cells := 0, slots := 0, locals := 0 }) (cP g s0 (xW g w x pc mo no sz (nI N) wr lk ps fs ss ds lv) [.ref (x + 4), .int (i)]) (cI g s0 (fun r w' => r = zB (¬ i < 0 ∧ ¬ nI N ≤ i) ∧ w' = (xW g w x pc mo no sz (nI N) wr lk ps fs ss ds lv))) 0 0 (cA s0) := by
  refine Met.ofW (cc := cX1_has) (maxL := 2) (ret := some .boolean) (by decide) rfl ?_
  intro p e s m args below meth c s₁ B9 hml hv
  obtain ⟨rfl, h0s, hP, hK⟩ := hv
  have hx := B9.exec
  have hb := B9.bytes
  have hr := B9.returns
  have hts := atoms_spec (ws := Cond.code yX1_has cX1_has 2 (some .boolean) :: tg) B9.pre
  have hown : s.vm.findClass RX1 = some m.cls := findClass_of_methodNamed B9.named
  have hlocks := B9.notSynchronized
  have hS : gS s0 s.heap s.heap [] := va_S.rf
  have hRm : 0 ≤ (headSpec (Cond.code yX1_has cX1_has 2 (some .boolean) :: tg) ({ frames := 0, cells := 0, slots := 0, locals := 0 })).room.frames ∧ 0 ≤ (headSpec (Cond.code yX1_has cX1_has 2 (some .boolean) :: tg) ({ frames := 0, cells := 0, slots := 0, locals := 0 })).room.locals := ⟨Nat.le_refl _, Nat.le_refl _⟩
  have hcs : 0 + 0 ≤ (headSpec (Cond.code yX1_has cX1_has 2 (some .boolean) :: tg) ({ frames := 0, cells := 0, slots := 0, locals := 0 })).room.cells ∧ 0 + 0 ≤ (headSpec (Cond.code yX1_has cX1_has 2 (some .boolean) :: tg) ({ frames := 0, cells := 0, slots := 0, locals := 0 })).room.slots := ⟨Nat.zero_le _, Nat.zero_le _⟩
  have hl := lv_entry ([.ref (x + 4), .int (i)]) (n := 2) (Nat.le_of_ble_eq_true rfl)
  rw [lg_entry_eq]
  generalize (lg_sl ([.ref (x + 4), .int (i)]) ++ List.replicate (2 - (lg_sl ([.ref (x + 4), .int (i)])).length) Slot.unset).toArray = ls at hl ⊢
  have hl : lv_has ls 2 [(0, .ref (x + 4)), (1, .int (i))] := hl
  refine lv_iload_n hx hb dX1_has_0 rfl (lv_at hl 1 rfl) ?_
  refine lv_if_lt (tgt := 16) hx hb dX1_has_1 (by decide) (fun c_1 => ?_) (fun c_1 => ?_)
  · refine lv_iconst (v := nI 0) hx hb dX1_has_16 (by decide) ?_
    exact W.zret (ty := .boolean) (v := nI 0) hx hb hr (by rfl) (fun t9 ht hW => ⟨⟨_, (xW g w x pc mo no sz (nI N) wr lk ps fs ss ds lv), rfl, ⟨(zB_f (fun q => q.1 c_1)).symm, rfl⟩, cB_of ht hP⟩, hS.F ht⟩) hS.2.2 dX1_has_17
  · refine lv_iload_n hx hb dX1_has_4 rfl (lv_at hl 1 rfl) ?_
    refine lv_aload_n hx hb dX1_has_5 rfl (lv_at hl 0 rfl) ?_
    refine wd_get (ci := 2) (v := .int (nI N)) (C := RX1) (T := TX1) (N := 5) hx hb hts iwX1 hown hK.1 hP (xW_4) rfl 3 (by decide) (hts _ (tg_tail _ tw_55)) (fun _ h9 => h9) rfl dX1_has_6 ?_
    refine lv_icmp_ge (tgt := 16) hx hb dX1_has_9 (by decide) (fun c_9 => ?_) (fun c_9 => ?_)
    · refine lv_iconst (v := nI 0) hx hb dX1_has_16 (by decide) ?_
      exact W.zret (ty := .boolean) (v := nI 0) hx hb hr (by rfl) (fun t9 ht hW => ⟨⟨_, (xW g w x pc mo no sz (nI N) wr lk ps fs ss ds lv), rfl, ⟨(zB_f (fun q => q.2 c_9)).symm, rfl⟩, cB_of ht hP⟩, hS.F ht⟩) hS.2.2 dX1_has_17
    · refine lv_iconst (v := nI 1) hx hb dX1_has_12 (by decide) ?_
      refine lv_goto (tgt := 17) hx hb dX1_has_13 (by decide) ?_
      exact W.zret (ty := .boolean) (v := nI 1) hx hb hr (by rfl) (fun t9 ht hW => ⟨⟨_, (xW g w x pc mo no sz (nI N) wr lk ps fs ss ds lv), rfl, ⟨(zB_t ⟨c_1, c_9⟩).symm, rfl⟩, cB_of ht hP⟩, hS.F ht⟩) hS.2.2 dX1_has_17

set_option maxHeartbeats 4000000 in
set_option maxRecDepth 100000 in
theorem c_X1_begin (l : Launch) (g : gX) (s0 : Nat) (w : wd_M) (x : Nat) (hs0 : s0 ≤ x) (pc : Int32) (mo : Int32) (no : Int32) (sz : Int32) (rs : Int32) (wr : Int32) (lk : Nat → Int32) (ps : Nat → Option Nat) (fs : Nat → Int32) (ss : Nat → Int32) (ds : Nat → Int32) (lv : Nat → Int32)  : Met l yX1_begin (Cond.code yX1_begin cX1_begin 1 (none) :: tg) ({ frames := 0, cells := 0, slots := 0, locals := 0 }) (cP g s0 (xW g w x pc mo no sz rs wr lk ps fs ss ds lv) [.ref (x + 4)]) (cV g s0 (fun w' => w' = (xW g w x pc mo no sz (nI 0) (nI 1) lk ps fs ss ds lv))) 0 0 (cA s0) := by
  refine Met.ofW (cc := cX1_begin) (maxL := 1) (ret := none) (by decide) rfl ?_
  intro p e s m args below meth c s₁ B9 hml hv
  obtain ⟨rfl, h0s, hP, hK⟩ := hv
  have hx := B9.exec
  have hb := B9.bytes
  have hr := B9.returns
  have hts := atoms_spec (ws := Cond.code yX1_begin cX1_begin 1 (none) :: tg) B9.pre
  have hown : s.vm.findClass RX1 = some m.cls := findClass_of_methodNamed B9.named
  have hlocks := B9.notSynchronized
  have hS : gS s0 s.heap s.heap [] := va_S.rf
  have hRm : 0 ≤ (headSpec (Cond.code yX1_begin cX1_begin 1 (none) :: tg) ({ frames := 0, cells := 0, slots := 0, locals := 0 })).room.frames ∧ 0 ≤ (headSpec (Cond.code yX1_begin cX1_begin 1 (none) :: tg) ({ frames := 0, cells := 0, slots := 0, locals := 0 })).room.locals := ⟨Nat.le_refl _, Nat.le_refl _⟩
  have hcs : 0 + 0 ≤ (headSpec (Cond.code yX1_begin cX1_begin 1 (none) :: tg) ({ frames := 0, cells := 0, slots := 0, locals := 0 })).room.cells ∧ 0 + 0 ≤ (headSpec (Cond.code yX1_begin cX1_begin 1 (none) :: tg) ({ frames := 0, cells := 0, slots := 0, locals := 0 })).room.slots := ⟨Nat.zero_le _, Nat.zero_le _⟩
  have hl := lv_entry ([.ref (x + 4)]) (n := 1) (Nat.le_of_ble_eq_true rfl)
  rw [lg_entry_eq]
  generalize (lg_sl ([.ref (x + 4)]) ++ List.replicate (1 - (lg_sl ([.ref (x + 4)])).length) Slot.unset).toArray = ls at hl ⊢
  have hl : lv_has ls 1 [(0, .ref (x + 4))] := hl
  refine lv_aload_n hx hb dX1_begin_0 rfl (lv_at hl 0 rfl) ?_
  refine lv_iconst (v := nI 0) hx hb dX1_begin_1 (by decide) ?_
  refine wd_put (ci := 2) (v := .int (nI 0)) (ty := .int) (C := RX1) (T := TX1) (N := 5) hx hb hts iwX1 tyX1 tyX1_ok nmX1 hown hK.1 hP hS (by omega) (xW_4) rfl 3 (by decide) (hts _ (tg_tail _ tw_55)) (fun _ h9 => h9) rfl (by decide +kernel) (rfl) (rfl) (Nat.le_of_ble_eq_true rfl) dX1_begin_2 (fun H locs hP hS hz => ?_)
  have hP : gP g (xW g w x pc mo no sz (nI 0) wr lk ps fs ss ds lv) H := by have h9 : gP g (wd_up (xW g w x pc mo no sz rs wr lk ps fs ss ds lv) (x + 4) (.inr (2, [.ref (x + 5), .ref (x + 6), .ref (x + 7), .int (nI 0), .int (wr)]))) H := hP; rw [xW_s4] at h9; exact h9
  refine lv_aload_n hx hb dX1_begin_5 rfl (lv_at hl 0 rfl) ?_
  refine lv_iconst (v := nI 1) hx hb dX1_begin_6 (by decide) ?_
  refine wd_put (ci := 2) (v := .int (nI 1)) (ty := .boolean) (C := RX1) (T := TX1) (N := 5) hx hb hts iwX1 tyX1 tyX1_ok nmX1 hown hK.1 hP hS (by omega) (xW_4) rfl 4 (by decide) (hts _ (tg_tail _ tw_56)) (fun _ h9 => h9) rfl (by decide +kernel) (rfl) (rfl) (Nat.le_of_ble_eq_true rfl) dX1_begin_7 (fun H locs hP hS hz => ?_)
  have hP : gP g (xW g w x pc mo no sz (nI 0) (nI 1) lk ps fs ss ds lv) H := by have h9 : gP g (wd_up (xW g w x pc mo no sz (nI 0) wr lk ps fs ss ds lv) (x + 4) (.inr (2, [.ref (x + 5), .ref (x + 6), .ref (x + 7), .int (nI 0), .int (nI 1)]))) H := hP; rw [xW_s4] at h9; exact h9
  exact W.vret hx hb hr (fun t9 ht hW => ⟨⟨(xW g w x pc mo no sz (nI 0) (nI 1) lk ps fs ss ds lv), rfl, rfl, cB_of ht hP⟩, hS.F ht⟩) hS.2.2 dX1_begin_10

set_option maxHeartbeats 4000000 in
set_option maxRecDepth 100000 in
theorem lp_add {p : Program} {l : Launch} {e : Env} {R : Room} {s : State} {m : MethodId} {args : Array Value} {below : List Frame} {meth : Method} {c : Code} {Q : State → Prop} {H0 : Heap} {cells slots : Nat} (g : gX) (s0 : Nat) (w : wd_M) (x : Nat) (hs0 : s0 ≤ x) (pc : Int32) (mo : Int32) (no : Int32) (sz : Int32) (wr : Int32) (lk : Nat → Int32) (ps : Nat → Option Nat) (lv : Nat → Int32) (x1 y1 mn : Nat) (dp : Int32) (t : rT) (hmn : t.2.2.2 + mn ≤ 2000) (hm2 : mn < 2 ^ 31) (hx : p.tables.exec = Jvm.exec) (hb : c.code = cX1_add) (hml : c.maxLocals = 6) (hown : s.vm.findClass RX1 = some m.cls) (hts : ∀ w ∈ Cond.code yX1_add cX1_add 6 (none) :: tg, w.before args s = true) (hK : gK g s) (h0s : s0 ≤ H0.size) (hRm : 0 ≤ R.frames ∧ 0 ≤ R.locals) (hcs : cells + 0 ≤ R.cells ∧ slots + 0 ≤ R.slots)  (kx : ∀ (H : Heap) (locs : List Loc) (ls : Array Slot), gP g (xW g w x pc mo no sz (nI ((rk x1 y1 dp t mn).2.2.2)) wr lk ps ((rk x1 y1 dp t mn).1) ((rk x1 y1 dp t mn).2.1) ((rk x1 y1 dp t mn).2.2.1) lv) H → gS s0 H0 H locs → lv_has ls 6 [(0, .ref (x + 4))] → W p l e R s m args below meth c H locs cells slots Q (F0 m 66 ls [])) :
    ∀ (n k : Nat), k ≤ mn → mn + 1 ≤ k + n → ∀ (H : Heap) (locs : List Loc) (ls : Array Slot), gP g (xW g w x pc mo no sz (nI ((rk x1 y1 dp t k).2.2.2)) wr lk ps ((rk x1 y1 dp t k).1) ((rk x1 y1 dp t k).2.1) ((rk x1 y1 dp t k).2.2.1) lv) H → gS s0 H0 H locs → lv_has ls 6 [(0, .ref (x + 4)), (1, .int (nI x1)), (2, .int (nI y1)), (3, .int (dp)), (4, .int (nI mn)), (5, .int (nI k))] → W p l e R s m args below meth c H locs cells slots Q (F0 m 3 ls []) := by
  intro n
  induction n with
  | zero =>
    intro k h1 h2
    exact absurd h2 (by omega)
  | succ n ih =>
    intro k hi hin H locs ls hP hS hl
    refine lv_iload hx hb dX1_add_3 (lv_at hl 5 rfl) ?_
    refine lv_iload hx hb dX1_add_5 (lv_at hl 4 rfl) ?_
    refine lv_icmp_ge (tgt := 66) hx hb dX1_add_7 (by decide) (fun c_7 => ?_) (fun c_7 => ?_)
    · have c_7 := (nI_leI (a := mn) (b := k) (by omega) (by omega)).mp c_7
      have e9 : k = mn := by omega
      try rw [e9] at hP
      try rw [e9] at hl
      exact kx H locs ls hP hS (lv_sub hl [0] rfl)
    · have c_7 := mt (nI_leI (a := mn) (b := k) (by omega) (by omega)).mpr c_7
      have n9 := rk_n (x := x1) (y := y1) (dp := dp) (t := t) k
      refine lv_aload_n hx hb dX1_add_10 rfl (lv_at hl 0 rfl) ?_
      refine wd_get (ci := 2) (v := .int (nI ((rk x1 y1 dp t k).2.2.2))) (C := RX1) (T := TX1) (N := 5) hx hb hts iwX1 hown hK.1 hP (xW_4) rfl 3 (by decide) (hts _ (tg_tail _ tw_55)) (fun _ h9 => h9) rfl dX1_add_11 ?_
      refine lv_sipush (v := nI 2000) hx hb dX1_add_14 (by decide +kernel) ?_
      refine lv_icmp_ge (tgt := 66) hx hb dX1_add_17 (by decide) (fun c_17 => ?_) (fun c_17 => ?_)
      · have c_17 := (nI_leI (a := 2000) (b := ((rk x1 y1 dp t k).2.2.2)) (by omega) (by omega)).mp c_17
        exact absurd c_17 (by omega)
      · have c_17 := mt (nI_leI (a := 2000) (b := ((rk x1 y1 dp t k).2.2.2)) (by omega) (by omega)).mpr c_17
        refine lv_aload_n hx hb dX1_add_20 rfl (lv_at hl 0 rfl) ?_
        refine wd_get (ci := 2) (v := .ref (x + 5)) (C := RX1) (T := TX1) (N := 5) hx hb hts iwX1 hown hK.1 hP (xW_4) rfl 0 (by decide) (hts _ (tg_tail _ tw_49)) (fun _ h9 => h9) rfl dX1_add_21 ?_
        refine lv_aload_n hx hb dX1_add_24 rfl (lv_at hl 0 rfl) ?_
        refine wd_get (ci := 2) (v := .int (nI ((rk x1 y1 dp t k).2.2.2))) (C := RX1) (T := TX1) (N := 5) hx hb hts iwX1 hown hK.1 hP (xW_4) rfl 3 (by decide) (hts _ (tg_tail _ tw_55)) (fun _ h9 => h9) rfl dX1_add_25 ?_
        refine lv_iload_n hx hb dX1_add_28 rfl (lv_at hl 1 rfl) ?_
        refine wd_istN hx hb hK.1 hP hS (by omega) 0 (k := ((rk x1 y1 dp t k).2.2.2)) (xW_5) rfl (by rw [rk_n]; omega) (by decide) dX1_add_29 (fun H locs hP hS hz => ?_)
        have hP : gP g (xW g w x pc mo no sz (nI ((rk x1 y1 dp t k).2.2.2)) wr lk ps (upd ((rk x1 y1 dp t k).1) ((rk x1 y1 dp t k).2.2.2) (nI x1)) ((rk x1 y1 dp t k).2.1) ((rk x1 y1 dp t k).2.2.1) lv) H := by have h9 : gP g (wd_up (xW g w x pc mo no sz (nI ((rk x1 y1 dp t k).2.2.2)) wr lk ps ((rk x1 y1 dp t k).1) ((rk x1 y1 dp t k).2.1) ((rk x1 y1 dp t k).2.2.1) lv) (x + 5) (wd_iA (g.2 0) 2000 (upd ((rk x1 y1 dp t k).1) ((rk x1 y1 dp t k).2.2.2) (nI x1)))) H := hP; rw [xW_s5] at h9; exact h9
        refine lv_aload_n hx hb dX1_add_30 rfl (lv_at hl 0 rfl) ?_
        refine wd_get (ci := 2) (v := .ref (x + 6)) (C := RX1) (T := TX1) (N := 5) hx hb hts iwX1 hown hK.1 hP (xW_4) rfl 1 (by decide) (hts _ (tg_tail _ tw_51)) (fun _ h9 => h9) rfl dX1_add_31 ?_
        refine lv_aload_n hx hb dX1_add_34 rfl (lv_at hl 0 rfl) ?_
        refine wd_get (ci := 2) (v := .int (nI ((rk x1 y1 dp t k).2.2.2))) (C := RX1) (T := TX1) (N := 5) hx hb hts iwX1 hown hK.1 hP (xW_4) rfl 3 (by decide) (hts _ (tg_tail _ tw_55)) (fun _ h9 => h9) rfl dX1_add_35 ?_
        refine lv_iload_n hx hb dX1_add_38 rfl (lv_at hl 2 rfl) ?_
        refine wd_istN hx hb hK.1 hP hS (by omega) 0 (k := ((rk x1 y1 dp t k).2.2.2)) (xW_6) rfl (by rw [rk_n]; omega) (by decide) dX1_add_39 (fun H locs hP hS hz => ?_)
        have hP : gP g (xW g w x pc mo no sz (nI ((rk x1 y1 dp t k).2.2.2)) wr lk ps (upd ((rk x1 y1 dp t k).1) ((rk x1 y1 dp t k).2.2.2) (nI x1)) (upd ((rk x1 y1 dp t k).2.1) ((rk x1 y1 dp t k).2.2.2) (nI y1)) ((rk x1 y1 dp t k).2.2.1) lv) H := by have h9 : gP g (wd_up (xW g w x pc mo no sz (nI ((rk x1 y1 dp t k).2.2.2)) wr lk ps (upd ((rk x1 y1 dp t k).1) ((rk x1 y1 dp t k).2.2.2) (nI x1)) ((rk x1 y1 dp t k).2.1) ((rk x1 y1 dp t k).2.2.1) lv) (x + 6) (wd_iA (g.2 0) 2000 (upd ((rk x1 y1 dp t k).2.1) ((rk x1 y1 dp t k).2.2.2) (nI y1)))) H := hP; rw [xW_s6] at h9; exact h9
        refine lv_aload_n hx hb dX1_add_40 rfl (lv_at hl 0 rfl) ?_
        refine wd_get (ci := 2) (v := .ref (x + 7)) (C := RX1) (T := TX1) (N := 5) hx hb hts iwX1 hown hK.1 hP (xW_4) rfl 2 (by decide) (hts _ (tg_tail _ tw_53)) (fun _ h9 => h9) rfl dX1_add_41 ?_
        refine lv_aload_n hx hb dX1_add_44 rfl (lv_at hl 0 rfl) ?_
        refine wd_get (ci := 2) (v := .int (nI ((rk x1 y1 dp t k).2.2.2))) (C := RX1) (T := TX1) (N := 5) hx hb hts iwX1 hown hK.1 hP (xW_4) rfl 3 (by decide) (hts _ (tg_tail _ tw_55)) (fun _ h9 => h9) rfl dX1_add_45 ?_
        refine lv_iload_n hx hb dX1_add_48 rfl (lv_at hl 3 rfl) ?_
        refine wd_istN hx hb hK.1 hP hS (by omega) 0 (k := ((rk x1 y1 dp t k).2.2.2)) (xW_7) rfl (by rw [rk_n]; omega) (by decide) dX1_add_49 (fun H locs hP hS hz => ?_)
        have hP : gP g (xW g w x pc mo no sz (nI ((rk x1 y1 dp t k).2.2.2)) wr lk ps (upd ((rk x1 y1 dp t k).1) ((rk x1 y1 dp t k).2.2.2) (nI x1)) (upd ((rk x1 y1 dp t k).2.1) ((rk x1 y1 dp t k).2.2.2) (nI y1)) (upd ((rk x1 y1 dp t k).2.2.1) ((rk x1 y1 dp t k).2.2.2) (dp)) lv) H := by have h9 : gP g (wd_up (xW g w x pc mo no sz (nI ((rk x1 y1 dp t k).2.2.2)) wr lk ps (upd ((rk x1 y1 dp t k).1) ((rk x1 y1 dp t k).2.2.2) (nI x1)) (upd ((rk x1 y1 dp t k).2.1) ((rk x1 y1 dp t k).2.2.2) (nI y1)) ((rk x1 y1 dp t k).2.2.1) lv) (x + 7) (wd_iA (g.2 0) 2000 (upd ((rk x1 y1 dp t k).2.2.1) ((rk x1 y1 dp t k).2.2.2) (dp)))) H := hP; rw [xW_s7] at h9; exact h9
        refine lv_aload_n hx hb dX1_add_50 rfl (lv_at hl 0 rfl) ?_
        refine lv_dup hx hb dX1_add_51 rfl ?_
        refine wd_get (ci := 2) (v := .int (nI ((rk x1 y1 dp t k).2.2.2))) (C := RX1) (T := TX1) (N := 5) hx hb hts iwX1 hown hK.1 hP (xW_4) rfl 3 (by decide) (hts _ (tg_tail _ tw_55)) (fun _ h9 => h9) rfl dX1_add_52 ?_
        refine lv_iconst (v := nI 1) hx hb dX1_add_55 (by decide) ?_
        refine lv_iadd hx hb dX1_add_56 ?_
        refine wd_ti (x' := nI (((rk x1 y1 dp t k).2.2.2) + 1)) (nI_add _ _) ?_
        refine wd_put (ci := 2) (v := .int (nI (((rk x1 y1 dp t k).2.2.2) + 1))) (ty := .int) (C := RX1) (T := TX1) (N := 5) hx hb hts iwX1 tyX1 tyX1_ok nmX1 hown hK.1 hP hS (by omega) (xW_4) rfl 3 (by decide) (hts _ (tg_tail _ tw_55)) (fun _ h9 => h9) rfl (by decide +kernel) (rfl) (rfl) (Nat.le_of_ble_eq_true rfl) dX1_add_57 (fun H locs hP hS hz => ?_)
        have hP : gP g (xW g w x pc mo no sz (nI (((rk x1 y1 dp t k).2.2.2) + 1)) wr lk ps (upd ((rk x1 y1 dp t k).1) ((rk x1 y1 dp t k).2.2.2) (nI x1)) (upd ((rk x1 y1 dp t k).2.1) ((rk x1 y1 dp t k).2.2.2) (nI y1)) (upd ((rk x1 y1 dp t k).2.2.1) ((rk x1 y1 dp t k).2.2.2) (dp)) lv) H := by have h9 : gP g (wd_up (xW g w x pc mo no sz (nI ((rk x1 y1 dp t k).2.2.2)) wr lk ps (upd ((rk x1 y1 dp t k).1) ((rk x1 y1 dp t k).2.2.2) (nI x1)) (upd ((rk x1 y1 dp t k).2.1) ((rk x1 y1 dp t k).2.2.2) (nI y1)) (upd ((rk x1 y1 dp t k).2.2.1) ((rk x1 y1 dp t k).2.2.2) (dp)) lv) (x + 4) (.inr (2, [.ref (x + 5), .ref (x + 6), .ref (x + 7), .int (nI (((rk x1 y1 dp t k).2.2.2) + 1)), .int (wr)]))) H := hP; rw [xW_s4] at h9; exact h9
        refine lv_iinc (v := nI (k + 1)) (lv' := [(5, .int (nI (k + 1))), (0, .ref (x + 4)), (1, .int (nI x1)), (2, .int (nI y1)), (3, .int (dp)), (4, .int (nI mn))]) hx hb dX1_add_60 hl (k := 5) rfl (nI_1 _) (by decide) rfl (fun ls hl => ?_)
        refine lv_goto (tgt := 3) hx hb dX1_add_63 (by decide) ?_
        have e8 : (xW g w x pc mo no sz (nI (((rk x1 y1 dp t k).2.2.2) + 1)) wr lk ps (upd ((rk x1 y1 dp t k).1) ((rk x1 y1 dp t k).2.2.2) (nI x1)) (upd ((rk x1 y1 dp t k).2.1) ((rk x1 y1 dp t k).2.2.2) (nI y1)) (upd ((rk x1 y1 dp t k).2.2.1) ((rk x1 y1 dp t k).2.2.2) (dp)) lv) = (xW g w x pc mo no sz (nI ((rk x1 y1 dp t (k + 1)).2.2.2)) wr lk ps ((rk x1 y1 dp t (k + 1)).1) ((rk x1 y1 dp t (k + 1)).2.1) ((rk x1 y1 dp t (k + 1)).2.2.1) lv) := by rw [rk]
        rw [e8] at hP
        have hl : lv_has ls 6 [(0, .ref (x + 4)), (1, .int (nI x1)), (2, .int (nI y1)), (3, .int (dp)), (4, .int (nI mn)), (5, .int (nI (k + 1)))] := lv_sub hl [1, 2, 3, 4, 5, 0] rfl
        exact ih (k + 1) (by omega) (by omega) _ _ ls hP hS hl

set_option maxHeartbeats 4000000 in
set_option maxRecDepth 100000 in
theorem c_X1_add (l : Launch) (g : gX) (s0 : Nat) (w : wd_M) (x : Nat) (hs0 : s0 ≤ x) (pc : Int32) (mo : Int32) (no : Int32) (sz : Int32) (wr : Int32) (lk : Nat → Int32) (ps : Nat → Option Nat) (lv : Nat → Int32) (x1 y1 mn : Nat) (dp : Int32) (t : rT) (hmn : t.2.2.2 + mn ≤ 2000) (hm2 : mn < 2 ^ 31) : Met l yX1_add (Cond.code yX1_add cX1_add 6 (none) :: tg) ({ frames := 0, cells := 0, slots := 0, locals := 0 }) (cP g s0 (xW g w x pc mo no sz (nI t.2.2.2) wr lk ps (t.1) (t.2.1) (t.2.2.1) lv) [.ref (x + 4), .int (nI x1), .int (nI y1), .int (dp), .int (nI mn)]) (cV g s0 (fun w' => w' = (xW g w x pc mo no sz (nI ((rk x1 y1 dp t mn).2.2.2)) wr lk ps ((rk x1 y1 dp t mn).1) ((rk x1 y1 dp t mn).2.1) ((rk x1 y1 dp t mn).2.2.1) lv))) 0 0 (cA s0) := by
  refine Met.ofW (cc := cX1_add) (maxL := 6) (ret := none) (by decide) rfl ?_
  intro p e s m args below meth c s₁ B9 hml hv
  obtain ⟨rfl, h0s, hP, hK⟩ := hv
  have hx := B9.exec
  have hb := B9.bytes
  have hr := B9.returns
  have hts := atoms_spec (ws := Cond.code yX1_add cX1_add 6 (none) :: tg) B9.pre
  have hown : s.vm.findClass RX1 = some m.cls := findClass_of_methodNamed B9.named
  have hlocks := B9.notSynchronized
  have hS : gS s0 s.heap s.heap [] := va_S.rf
  have hRm : 0 ≤ (headSpec (Cond.code yX1_add cX1_add 6 (none) :: tg) ({ frames := 0, cells := 0, slots := 0, locals := 0 })).room.frames ∧ 0 ≤ (headSpec (Cond.code yX1_add cX1_add 6 (none) :: tg) ({ frames := 0, cells := 0, slots := 0, locals := 0 })).room.locals := ⟨Nat.le_refl _, Nat.le_refl _⟩
  have hcs : 0 + 0 ≤ (headSpec (Cond.code yX1_add cX1_add 6 (none) :: tg) ({ frames := 0, cells := 0, slots := 0, locals := 0 })).room.cells ∧ 0 + 0 ≤ (headSpec (Cond.code yX1_add cX1_add 6 (none) :: tg) ({ frames := 0, cells := 0, slots := 0, locals := 0 })).room.slots := ⟨Nat.zero_le _, Nat.zero_le _⟩
  have hl := lv_entry ([.ref (x + 4), .int (nI x1), .int (nI y1), .int (dp), .int (nI mn)]) (n := 6) (Nat.le_of_ble_eq_true rfl)
  rw [lg_entry_eq]
  generalize (lg_sl ([.ref (x + 4), .int (nI x1), .int (nI y1), .int (dp), .int (nI mn)]) ++ List.replicate (6 - (lg_sl ([.ref (x + 4), .int (nI x1), .int (nI y1), .int (dp), .int (nI mn)])).length) Slot.unset).toArray = ls at hl ⊢
  have hl : lv_has ls 6 [(0, .ref (x + 4)), (1, .int (nI x1)), (2, .int (nI y1)), (3, .int (dp)), (4, .int (nI mn))] := hl
  refine lv_iconst (v := nI 0) hx hb dX1_add_0 (by decide) ?_
  refine lv_istore (lv' := [(5, .int (nI 0)), (0, .ref (x + 4)), (1, .int (nI x1)), (2, .int (nI y1)), (3, .int (dp)), (4, .int (nI mn))]) hx hb dX1_add_1 hl (by decide) rfl (fun ls hl => ?_)
  have e8 : (xW g w x pc mo no sz (nI t.2.2.2) wr lk ps (t.1) (t.2.1) (t.2.2.1) lv) = (xW g w x pc mo no sz (nI ((rk x1 y1 dp t 0).2.2.2)) wr lk ps ((rk x1 y1 dp t 0).1) ((rk x1 y1 dp t 0).2.1) ((rk x1 y1 dp t 0).2.2.1) lv) := by rw [rk]
  rw [e8] at hP
  have hl : lv_has ls 6 [(0, .ref (x + 4)), (1, .int (nI x1)), (2, .int (nI y1)), (3, .int (dp)), (4, .int (nI mn)), (5, .int (nI 0))] := lv_sub hl [1, 2, 3, 4, 5, 0] rfl
  refine lp_add g s0 w x hs0 pc mo no sz wr lk ps lv x1 y1 mn dp t hmn hm2 hx hb hml hown hts hK h0s hRm hcs  ?_ (mn + 1) 0 (by omega) (by omega) _ _ ls hP hS hl
  intro H locs ls hP hS hl
  exact W.vret hx hb hr (fun t9 ht hW => ⟨⟨(xW g w x pc mo no sz (nI ((rk x1 y1 dp t mn).2.2.2)) wr lk ps ((rk x1 y1 dp t mn).1) ((rk x1 y1 dp t mn).2.1) ((rk x1 y1 dp t mn).2.2.1) lv), rfl, rfl, cB_of ht hP⟩, hS.F ht⟩) hS.2.2 dX1_add_66

