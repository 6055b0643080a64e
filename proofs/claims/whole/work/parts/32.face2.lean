/-! THE CLASS: keepOverOne, keepOverTwo, inverse, negated -/
/-- the PATHS of the class: where each lies and what it holds -/
def pool (g : gX) (w : wd_M) (x P : Nat) (ps : Nat → Option Nat) (qa : Nat → Nat) (KD LI : Nat → Int32) (IN OT : Nat → Option Nat) (PM : Nat → Nat) (CS CG : Nat → Int32) (TF : Nat → Nat → Nat) (JF : Nat → Nat → Int32) : Prop :=
  ∀ u, 1 ≤ u → u ≤ P → ps u = some (qa u) ∧ x + 9 ≤ qa u ∧ PM u < 2 ^ 63 ∧ w (qa u) = some (pO (nI u) (KD u) (LI u) (IN u) (OT u) (lN (PM u)) (qa u + 1) (qa u + 2) (CS u) (CG u)) ∧ w (qa u + 1) = some (wd_iA (g.2 0) 1024 (tN (TF u))) ∧ w (qa u + 2) = some (wd_iA (g.2 0) 32 (JF u))
set_option maxHeartbeats 4000000 in
set_option maxRecDepth 100000 in
theorem c_X3_keepOverOne_n (l : Launch) (g : gX) (s0 : Nat) (w : wd_M) (x : Nat) (hs0 : s0 ≤ x) (mo : Int32) (no : Int32) (sz : Int32) (rs : Int32) (wr : Int32) (lk : Nat → Int32) (ps : Nat → Option Nat) (fs : Nat → Int32) (ss : Nat → Int32) (ds : Nat → Int32) (lv : Nat → Int32) (P : Nat) (hP4 : P ≤ 40) (kd : Int32) : Met l yX3_keepOverOne (Cond.code yX3_keepOverOne cX3_keepOverOne 3 (some .int) :: tg) ({ frames := 3, cells := 3, slots := 1066, locals := 63 }) (cP g s0 (xW g w x (nI P) mo no sz rs wr lk ps fs ss ds lv) [.ref x, .int (kd), .null]) (cI g s0 (fun r w' => (r = -1 ∧ w' = (xW g w x (nI P) mo no sz rs wr lk ps fs ss ds lv)))) 3 1066 (cA s0) := by
  refine Met.ofW (cc := cX3_keepOverOne) (maxL := 3) (ret := some .int) (by decide) rfl ?_
  intro p e s m args below meth c s₁ B9 hml hv
  obtain ⟨rfl, h0s, hP, hK⟩ := hv
  have hx := B9.exec
  have hb := B9.bytes
  have hr := B9.returns
  have hts := atoms_spec (ws := Cond.code yX3_keepOverOne cX3_keepOverOne 3 (some .int) :: tg) B9.pre
  have hown : s.vm.findClass RX3 = some m.cls := findClass_of_methodNamed B9.named
  have hlocks := B9.notSynchronized
  have hS : gS s0 s.heap s.heap [] := va_S.rf
  have hRm : 3 ≤ (headSpec (Cond.code yX3_keepOverOne cX3_keepOverOne 3 (some .int) :: tg) ({ frames := 3, cells := 3, slots := 1066, locals := 63 })).room.frames ∧ 63 ≤ (headSpec (Cond.code yX3_keepOverOne cX3_keepOverOne 3 (some .int) :: tg) ({ frames := 3, cells := 3, slots := 1066, locals := 63 })).room.locals := ⟨Nat.le_refl _, Nat.le_refl _⟩
  have hcs : 0 + 0 ≤ (headSpec (Cond.code yX3_keepOverOne cX3_keepOverOne 3 (some .int) :: tg) ({ frames := 3, cells := 3, slots := 1066, locals := 63 })).room.cells ∧ 0 + 0 ≤ (headSpec (Cond.code yX3_keepOverOne cX3_keepOverOne 3 (some .int) :: tg) ({ frames := 3, cells := 3, slots := 1066, locals := 63 })).room.slots := ⟨Nat.zero_le _, Nat.zero_le _⟩
  have hl := lv_entry ([.ref x, .int (kd), .null]) (n := 3) (Nat.le_of_ble_eq_true rfl)
  rw [lg_entry_eq]
  generalize (lg_sl ([.ref x, .int (kd), .null]) ++ List.replicate (3 - (lg_sl ([.ref x, .int (kd), .null])).length) Slot.unset).toArray = ls at hl ⊢
  have hl : lv_has ls 3 [(0, .ref x), (1, .int (kd)), (2, .null)] := hl
  refine lv_aload_nN hx hb dX3_keepOverOne_0 rfl (lv_at hl 2 rfl) ?_
  refine lv_ifnonnullN hx hb dX3_keepOverOne_1 ?_
  refine lv_iconst (v := (-1)) hx hb dX3_keepOverOne_4 (by decide) ?_
  refine lv_goto (tgt := 16) hx hb dX3_keepOverOne_5 (by decide) ?_
  refine W.widen (k := 3) (n := 1066) (Nat.zero_le _) (Nat.zero_le _) ?_
  exact W.iret (v := (-1)) hx hb hr (fun t9 ht hW => ⟨⟨_, (xW g w x (nI P) mo no sz rs wr lk ps fs ss ds lv), rfl, ⟨rfl, rfl⟩, cB_of ht hP⟩, hS.F ht⟩) hS.2.2 dX3_keepOverOne_16

set_option maxHeartbeats 4000000 in
set_option maxRecDepth 100000 in
theorem c_X3_keepOverOne_i (l : Launch) (g : gX) (s0 : Nat) (w : wd_M) (x : Nat) (hs0 : s0 ≤ x) (mo : Int32) (no : Int32) (sz : Int32) (rs : Int32) (wr : Int32) (lk : Nat → Int32) (ps : Nat → Option Nat) (fs : Nat → Int32) (ss : Nat → Int32) (ds : Nat → Int32) (lv : Nat → Int32) (P : Nat) (hP4 : P ≤ 40) (kd : Int32) (q2 : Nat) (k2 kd2 li2 : Int32) (inn2 oth2 : Option Nat) (cs2 cg2 : Int32) (pm2 : Nat) (hpm2 : pm2 < 2 ^ 63) (J2 : Nat → Int32) (L2 : w q2 = some (pO k2 kd2 li2 inn2 oth2 (lN pm2) (q2 + 1) (q2 + 2) cs2 cg2)) (L2j : w (q2 + 2) = some (wd_iA (g.2 0) 32 J2)) (hx2 : q2 < x ∧ q2 + 3 ≤ x ∨ x + 9 ≤ q2) : Met l yX3_keepOverOne (Cond.code yX3_keepOverOne cX3_keepOverOne 3 (some .int) :: tg) ({ frames := 3, cells := 3, slots := 1066, locals := 63 }) (cP g s0 (xW g w x (nI P) mo no sz rs wr lk ps fs ss ds lv) [.ref x, .int (kd), .ref q2]) (cI g s0 (fun r w' => ((40 ≤ P ∧ r = -4 ∧ w' = (xW g w x (nI P) mo no sz rs wr lk ps fs ss ds lv)) ∨ (P < 40 ∧ ∃ q, x + 9 ≤ q ∧ (∀ a, q ≤ a → w a = none) ∧ r = nI (P + 1) ∧ w' = (xW g (pW g w q (nI (P + 1)) kd (nI 0) (some q2) none (lN (1 * 2 ^ (P + 1) ||| pm2)) (-1) (nI 0) (fun _ => 0) (fun _ => 0)) x (nI (P + 1)) mo no sz rs wr lk (va_up ps (P + 1) (some q)) fs ss ds lv))))) 3 1066 (cA s0) := by
  refine Met.ofW (cc := cX3_keepOverOne) (maxL := 3) (ret := some .int) (by decide) rfl ?_
  intro p e s m args below meth c s₁ B9 hml hv
  obtain ⟨rfl, h0s, hP, hK⟩ := hv
  have hx := B9.exec
  have hb := B9.bytes
  have hr := B9.returns
  have hts := atoms_spec (ws := Cond.code yX3_keepOverOne cX3_keepOverOne 3 (some .int) :: tg) B9.pre
  have hown : s.vm.findClass RX3 = some m.cls := findClass_of_methodNamed B9.named
  have hlocks := B9.notSynchronized
  have hS : gS s0 s.heap s.heap [] := va_S.rf
  have hRm : 3 ≤ (headSpec (Cond.code yX3_keepOverOne cX3_keepOverOne 3 (some .int) :: tg) ({ frames := 3, cells := 3, slots := 1066, locals := 63 })).room.frames ∧ 63 ≤ (headSpec (Cond.code yX3_keepOverOne cX3_keepOverOne 3 (some .int) :: tg) ({ frames := 3, cells := 3, slots := 1066, locals := 63 })).room.locals := ⟨Nat.le_refl _, Nat.le_refl _⟩
  have hcs : 0 + 0 ≤ (headSpec (Cond.code yX3_keepOverOne cX3_keepOverOne 3 (some .int) :: tg) ({ frames := 3, cells := 3, slots := 1066, locals := 63 })).room.cells ∧ 0 + 0 ≤ (headSpec (Cond.code yX3_keepOverOne cX3_keepOverOne 3 (some .int) :: tg) ({ frames := 3, cells := 3, slots := 1066, locals := 63 })).room.slots := ⟨Nat.zero_le _, Nat.zero_le _⟩
  have hl := lv_entry ([.ref x, .int (kd), .ref q2]) (n := 3) (Nat.le_of_ble_eq_true rfl)
  rw [lg_entry_eq]
  generalize (lg_sl ([.ref x, .int (kd), .ref q2]) ++ List.replicate (3 - (lg_sl ([.ref x, .int (kd), .ref q2])).length) Slot.unset).toArray = ls at hl ⊢
  have hl : lv_has ls 3 [(0, .ref x), (1, .int (kd)), (2, .ref q2)] := hl
  refine lv_aload_n hx hb dX3_keepOverOne_0 rfl (lv_at hl 2 rfl) ?_
  refine lv_ifnonnull (tgt := 8) hx hb dX3_keepOverOne_1 (by decide) ?_
  refine lv_aload_n hx hb dX3_keepOverOne_8 rfl (lv_at hl 0 rfl) ?_
  refine lv_iload_n hx hb dX3_keepOverOne_9 rfl (lv_at hl 1 rfl) ?_
  refine lv_iconst (v := nI 0) hx hb dX3_keepOverOne_10 (by decide) ?_
  refine lv_aload_n hx hb dX3_keepOverOne_11 rfl (lv_at hl 2 rfl) ?_
  refine lv_null hx hb dX3_keepOverOne_12 ?_
  refine cr_Vi (As := [.int (kd), .int (nI 0), .ref q2, .null]) (rest := []) ⟨hx, hb, hml, hown, hts⟩ (c_X3_keepPath_i l g s0  w x hs0 mo no sz rs wr lk ps fs ss ds lv P hP4 (kd) (nI 0) q2 k2 kd2 li2 inn2 oth2 cs2 cg2 pm2 hpm2 J2 L2 L2j hx2) (cw_V 4 hts tg_tail tw_113 tw_115 tp_0 tw_1 tw_116 rfl rfl (by decide +kernel) ⟨Nat.le_trans (by decide) hRm.1, Nat.le_trans (by decide) hRm.2⟩) hK hP h0s hS (xW_0) rfl rfl rfl hl.1 rfl (Nat.le_of_ble_eq_true rfl) dX3_keepOverOne_13 ⟨by decide +kernel, by decide +kernel⟩ (fun r9 w9 H locs hw hP hS => ?_)
  refine W.widen (k := 3) (n := 1066) (by decide +kernel) (by decide +kernel) ?_
  exact W.iret (v := r9) hx hb hr (fun t9 ht hW => ⟨⟨_, w9, rfl, hw, cB_of ht hP⟩, hS.F ht⟩) hS.2.2 dX3_keepOverOne_16

set_option maxHeartbeats 4000000 in
set_option maxRecDepth 100000 in
theorem c_X3_keepOverTwo_n (l : Launch) (g : gX) (s0 : Nat) (w : wd_M) (x : Nat) (hs0 : s0 ≤ x) (mo : Int32) (no : Int32) (sz : Int32) (rs : Int32) (wr : Int32) (lk : Nat → Int32) (ps : Nat → Option Nat) (fs : Nat → Int32) (ss : Nat → Int32) (ds : Nat → Int32) (lv : Nat → Int32) (P : Nat) (hP4 : P ≤ 40) (kd : Int32) : Met l yX3_keepOverTwo (Cond.code yX3_keepOverTwo cX3_keepOverTwo 4 (some .int) :: tg) ({ frames := 3, cells := 3, slots := 1066, locals := 63 }) (cP g s0 (xW g w x (nI P) mo no sz rs wr lk ps fs ss ds lv) [.ref x, .int (kd), .null, .null]) (cI g s0 (fun r w' => (r = -1 ∧ w' = (xW g w x (nI P) mo no sz rs wr lk ps fs ss ds lv)))) 3 1066 (cA s0) := by
  refine Met.ofW (cc := cX3_keepOverTwo) (maxL := 4) (ret := some .int) (by decide) rfl ?_
  intro p e s m args below meth c s₁ B9 hml hv
  obtain ⟨rfl, h0s, hP, hK⟩ := hv
  have hx := B9.exec
  have hb := B9.bytes
  have hr := B9.returns
  have hts := atoms_spec (ws := Cond.code yX3_keepOverTwo cX3_keepOverTwo 4 (some .int) :: tg) B9.pre
  have hown : s.vm.findClass RX3 = some m.cls := findClass_of_methodNamed B9.named
  have hlocks := B9.notSynchronized
  have hS : gS s0 s.heap s.heap [] := va_S.rf
  have hRm : 3 ≤ (headSpec (Cond.code yX3_keepOverTwo cX3_keepOverTwo 4 (some .int) :: tg) ({ frames := 3, cells := 3, slots := 1066, locals := 63 })).room.frames ∧ 63 ≤ (headSpec (Cond.code yX3_keepOverTwo cX3_keepOverTwo 4 (some .int) :: tg) ({ frames := 3, cells := 3, slots := 1066, locals := 63 })).room.locals := ⟨Nat.le_refl _, Nat.le_refl _⟩
  have hcs : 0 + 0 ≤ (headSpec (Cond.code yX3_keepOverTwo cX3_keepOverTwo 4 (some .int) :: tg) ({ frames := 3, cells := 3, slots := 1066, locals := 63 })).room.cells ∧ 0 + 0 ≤ (headSpec (Cond.code yX3_keepOverTwo cX3_keepOverTwo 4 (some .int) :: tg) ({ frames := 3, cells := 3, slots := 1066, locals := 63 })).room.slots := ⟨Nat.zero_le _, Nat.zero_le _⟩
  have hl := lv_entry ([.ref x, .int (kd), .null, .null]) (n := 4) (Nat.le_of_ble_eq_true rfl)
  rw [lg_entry_eq]
  generalize (lg_sl ([.ref x, .int (kd), .null, .null]) ++ List.replicate (4 - (lg_sl ([.ref x, .int (kd), .null, .null])).length) Slot.unset).toArray = ls at hl ⊢
  have hl : lv_has ls 4 [(0, .ref x), (1, .int (kd)), (2, .null), (3, .null)] := hl
  refine lv_aload_nN hx hb dX3_keepOverTwo_0 rfl (lv_at hl 2 rfl) ?_
  refine lv_ifnullN (tgt := 8) hx hb dX3_keepOverTwo_1 (by decide) ?_
  refine lv_iconst (v := (-1)) hx hb dX3_keepOverTwo_8 (by decide) ?_
  refine lv_goto (tgt := 20) hx hb dX3_keepOverTwo_9 (by decide) ?_
  refine W.widen (k := 3) (n := 1066) (Nat.zero_le _) (Nat.zero_le _) ?_
  exact W.iret (v := (-1)) hx hb hr (fun t9 ht hW => ⟨⟨_, (xW g w x (nI P) mo no sz rs wr lk ps fs ss ds lv), rfl, ⟨rfl, rfl⟩, cB_of ht hP⟩, hS.F ht⟩) hS.2.2 dX3_keepOverTwo_20

set_option maxHeartbeats 4000000 in
set_option maxRecDepth 100000 in
theorem c_X3_keepOverTwo_m (l : Launch) (g : gX) (s0 : Nat) (w : wd_M) (x : Nat) (hs0 : s0 ≤ x) (mo : Int32) (no : Int32) (sz : Int32) (rs : Int32) (wr : Int32) (lk : Nat → Int32) (ps : Nat → Option Nat) (fs : Nat → Int32) (ss : Nat → Int32) (ds : Nat → Int32) (lv : Nat → Int32) (P : Nat) (hP4 : P ≤ 40) (kd : Int32) (q3 : Nat) : Met l yX3_keepOverTwo (Cond.code yX3_keepOverTwo cX3_keepOverTwo 4 (some .int) :: tg) ({ frames := 3, cells := 3, slots := 1066, locals := 63 }) (cP g s0 (xW g w x (nI P) mo no sz rs wr lk ps fs ss ds lv) [.ref x, .int (kd), .null, .ref q3]) (cI g s0 (fun r w' => (r = -1 ∧ w' = (xW g w x (nI P) mo no sz rs wr lk ps fs ss ds lv)))) 3 1066 (cA s0) := by
  refine Met.ofW (cc := cX3_keepOverTwo) (maxL := 4) (ret := some .int) (by decide) rfl ?_
  intro p e s m args below meth c s₁ B9 hml hv
  obtain ⟨rfl, h0s, hP, hK⟩ := hv
  have hx := B9.exec
  have hb := B9.bytes
  have hr := B9.returns
  have hts := atoms_spec (ws := Cond.code yX3_keepOverTwo cX3_keepOverTwo 4 (some .int) :: tg) B9.pre
  have hown : s.vm.findClass RX3 = some m.cls := findClass_of_methodNamed B9.named
  have hlocks := B9.notSynchronized
  have hS : gS s0 s.heap s.heap [] := va_S.rf
  have hRm : 3 ≤ (headSpec (Cond.code yX3_keepOverTwo cX3_keepOverTwo 4 (some .int) :: tg) ({ frames := 3, cells := 3, slots := 1066, locals := 63 })).room.frames ∧ 63 ≤ (headSpec (Cond.code yX3_keepOverTwo cX3_keepOverTwo 4 (some .int) :: tg) ({ frames := 3, cells := 3, slots := 1066, locals := 63 })).room.locals := ⟨Nat.le_refl _, Nat.le_refl _⟩
  have hcs : 0 + 0 ≤ (headSpec (Cond.code yX3_keepOverTwo cX3_keepOverTwo 4 (some .int) :: tg) ({ frames := 3, cells := 3, slots := 1066, locals := 63 })).room.cells ∧ 0 + 0 ≤ (headSpec (Cond.code yX3_keepOverTwo cX3_keepOverTwo 4 (some .int) :: tg) ({ frames := 3, cells := 3, slots := 1066, locals := 63 })).room.slots := ⟨Nat.zero_le _, Nat.zero_le _⟩
  have hl := lv_entry ([.ref x, .int (kd), .null, .ref q3]) (n := 4) (Nat.le_of_ble_eq_true rfl)
  rw [lg_entry_eq]
  generalize (lg_sl ([.ref x, .int (kd), .null, .ref q3]) ++ List.replicate (4 - (lg_sl ([.ref x, .int (kd), .null, .ref q3])).length) Slot.unset).toArray = ls at hl ⊢
  have hl : lv_has ls 4 [(0, .ref x), (1, .int (kd)), (2, .null), (3, .ref q3)] := hl
  refine lv_aload_nN hx hb dX3_keepOverTwo_0 rfl (lv_at hl 2 rfl) ?_
  refine lv_ifnullN (tgt := 8) hx hb dX3_keepOverTwo_1 (by decide) ?_
  refine lv_iconst (v := (-1)) hx hb dX3_keepOverTwo_8 (by decide) ?_
  refine lv_goto (tgt := 20) hx hb dX3_keepOverTwo_9 (by decide) ?_
  refine W.widen (k := 3) (n := 1066) (Nat.zero_le _) (Nat.zero_le _) ?_
  exact W.iret (v := (-1)) hx hb hr (fun t9 ht hW => ⟨⟨_, (xW g w x (nI P) mo no sz rs wr lk ps fs ss ds lv), rfl, ⟨rfl, rfl⟩, cB_of ht hP⟩, hS.F ht⟩) hS.2.2 dX3_keepOverTwo_20

set_option maxHeartbeats 4000000 in
set_option maxRecDepth 100000 in
theorem c_X3_keepOverTwo_o (l : Launch) (g : gX) (s0 : Nat) (w : wd_M) (x : Nat) (hs0 : s0 ≤ x) (mo : Int32) (no : Int32) (sz : Int32) (rs : Int32) (wr : Int32) (lk : Nat → Int32) (ps : Nat → Option Nat) (fs : Nat → Int32) (ss : Nat → Int32) (ds : Nat → Int32) (lv : Nat → Int32) (P : Nat) (hP4 : P ≤ 40) (kd : Int32) (q2 : Nat) : Met l yX3_keepOverTwo (Cond.code yX3_keepOverTwo cX3_keepOverTwo 4 (some .int) :: tg) ({ frames := 3, cells := 3, slots := 1066, locals := 63 }) (cP g s0 (xW g w x (nI P) mo no sz rs wr lk ps fs ss ds lv) [.ref x, .int (kd), .ref q2, .null]) (cI g s0 (fun r w' => (r = -1 ∧ w' = (xW g w x (nI P) mo no sz rs wr lk ps fs ss ds lv)))) 3 1066 (cA s0) := by
  refine Met.ofW (cc := cX3_keepOverTwo) (maxL := 4) (ret := some .int) (by decide) rfl ?_
  intro p e s m args below meth c s₁ B9 hml hv
  obtain ⟨rfl, h0s, hP, hK⟩ := hv
  have hx := B9.exec
  have hb := B9.bytes
  have hr := B9.returns
  have hts := atoms_spec (ws := Cond.code yX3_keepOverTwo cX3_keepOverTwo 4 (some .int) :: tg) B9.pre
  have hown : s.vm.findClass RX3 = some m.cls := findClass_of_methodNamed B9.named
  have hlocks := B9.notSynchronized
  have hS : gS s0 s.heap s.heap [] := va_S.rf
  have hRm : 3 ≤ (headSpec (Cond.code yX3_keepOverTwo cX3_keepOverTwo 4 (some .int) :: tg) ({ frames := 3, cells := 3, slots := 1066, locals := 63 })).room.frames ∧ 63 ≤ (headSpec (Cond.code yX3_keepOverTwo cX3_keepOverTwo 4 (some .int) :: tg) ({ frames := 3, cells := 3, slots := 1066, locals := 63 })).room.locals := ⟨Nat.le_refl _, Nat.le_refl _⟩
  have hcs : 0 + 0 ≤ (headSpec (Cond.code yX3_keepOverTwo cX3_keepOverTwo 4 (some .int) :: tg) ({ frames := 3, cells := 3, slots := 1066, locals := 63 })).room.cells ∧ 0 + 0 ≤ (headSpec (Cond.code yX3_keepOverTwo cX3_keepOverTwo 4 (some .int) :: tg) ({ frames := 3, cells := 3, slots := 1066, locals := 63 })).room.slots := ⟨Nat.zero_le _, Nat.zero_le _⟩
  have hl := lv_entry ([.ref x, .int (kd), .ref q2, .null]) (n := 4) (Nat.le_of_ble_eq_true rfl)
  rw [lg_entry_eq]
  generalize (lg_sl ([.ref x, .int (kd), .ref q2, .null]) ++ List.replicate (4 - (lg_sl ([.ref x, .int (kd), .ref q2, .null])).length) Slot.unset).toArray = ls at hl ⊢
  have hl : lv_has ls 4 [(0, .ref x), (1, .int (kd)), (2, .ref q2), (3, .null)] := hl
  refine lv_aload_n hx hb dX3_keepOverTwo_0 rfl (lv_at hl 2 rfl) ?_
  refine lv_ifnull hx hb dX3_keepOverTwo_1 ?_
  refine lv_aload_nN hx hb dX3_keepOverTwo_4 rfl (lv_at hl 3 rfl) ?_
  refine lv_ifnonnullN hx hb dX3_keepOverTwo_5 ?_
  refine lv_iconst (v := (-1)) hx hb dX3_keepOverTwo_8 (by decide) ?_
  refine lv_goto (tgt := 20) hx hb dX3_keepOverTwo_9 (by decide) ?_
  refine W.widen (k := 3) (n := 1066) (Nat.zero_le _) (Nat.zero_le _) ?_
  exact W.iret (v := (-1)) hx hb hr (fun t9 ht hW => ⟨⟨_, (xW g w x (nI P) mo no sz rs wr lk ps fs ss ds lv), rfl, ⟨rfl, rfl⟩, cB_of ht hP⟩, hS.F ht⟩) hS.2.2 dX3_keepOverTwo_20

set_option maxHeartbeats 4000000 in
set_option maxRecDepth 100000 in
theorem c_X3_keepOverTwo_b (l : Launch) (g : gX) (s0 : Nat) (w : wd_M) (x : Nat) (hs0 : s0 ≤ x) (mo : Int32) (no : Int32) (sz : Int32) (rs : Int32) (wr : Int32) (lk : Nat → Int32) (ps : Nat → Option Nat) (fs : Nat → Int32) (ss : Nat → Int32) (ds : Nat → Int32) (lv : Nat → Int32) (P : Nat) (hP4 : P ≤ 40) (kd : Int32) (q2 : Nat) (k2 kd2 li2 : Int32) (inn2 oth2 : Option Nat) (cs2 cg2 : Int32) (pm2 : Nat) (hpm2 : pm2 < 2 ^ 63) (J2 : Nat → Int32) (L2 : w q2 = some (pO k2 kd2 li2 inn2 oth2 (lN pm2) (q2 + 1) (q2 + 2) cs2 cg2)) (L2j : w (q2 + 2) = some (wd_iA (g.2 0) 32 J2)) (hx2 : q2 < x ∧ q2 + 3 ≤ x ∨ x + 9 ≤ q2) (q3 : Nat) (k3 kd3 li3 : Int32) (inn3 oth3 : Option Nat) (cs3 cg3 : Int32) (pm3 : Nat) (hpm3 : pm3 < 2 ^ 63) (J3 : Nat → Int32) (L3 : w q3 = some (pO k3 kd3 li3 inn3 oth3 (lN pm3) (q3 + 1) (q3 + 2) cs3 cg3)) (L3j : w (q3 + 2) = some (wd_iA (g.2 0) 32 J3)) (hx3 : q3 < x ∧ q3 + 3 ≤ x ∨ x + 9 ≤ q3) : Met l yX3_keepOverTwo (Cond.code yX3_keepOverTwo cX3_keepOverTwo 4 (some .int) :: tg) ({ frames := 3, cells := 3, slots := 1066, locals := 63 }) (cP g s0 (xW g w x (nI P) mo no sz rs wr lk ps fs ss ds lv) [.ref x, .int (kd), .ref q2, .ref q3]) (cI g s0 (fun r w' => ((40 ≤ P ∧ r = -4 ∧ w' = (xW g w x (nI P) mo no sz rs wr lk ps fs ss ds lv)) ∨ (P < 40 ∧ ∃ q, x + 9 ≤ q ∧ (∀ a, q ≤ a → w a = none) ∧ r = nI (P + 1) ∧ w' = (xW g (pW g w q (nI (P + 1)) kd (nI 0) (some q2) (some q3) (lN (1 * 2 ^ (P + 1) ||| pm2 ||| pm3)) (-1) (nI 0) (fun _ => 0) (fun _ => 0)) x (nI (P + 1)) mo no sz rs wr lk (va_up ps (P + 1) (some q)) fs ss ds lv))))) 3 1066 (cA s0) := by
  refine Met.ofW (cc := cX3_keepOverTwo) (maxL := 4) (ret := some .int) (by decide) rfl ?_
  intro p e s m args below meth c s₁ B9 hml hv
  obtain ⟨rfl, h0s, hP, hK⟩ := hv
  have hx := B9.exec
  have hb := B9.bytes
  have hr := B9.returns
  have hts := atoms_spec (ws := Cond.code yX3_keepOverTwo cX3_keepOverTwo 4 (some .int) :: tg) B9.pre
  have hown : s.vm.findClass RX3 = some m.cls := findClass_of_methodNamed B9.named
  have hlocks := B9.notSynchronized
  have hS : gS s0 s.heap s.heap [] := va_S.rf
  have hRm : 3 ≤ (headSpec (Cond.code yX3_keepOverTwo cX3_keepOverTwo 4 (some .int) :: tg) ({ frames := 3, cells := 3, slots := 1066, locals := 63 })).room.frames ∧ 63 ≤ (headSpec (Cond.code yX3_keepOverTwo cX3_keepOverTwo 4 (some .int) :: tg) ({ frames := 3, cells := 3, slots := 1066, locals := 63 })).room.locals := ⟨Nat.le_refl _, Nat.le_refl _⟩
  have hcs : 0 + 0 ≤ (headSpec (Cond.code yX3_keepOverTwo cX3_keepOverTwo 4 (some .int) :: tg) ({ frames := 3, cells := 3, slots := 1066, locals := 63 })).room.cells ∧ 0 + 0 ≤ (headSpec (Cond.code yX3_keepOverTwo cX3_keepOverTwo 4 (some .int) :: tg) ({ frames := 3, cells := 3, slots := 1066, locals := 63 })).room.slots := ⟨Nat.zero_le _, Nat.zero_le _⟩
  have hl := lv_entry ([.ref x, .int (kd), .ref q2, .ref q3]) (n := 4) (Nat.le_of_ble_eq_true rfl)
  rw [lg_entry_eq]
  generalize (lg_sl ([.ref x, .int (kd), .ref q2, .ref q3]) ++ List.replicate (4 - (lg_sl ([.ref x, .int (kd), .ref q2, .ref q3])).length) Slot.unset).toArray = ls at hl ⊢
  have hl : lv_has ls 4 [(0, .ref x), (1, .int (kd)), (2, .ref q2), (3, .ref q3)] := hl
  refine lv_aload_n hx hb dX3_keepOverTwo_0 rfl (lv_at hl 2 rfl) ?_
  refine lv_ifnull hx hb dX3_keepOverTwo_1 ?_
  refine lv_aload_n hx hb dX3_keepOverTwo_4 rfl (lv_at hl 3 rfl) ?_
  refine lv_ifnonnull (tgt := 12) hx hb dX3_keepOverTwo_5 (by decide) ?_
  refine lv_aload_n hx hb dX3_keepOverTwo_12 rfl (lv_at hl 0 rfl) ?_
  refine lv_iload_n hx hb dX3_keepOverTwo_13 rfl (lv_at hl 1 rfl) ?_
  refine lv_iconst (v := nI 0) hx hb dX3_keepOverTwo_14 (by decide) ?_
  refine lv_aload_n hx hb dX3_keepOverTwo_15 rfl (lv_at hl 2 rfl) ?_
  refine lv_aload_n hx hb dX3_keepOverTwo_16 rfl (lv_at hl 3 rfl) ?_
  refine cr_Vi (As := [.int (kd), .int (nI 0), .ref q2, .ref q3]) (rest := []) ⟨hx, hb, hml, hown, hts⟩ (c_X3_keepPath_b l g s0  w x hs0 mo no sz rs wr lk ps fs ss ds lv P hP4 (kd) (nI 0) q2 k2 kd2 li2 inn2 oth2 cs2 cg2 pm2 hpm2 J2 L2 L2j hx2 q3 k3 kd3 li3 inn3 oth3 cs3 cg3 pm3 hpm3 J3 L3 L3j hx3) (cw_V 4 hts tg_tail tw_113 tw_115 tp_0 tw_1 tw_116 rfl rfl (by decide +kernel) ⟨Nat.le_trans (by decide) hRm.1, Nat.le_trans (by decide) hRm.2⟩) hK hP h0s hS (xW_0) rfl rfl rfl hl.1 rfl (Nat.le_of_ble_eq_true rfl) dX3_keepOverTwo_17 ⟨by decide +kernel, by decide +kernel⟩ (fun r9 w9 H locs hw hP hS => ?_)
  refine W.widen (k := 3) (n := 1066) (by decide +kernel) (by decide +kernel) ?_
  exact W.iret (v := r9) hx hb hr (fun t9 ht hW => ⟨⟨_, w9, rfl, hw, cB_of ht hP⟩, hS.F ht⟩) hS.2.2 dX3_keepOverTwo_20

set_option maxHeartbeats 4000000 in
set_option maxRecDepth 100000 in
theorem c_X3_inverse (l : Launch) (g : gX) (s0 : Nat) (w : wd_M) (x : Nat) (hs0 : s0 ≤ x) (mo : Int32) (no : Int32) (sz : Int32) (rs : Int32) (wr : Int32) (lk : Nat → Int32) (ps : Nat → Option Nat) (fs : Nat → Int32) (ss : Nat → Int32) (ds : Nat → Int32) (lv : Nat → Int32) (P : Nat) (hP4 : P ≤ 40) (qa : Nat → Nat) (KD LI : Nat → Int32) (IN OT : Nat → Option Nat) (PM : Nat → Nat) (CS CG : Nat → Int32) (TF : Nat → Nat → Nat) (JF : Nat → Nat → Int32) (hpl : pool g w x P ps qa KD LI IN OT PM CS CG TF JF) (v : Int32) : Met l yX3_inverse (Cond.code yX3_inverse cX3_inverse 2 (some .int) :: tg) ({ frames := 4, cells := 3, slots := 1066, locals := 85 }) (cP g s0 (xW g w x (nI P) mo no sz rs wr lk ps fs ss ds lv) [.ref x, .int (v)]) (cI g s0 (fun r w' => (¬ (nI 1 ≤ v ∧ v ≤ nI P) ∧ r = -1 ∧ w' = (xW g w x (nI P) mo no sz rs wr lk ps fs ss ds lv)) ∨ (∃ u, 1 ≤ u ∧ u ≤ P ∧ v = nI u ∧ ((40 ≤ P ∧ r = -4 ∧ w' = (xW g w x (nI P) mo no sz rs wr lk ps fs ss ds lv)) ∨ (P < 40 ∧ ∃ q, x + 9 ≤ q ∧ (∀ a, q ≤ a → w a = none) ∧ r = nI (P + 1) ∧ w' = (xW g (pW g w q (nI (P + 1)) (nI 1) (nI 0) (some (qa u)) none (lN (1 * 2 ^ (P + 1) ||| (PM u))) (-1) (nI 0) (fun _ => 0) (fun _ => 0)) x (nI (P + 1)) mo no sz rs wr lk (va_up ps (P + 1) (some q)) fs ss ds lv)))))) 3 1066 (cA s0) := by
  refine Met.ofW (cc := cX3_inverse) (maxL := 2) (ret := some .int) (by decide) rfl ?_
  intro p e s m args below meth c s₁ B9 hml hv
  obtain ⟨rfl, h0s, hP, hK⟩ := hv
  have hx := B9.exec
  have hb := B9.bytes
  have hr := B9.returns
  have hts := atoms_spec (ws := Cond.code yX3_inverse cX3_inverse 2 (some .int) :: tg) B9.pre
  have hown : s.vm.findClass RX3 = some m.cls := findClass_of_methodNamed B9.named
  have hlocks := B9.notSynchronized
  have hS : gS s0 s.heap s.heap [] := va_S.rf
  have hRm : 4 ≤ (headSpec (Cond.code yX3_inverse cX3_inverse 2 (some .int) :: tg) ({ frames := 4, cells := 3, slots := 1066, locals := 85 })).room.frames ∧ 85 ≤ (headSpec (Cond.code yX3_inverse cX3_inverse 2 (some .int) :: tg) ({ frames := 4, cells := 3, slots := 1066, locals := 85 })).room.locals := ⟨Nat.le_refl _, Nat.le_refl _⟩
  have hcs : 0 + 0 ≤ (headSpec (Cond.code yX3_inverse cX3_inverse 2 (some .int) :: tg) ({ frames := 4, cells := 3, slots := 1066, locals := 85 })).room.cells ∧ 0 + 0 ≤ (headSpec (Cond.code yX3_inverse cX3_inverse 2 (some .int) :: tg) ({ frames := 4, cells := 3, slots := 1066, locals := 85 })).room.slots := ⟨Nat.zero_le _, Nat.zero_le _⟩
  have hl := lv_entry ([.ref x, .int (v)]) (n := 2) (Nat.le_of_ble_eq_true rfl)
  rw [lg_entry_eq]
  generalize (lg_sl ([.ref x, .int (v)]) ++ List.replicate (2 - (lg_sl ([.ref x, .int (v)])).length) Slot.unset).toArray = ls at hl ⊢
  have hl : lv_has ls 2 [(0, .ref x), (1, .int (v))] := hl
  refine lv_aload_n hx hb dX3_inverse_0 rfl (lv_at hl 0 rfl) ?_
  refine lv_iconst (v := nI 1) hx hb dX3_inverse_1 (by decide) ?_
  refine lv_aload_n hx hb dX3_inverse_2 rfl (lv_at hl 0 rfl) ?_
  refine lv_iload_n hx hb dX3_inverse_3 rfl (lv_at hl 1 rfl) ?_
  refine cr_Vo (As := [.int (v)]) (rest := [.int (nI 1), .ref x]) ⟨hx, hb, hml, hown, hts⟩ (c_X3_known l g s0  w x hs0 mo no sz rs wr lk ps fs ss ds lv P hP4 (v)) (cw_V 1 hts tg_tail tw_155 tw_157 tp_1 tw_1 tw_158 rfl rfl (by decide +kernel) ⟨Nat.le_trans (by decide) hRm.1, Nat.le_trans (by decide) hRm.2⟩) hK hP h0s hS (xW_0) rfl rfl rfl hl.1 rfl (Nat.le_of_ble_eq_true rfl) dX3_inverse_4 hcs (fun r9 w9 H locs hw hP hS => ?_)
  rcases hw with ⟨n_u, e_r9, hw9⟩ | ⟨u, h1_u, h2_u, v_u, e_r9, hw9⟩
  · rw [hw9] at hP
    subst e_r9
    show W p l e _ s m _ below meth c H locs _ _ _ (F0 m 7 ls (.null :: .int (nI 1) :: .ref x :: []))
    refine cr_Vi (As := [.int (nI 1), .null]) (rest := []) ⟨hx, hb, hml, hown, hts⟩ (c_X3_keepOverOne_n l g s0  w x hs0 mo no sz rs wr lk ps fs ss ds lv P hP4 (nI 1)) (cw_V 2 hts tg_tail tw_163 tw_165 tp_3 tw_1 tw_166 rfl rfl (by decide +kernel) ⟨Nat.le_trans (by decide) hRm.1, Nat.le_trans (by decide) hRm.2⟩) hK hP h0s hS (xW_0) rfl rfl rfl hl.1 rfl (Nat.le_of_ble_eq_true rfl) dX3_inverse_7 ⟨by decide +kernel, by decide +kernel⟩ (fun r8 w9 H locs hw hP hS => ?_)
    refine W.widen (k := 3) (n := 1066) (by decide +kernel) (by decide +kernel) ?_
    exact W.iret (v := r8) hx hb hr (fun t9 ht hW => ⟨⟨_, w9, rfl, Or.inl ⟨n_u, hw.1, hw.2⟩, cB_of ht hP⟩, hS.F ht⟩) hS.2.2 dX3_inverse_10
  · rw [hw9] at hP
    obtain ⟨a1_u, a2_u, a3_u, a4_u, a5_u, a6_u⟩ := hpl u h1_u h2_u
    rw [a1_u] at e_r9
    subst e_r9
    show W p l e _ s m _ below meth c H locs _ _ _ (F0 m 7 ls (.ref (qa u) :: .int (nI 1) :: .ref x :: []))
    refine cr_Vi (As := [.int (nI 1), .ref (qa u)]) (rest := []) ⟨hx, hb, hml, hown, hts⟩ (c_X3_keepOverOne_i l g s0  w x hs0 mo no sz rs wr lk ps fs ss ds lv P hP4 (nI 1) (qa u) (nI u) (KD u) (LI u) (IN u) (OT u) (CS u) (CG u) (PM u) a3_u (JF u) a4_u a6_u (Or.inr a2_u)) (cw_V 2 hts tg_tail tw_163 tw_165 tp_3 tw_1 tw_166 rfl rfl (by decide +kernel) ⟨Nat.le_trans (by decide) hRm.1, Nat.le_trans (by decide) hRm.2⟩) hK hP h0s hS (xW_0) rfl rfl rfl hl.1 rfl (Nat.le_of_ble_eq_true rfl) dX3_inverse_7 ⟨by decide +kernel, by decide +kernel⟩ (fun r8 w9 H locs hw hP hS => ?_)
    refine W.widen (k := 3) (n := 1066) (by decide +kernel) (by decide +kernel) ?_
    exact W.iret (v := r8) hx hb hr (fun t9 ht hW => ⟨⟨_, w9, rfl, Or.inr ⟨u, h1_u, h2_u, v_u, hw⟩, cB_of ht hP⟩, hS.F ht⟩) hS.2.2 dX3_inverse_10

set_option maxHeartbeats 4000000 in
set_option maxRecDepth 100000 in
theorem c_X3_negated (l : Launch) (g : gX) (s0 : Nat) (w : wd_M) (x : Nat) (hs0 : s0 ≤ x) (mo : Int32) (no : Int32) (sz : Int32) (rs : Int32) (wr : Int32) (lk : Nat → Int32) (ps : Nat → Option Nat) (fs : Nat → Int32) (ss : Nat → Int32) (ds : Nat → Int32) (lv : Nat → Int32) (P : Nat) (hP4 : P ≤ 40) (pv ov : Int32) : Met l yX3_negated (Cond.code yX3_negated cX3_negated 4 (some .int) :: tg) ({ frames := 3, cells := 3, slots := 1066, locals := 63 }) (cP g s0 (xW g w x (nI P) mo no sz rs wr lk ps fs ss ds lv) [.ref x, .int (pv), .int (ov)]) (cI g s0 (fun r w' => (¬ ((0 ≤ pv ∧ pv < nI 16) ∧ (ov = -1 ∨ (0 ≤ ov ∧ ov < nI 16))) ∧ r = -2 ∧ w' = (xW g w x (nI P) mo no sz rs wr lk ps fs ss ds lv)) ∨ (((0 ≤ pv ∧ pv < nI 16) ∧ (ov = -1 ∨ (0 ≤ ov ∧ ov < nI 16))) ∧ ov = -1 ∧ ((40 ≤ P ∧ r = -4 ∧ w' = (xW g w x (nI P) mo no sz rs wr lk ps fs ss ds lv)) ∨ (P < 40 ∧ ∃ q, x + 9 ≤ q ∧ (∀ a, q ≤ a → w a = none) ∧ r = nI (P + 1) ∧ w' = (xW g (pW g w q (nI (P + 1)) (nI 7) ((65535 : Int32) &&& (((1 : Int32) <<< (pv &&& 31)) ^^^ (-1))) none none (lN (1 * 2 ^ (P + 1))) (-1) (nI 0) (fun _ => 0) (fun _ => 0)) x (nI (P + 1)) mo no sz rs wr lk (va_up ps (P + 1) (some q)) fs ss ds lv)))) ∨ (((0 ≤ pv ∧ pv < nI 16) ∧ (ov = -1 ∨ (0 ≤ ov ∧ ov < nI 16))) ∧ ¬ ov = -1 ∧ ((40 ≤ P ∧ r = -4 ∧ w' = (xW g w x (nI P) mo no sz rs wr lk ps fs ss ds lv)) ∨ (P < 40 ∧ ∃ q, x + 9 ≤ q ∧ (∀ a, q ≤ a → w a = none) ∧ r = nI (P + 1) ∧ w' = (xW g (pW g w q (nI (P + 1)) (nI 7) ((65535 : Int32) &&& ((((1 : Int32) <<< (pv &&& 31)) ||| ((1 : Int32) <<< (ov &&& 31))) ^^^ (-1))) none none (lN (1 * 2 ^ (P + 1))) (-1) (nI 0) (fun _ => 0) (fun _ => 0)) x (nI (P + 1)) mo no sz rs wr lk (va_up ps (P + 1) (some q)) fs ss ds lv)))))) 3 1066 (cA s0) := by
  refine Met.ofW (cc := cX3_negated) (maxL := 4) (ret := some .int) (by decide) rfl ?_
  intro p e s m args below meth c s₁ B9 hml hv
  obtain ⟨rfl, h0s, hP, hK⟩ := hv
  have hx := B9.exec
  have hb := B9.bytes
  have hr := B9.returns
  have hts := atoms_spec (ws := Cond.code yX3_negated cX3_negated 4 (some .int) :: tg) B9.pre
  have hown : s.vm.findClass RX3 = some m.cls := findClass_of_methodNamed B9.named
  have hlocks := B9.notSynchronized
  have hS : gS s0 s.heap s.heap [] := va_S.rf
  have hRm : 3 ≤ (headSpec (Cond.code yX3_negated cX3_negated 4 (some .int) :: tg) ({ frames := 3, cells := 3, slots := 1066, locals := 63 })).room.frames ∧ 63 ≤ (headSpec (Cond.code yX3_negated cX3_negated 4 (some .int) :: tg) ({ frames := 3, cells := 3, slots := 1066, locals := 63 })).room.locals := ⟨Nat.le_refl _, Nat.le_refl _⟩
  have hcs : 0 + 0 ≤ (headSpec (Cond.code yX3_negated cX3_negated 4 (some .int) :: tg) ({ frames := 3, cells := 3, slots := 1066, locals := 63 })).room.cells ∧ 0 + 0 ≤ (headSpec (Cond.code yX3_negated cX3_negated 4 (some .int) :: tg) ({ frames := 3, cells := 3, slots := 1066, locals := 63 })).room.slots := ⟨Nat.zero_le _, Nat.zero_le _⟩
  have hl := lv_entry ([.ref x, .int (pv), .int (ov)]) (n := 4) (Nat.le_of_ble_eq_true rfl)
  rw [lg_entry_eq]
  generalize (lg_sl ([.ref x, .int (pv), .int (ov)]) ++ List.replicate (4 - (lg_sl ([.ref x, .int (pv), .int (ov)])).length) Slot.unset).toArray = ls at hl ⊢
  have hl : lv_has ls 4 [(0, .ref x), (1, .int (pv)), (2, .int (ov))] := hl
  refine lv_iload_n hx hb dX3_negated_0 rfl (lv_at hl 1 rfl) ?_
  refine cr_Si (As := [.int (pv)]) (rest := []) ⟨hx, hb, hml, hown, hts⟩ (c_X3_isPredicate l g s0 (xW g w x (nI P) mo no sz rs wr lk ps fs ss ds lv) pv) (cw_S 1 hts tg_tail tw_95 tw_96 tw_1 tw_97 rfl rfl (by decide +kernel) ⟨Nat.le_trans (by decide) hRm.1, Nat.le_trans (by decide) hRm.2⟩) hK hP h0s hS rfl hl.1 rfl (Nat.le_of_ble_eq_true rfl) dX3_negated_1 hcs (fun r9 w9 H locs hw hP hS => ?_)
  obtain ⟨e_r9, hw9⟩ := hw
  rw [hw9] at hP
  subst e_r9
  refine lv_if_eq (tgt := 19) hx hb dX3_negated_4 (by decide) (fun c_4 => ?_) (fun c_4 => ?_)
  · have c_4 := zB_0.mp c_4
    refine lv_bipush (v := (-2)) hx hb dX3_negated_19 (by decide) ?_
    refine W.widen (k := 3) (n := 1066) (Nat.zero_le _) (Nat.zero_le _) ?_
    exact W.iret (v := (-2)) hx hb hr (fun t9 ht hW => ⟨⟨_, (xW g w x (nI P) mo no sz rs wr lk ps fs ss ds lv), rfl, Or.inl ⟨fun q9 => c_4 q9.1, rfl, rfl⟩, cB_of ht hP⟩, hS.F ht⟩) hS.2.2 dX3_negated_21
  · have c_4 := zB_1.mp c_4
    refine lv_iload_n hx hb dX3_negated_7 rfl (lv_at hl 2 rfl) ?_
    refine lv_iconst (v := (-1)) hx hb dX3_negated_8 (by decide) ?_
    refine lv_icmp_eq (tgt := 22) hx hb dX3_negated_9 (by decide) (fun c_9 => ?_) (fun c_9 => ?_)
    · refine lv_iconst (v := (1 : Int32)) hx hb dX3_negated_22 (by decide) ?_
      refine lv_iload_n hx hb dX3_negated_23 rfl (lv_at hl 1 rfl) ?_
      refine lv_ishl hx hb dX3_negated_24 ?_
      refine lv_istore_n (lv' := [(3, .int (((1 : Int32)) <<< ((pv) &&& 31))), (0, .ref x), (1, .int (pv)), (2, .int (ov))]) hx hb dX3_negated_25 rfl hl (by decide) rfl (fun ls hl => ?_)
      refine lv_iload_n hx hb dX3_negated_26 rfl (lv_at hl 3 rfl) ?_
      refine lv_iconst (v := (-1)) hx hb dX3_negated_27 (by decide) ?_
      refine lv_icmp_eq (tgt := 37) hx hb dX3_negated_28 (by decide) (fun c_28 => ?_) (fun c_28 => ?_)
      · refine lv_aload_n hx hb dX3_negated_37 rfl (lv_at hl 1 rfl) ?_
        refine lv_bipush (v := nI 7) hx hb dX3_negated_38 (by decide) ?_
        refine lv_ldc hx hb hown (hts _ (tg_tail _ tw_336)) dX3_negated_40 ?_
        refine wd_ti (x' := (65535 : Int32)) (by decide +kernel) ?_
        refine lv_iload_n hx hb dX3_negated_42 rfl (lv_at hl 0 rfl) ?_
        refine lv_iconst (v := (-1)) hx hb dX3_negated_43 (by decide) ?_
        refine lv_ixor hx hb dX3_negated_44 ?_
        refine lv_iand hx hb dX3_negated_45 ?_
        refine lv_null hx hb dX3_negated_46 ?_
        refine lv_null hx hb dX3_negated_47 ?_
        refine cr_Vi (As := [.int (nI 7), .int (((65535 : Int32)) &&& ((((1 : Int32)) <<< ((pv) &&& 31)) ^^^ ((-1)))), .null, .null]) (rest := []) ⟨hx, hb, hml, hown, hts⟩ (c_X3_keepPath_n l g s0  w x hs0 mo no sz rs wr lk ps fs ss ds lv P hP4 (nI 7) (((65535 : Int32)) &&& ((((1 : Int32)) <<< ((pv) &&& 31)) ^^^ ((-1))))) (cw_V 4 hts tg_tail tw_113 tw_115 tp_0 tw_1 tw_116 rfl rfl (by decide +kernel) ⟨Nat.le_trans (by decide) hRm.1, Nat.le_trans (by decide) hRm.2⟩) hK hP h0s hS (xW_0) rfl rfl rfl hl.1 rfl (Nat.le_of_ble_eq_true rfl) dX3_negated_48 ⟨by decide +kernel, by decide +kernel⟩ (fun r9 w9 H locs hw hP hS => ?_)
        refine W.widen (k := 3) (n := 1066) (by decide +kernel) (by decide +kernel) ?_
        exact W.iret (v := r9) hx hb hr (fun t9 ht hW => ⟨⟨_, w9, rfl, Or.inr (Or.inl ⟨⟨c_4, Or.inl c_28⟩, c_28, hw⟩), cB_of ht hP⟩, hS.F ht⟩) hS.2.2 dX3_negated_51
      · refine lv_iload_n hx hb dX3_negated_31 rfl (lv_at hl 0 rfl) ?_
        refine lv_iconst (v := (1 : Int32)) hx hb dX3_negated_32 (by decide) ?_
        refine lv_iload_n hx hb dX3_negated_33 rfl (lv_at hl 3 rfl) ?_
        refine lv_ishl hx hb dX3_negated_34 ?_
        refine lv_ior hx hb dX3_negated_35 ?_
        refine lv_istore_n (lv' := [(3, .int ((((1 : Int32)) <<< ((pv) &&& 31)) ||| (((1 : Int32)) <<< ((ov) &&& 31)))), (0, .ref x), (1, .int (pv)), (2, .int (ov))]) hx hb dX3_negated_36 rfl hl (by decide) rfl (fun ls hl => ?_)
        refine lv_aload_n hx hb dX3_negated_37 rfl (lv_at hl 1 rfl) ?_
        refine lv_bipush (v := nI 7) hx hb dX3_negated_38 (by decide) ?_
        refine lv_ldc hx hb hown (hts _ (tg_tail _ tw_336)) dX3_negated_40 ?_
        refine wd_ti (x' := (65535 : Int32)) (by decide +kernel) ?_
        refine lv_iload_n hx hb dX3_negated_42 rfl (lv_at hl 0 rfl) ?_
        refine lv_iconst (v := (-1)) hx hb dX3_negated_43 (by decide) ?_
        refine lv_ixor hx hb dX3_negated_44 ?_
        refine lv_iand hx hb dX3_negated_45 ?_
        refine lv_null hx hb dX3_negated_46 ?_
        refine lv_null hx hb dX3_negated_47 ?_
        refine cr_Vi (As := [.int (nI 7), .int (((65535 : Int32)) &&& (((((1 : Int32)) <<< ((pv) &&& 31)) ||| (((1 : Int32)) <<< ((ov) &&& 31))) ^^^ ((-1)))), .null, .null]) (rest := []) ⟨hx, hb, hml, hown, hts⟩ (c_X3_keepPath_n l g s0  w x hs0 mo no sz rs wr lk ps fs ss ds lv P hP4 (nI 7) (((65535 : Int32)) &&& (((((1 : Int32)) <<< ((pv) &&& 31)) ||| (((1 : Int32)) <<< ((ov) &&& 31))) ^^^ ((-1))))) (cw_V 4 hts tg_tail tw_113 tw_115 tp_0 tw_1 tw_116 rfl rfl (by decide +kernel) ⟨Nat.le_trans (by decide) hRm.1, Nat.le_trans (by decide) hRm.2⟩) hK hP h0s hS (xW_0) rfl rfl rfl hl.1 rfl (Nat.le_of_ble_eq_true rfl) dX3_negated_48 ⟨by decide +kernel, by decide +kernel⟩ (fun r9 w9 H locs hw hP hS => ?_)
        exact absurd c_9 c_28
    · refine lv_iload_n hx hb dX3_negated_12 rfl (lv_at hl 2 rfl) ?_
      refine cr_Si (As := [.int (ov)]) (rest := []) ⟨hx, hb, hml, hown, hts⟩ (c_X3_isPredicate l g s0 (xW g w x (nI P) mo no sz rs wr lk ps fs ss ds lv) ov) (cw_S 1 hts tg_tail tw_95 tw_96 tw_1 tw_97 rfl rfl (by decide +kernel) ⟨Nat.le_trans (by decide) hRm.1, Nat.le_trans (by decide) hRm.2⟩) hK hP h0s hS rfl hl.1 rfl (Nat.le_of_ble_eq_true rfl) dX3_negated_13 hcs (fun r9 w9 H locs hw hP hS => ?_)
      obtain ⟨e_r9, hw9⟩ := hw
      rw [hw9] at hP
      subst e_r9
      refine lv_if_ne (tgt := 22) hx hb dX3_negated_16 (by decide) (fun c_16 => ?_) (fun c_16 => ?_)
      · have c_16 := zB_1.mp c_16
        refine lv_iconst (v := (1 : Int32)) hx hb dX3_negated_22 (by decide) ?_
        refine lv_iload_n hx hb dX3_negated_23 rfl (lv_at hl 1 rfl) ?_
        refine lv_ishl hx hb dX3_negated_24 ?_
        refine lv_istore_n (lv' := [(3, .int (((1 : Int32)) <<< ((pv) &&& 31))), (0, .ref x), (1, .int (pv)), (2, .int (ov))]) hx hb dX3_negated_25 rfl hl (by decide) rfl (fun ls hl => ?_)
        refine lv_iload_n hx hb dX3_negated_26 rfl (lv_at hl 3 rfl) ?_
        refine lv_iconst (v := (-1)) hx hb dX3_negated_27 (by decide) ?_
        refine lv_icmp_eq (tgt := 37) hx hb dX3_negated_28 (by decide) (fun c_28 => ?_) (fun c_28 => ?_)
        · refine lv_aload_n hx hb dX3_negated_37 rfl (lv_at hl 1 rfl) ?_
          refine lv_bipush (v := nI 7) hx hb dX3_negated_38 (by decide) ?_
          refine lv_ldc hx hb hown (hts _ (tg_tail _ tw_336)) dX3_negated_40 ?_
          refine wd_ti (x' := (65535 : Int32)) (by decide +kernel) ?_
          refine lv_iload_n hx hb dX3_negated_42 rfl (lv_at hl 0 rfl) ?_
          refine lv_iconst (v := (-1)) hx hb dX3_negated_43 (by decide) ?_
          refine lv_ixor hx hb dX3_negated_44 ?_
          refine lv_iand hx hb dX3_negated_45 ?_
          refine lv_null hx hb dX3_negated_46 ?_
          refine lv_null hx hb dX3_negated_47 ?_
          refine cr_Vi (As := [.int (nI 7), .int (((65535 : Int32)) &&& ((((1 : Int32)) <<< ((pv) &&& 31)) ^^^ ((-1)))), .null, .null]) (rest := []) ⟨hx, hb, hml, hown, hts⟩ (c_X3_keepPath_n l g s0  w x hs0 mo no sz rs wr lk ps fs ss ds lv P hP4 (nI 7) (((65535 : Int32)) &&& ((((1 : Int32)) <<< ((pv) &&& 31)) ^^^ ((-1))))) (cw_V 4 hts tg_tail tw_113 tw_115 tp_0 tw_1 tw_116 rfl rfl (by decide +kernel) ⟨Nat.le_trans (by decide) hRm.1, Nat.le_trans (by decide) hRm.2⟩) hK hP h0s hS (xW_0) rfl rfl rfl hl.1 rfl (Nat.le_of_ble_eq_true rfl) dX3_negated_48 ⟨by decide +kernel, by decide +kernel⟩ (fun r9 w9 H locs hw hP hS => ?_)
          refine W.widen (k := 3) (n := 1066) (by decide +kernel) (by decide +kernel) ?_
          exact W.iret (v := r9) hx hb hr (fun t9 ht hW => ⟨⟨_, w9, rfl, Or.inr (Or.inl ⟨⟨c_4, Or.inl c_28⟩, c_28, hw⟩), cB_of ht hP⟩, hS.F ht⟩) hS.2.2 dX3_negated_51
        · refine lv_iload_n hx hb dX3_negated_31 rfl (lv_at hl 0 rfl) ?_
          refine lv_iconst (v := (1 : Int32)) hx hb dX3_negated_32 (by decide) ?_
          refine lv_iload_n hx hb dX3_negated_33 rfl (lv_at hl 3 rfl) ?_
          refine lv_ishl hx hb dX3_negated_34 ?_
          refine lv_ior hx hb dX3_negated_35 ?_
          refine lv_istore_n (lv' := [(3, .int ((((1 : Int32)) <<< ((pv) &&& 31)) ||| (((1 : Int32)) <<< ((ov) &&& 31)))), (0, .ref x), (1, .int (pv)), (2, .int (ov))]) hx hb dX3_negated_36 rfl hl (by decide) rfl (fun ls hl => ?_)
          refine lv_aload_n hx hb dX3_negated_37 rfl (lv_at hl 1 rfl) ?_
          refine lv_bipush (v := nI 7) hx hb dX3_negated_38 (by decide) ?_
          refine lv_ldc hx hb hown (hts _ (tg_tail _ tw_336)) dX3_negated_40 ?_
          refine wd_ti (x' := (65535 : Int32)) (by decide +kernel) ?_
          refine lv_iload_n hx hb dX3_negated_42 rfl (lv_at hl 0 rfl) ?_
          refine lv_iconst (v := (-1)) hx hb dX3_negated_43 (by decide) ?_
          refine lv_ixor hx hb dX3_negated_44 ?_
          refine lv_iand hx hb dX3_negated_45 ?_
          refine lv_null hx hb dX3_negated_46 ?_
          refine lv_null hx hb dX3_negated_47 ?_
          refine cr_Vi (As := [.int (nI 7), .int (((65535 : Int32)) &&& (((((1 : Int32)) <<< ((pv) &&& 31)) ||| (((1 : Int32)) <<< ((ov) &&& 31))) ^^^ ((-1)))), .null, .null]) (rest := []) ⟨hx, hb, hml, hown, hts⟩ (c_X3_keepPath_n l g s0  w x hs0 mo no sz rs wr lk ps fs ss ds lv P hP4 (nI 7) (((65535 : Int32)) &&& (((((1 : Int32)) <<< ((pv) &&& 31)) ||| (((1 : Int32)) <<< ((ov) &&& 31))) ^^^ ((-1))))) (cw_V 4 hts tg_tail tw_113 tw_115 tp_0 tw_1 tw_116 rfl rfl (by decide +kernel) ⟨Nat.le_trans (by decide) hRm.1, Nat.le_trans (by decide) hRm.2⟩) hK hP h0s hS (xW_0) rfl rfl rfl hl.1 rfl (Nat.le_of_ble_eq_true rfl) dX3_negated_48 ⟨by decide +kernel, by decide +kernel⟩ (fun r9 w9 H locs hw hP hS => ?_)
          refine W.widen (k := 3) (n := 1066) (by decide +kernel) (by decide +kernel) ?_
          exact W.iret (v := r9) hx hb hr (fun t9 ht hW => ⟨⟨_, w9, rfl, Or.inr (Or.inr ⟨⟨c_4, Or.inr c_16⟩, c_28, hw⟩), cB_of ht hP⟩, hS.F ht⟩) hS.2.2 dX3_negated_51
      · have c_16 := zB_0.mp c_16
        refine lv_bipush (v := (-2)) hx hb dX3_negated_19 (by decide) ?_
        refine W.widen (k := 3) (n := 1066) (Nat.zero_le _) (Nat.zero_le _) ?_
        exact W.iret (v := (-2)) hx hb hr (fun t9 ht hW => ⟨⟨_, (xW g w x (nI P) mo no sz rs wr lk ps fs ss ds lv), rfl, Or.inl ⟨fun q9 => q9.2.elim c_9 c_16, rfl, rfl⟩, cB_of ht hP⟩, hS.F ht⟩) hS.2.2 dX3_negated_21

