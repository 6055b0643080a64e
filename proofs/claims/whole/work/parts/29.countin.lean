/-! THE CLASS: countIn -/
def fN (F : Nat → Nat) : Nat → Nat → Nat
  | 0 => F
  | k + 1 => va_up (fN F k) k 0
termination_by k => k
theorem fo2_tN {F : Nat → Nat} : ∀ k, fo2 (tN F) k = tN (fN F k) := by
  intro k
  induction k with
  | zero => rw [fo2, fN]
  | succ k ih => rw [fo2, fN, ih, tN_up]
theorem fN_B {F : Nat → Nat} (h : mB F) : ∀ k, mB (fN F k) := by
  intro k
  induction k with
  | zero => rw [fN]; exact h
  | succ k ih => rw [fN]; exact mB_up (v := 0) ih
/-- a PATH's rows, forgotten -/
def t0 (F : Nat → Nat) (j : Nat → Int32) : aT := (fN F 1024, fo1 j 32)
theorem t0_B {F : Nat → Nat} {j : Nat → Int32} (h : mB F) : mB (t0 F j).1 := by
  show mB (fN F 1024)
  exact fN_B h 1024
set_option maxHeartbeats 4000000 in
set_option maxRecDepth 100000 in
theorem c_X0_countIn_n (l : Launch) (g : gX) (s0 : Nat) (w : wd_M) (q : Nat) (hs0 : s0 ≤ q) (k : Int32) (kd : Int32) (li : Int32) (pa : Int64) (cs : Int32) (cg : Int32) (j : Nat → Int32) (F : Nat → Nat) (hB : mB F) (gr : Int32) (tq : Nat) (no sz : Int32) (lk : Nat → Int32) (Ltq : w tq = some (.inr (3, [.ref (tq + 1), .int no, .int sz]))) (Llk : w (tq + 1) = some (wd_iA (g.2 0) 1024 lk)) (hnt : tq + 2 ≤ q ∨ q + 3 ≤ tq) : Met l yX0_countIn (Cond.code yX0_countIn cX0_countIn 3 (none) :: tg) ({ frames := 5, cells := 0, slots := 0, locals := 116 }) (cP g s0 (pW g w q k kd li none none pa cs cg (tN F) j) [.ref q, .ref tq, .int (gr)]) (cV g s0 (fun w' => (cs = sz ∧ cg = gr ∧ w' = (pW g w q k kd li none none pa cs cg (tN F) j)) ∨ (¬ (cs = sz ∧ cg = gr) ∧ w' = (pW g w q k kd li none none pa sz gr (tN (cl1 lk li (t0 F j) 32).1) ((cl1 lk li (t0 F j) 32).2))))) 0 0 (cA s0) := by
  refine Met.ofW (cc := cX0_countIn) (maxL := 3) (ret := none) (by decide) rfl ?_
  intro p e s m args below meth c s₁ B9 hml hv
  obtain ⟨rfl, h0s, hP, hK⟩ := hv
  have hx := B9.exec
  have hb := B9.bytes
  have hr := B9.returns
  have hts := atoms_spec (ws := Cond.code yX0_countIn cX0_countIn 3 (none) :: tg) B9.pre
  have hown : s.vm.findClass RX0 = some m.cls := findClass_of_methodNamed B9.named
  have hlocks := B9.notSynchronized
  have hS : gS s0 s.heap s.heap [] := va_S.rf
  have hRm : 5 ≤ (headSpec (Cond.code yX0_countIn cX0_countIn 3 (none) :: tg) ({ frames := 5, cells := 0, slots := 0, locals := 116 })).room.frames ∧ 116 ≤ (headSpec (Cond.code yX0_countIn cX0_countIn 3 (none) :: tg) ({ frames := 5, cells := 0, slots := 0, locals := 116 })).room.locals := ⟨Nat.le_refl _, Nat.le_refl _⟩
  have hcs : 0 + 0 ≤ (headSpec (Cond.code yX0_countIn cX0_countIn 3 (none) :: tg) ({ frames := 5, cells := 0, slots := 0, locals := 116 })).room.cells ∧ 0 + 0 ≤ (headSpec (Cond.code yX0_countIn cX0_countIn 3 (none) :: tg) ({ frames := 5, cells := 0, slots := 0, locals := 116 })).room.slots := ⟨Nat.zero_le _, Nat.zero_le _⟩
  have hl := lv_entry ([.ref q, .ref tq, .int (gr)]) (n := 3) (Nat.le_of_ble_eq_true rfl)
  rw [lg_entry_eq]
  generalize (lg_sl ([.ref q, .ref tq, .int (gr)]) ++ List.replicate (3 - (lg_sl ([.ref q, .ref tq, .int (gr)])).length) Slot.unset).toArray = ls at hl ⊢
  have hl : lv_has ls 3 [(0, .ref q), (1, .ref tq), (2, .int (gr))] := hl
  refine lv_aload_n hx hb dX0_countIn_0 rfl (lv_at hl 0 rfl) ?_
  refine wd_get (ci := 1) (v := .int (cs)) (C := RX0) (T := TX0) (N := 10) hx hb hts iwX0 hown hK.1 hP (pW_0) rfl 8 (by decide) (hts _ (tg_tail _ tw_132)) (fun _ h9 => h9) rfl dX0_countIn_1 ?_
  refine lv_aload_n hx hb dX0_countIn_4 rfl (lv_at hl 1 rfl) ?_
  refine wd_get (ci := 3) (v := .int (sz)) (C := RX2) (T := TX2) (N := 3) hx hb hts iwX2 hown hK.1 hP ((pW_out (by omega)).trans Ltq) rfl 2 (by decide) (hts _ (tg_tail _ tw_32)) (fun _ h9 => h9) rfl dX0_countIn_5 ?_
  refine lv_icmp_ne (tgt := 20) hx hb dX0_countIn_8 (by decide) (fun c_8 => ?_) (fun c_8 => ?_)
  · refine lv_aload_n hx hb dX0_countIn_20 rfl (lv_at hl 0 rfl) ?_
    refine lv_aload_n hx hb dX0_countIn_21 rfl (lv_at hl 1 rfl) ?_
    refine wd_get (ci := 3) (v := .int (sz)) (C := RX2) (T := TX2) (N := 3) hx hb hts iwX2 hown hK.1 hP ((pW_out (by omega)).trans Ltq) rfl 2 (by decide) (hts _ (tg_tail _ tw_32)) (fun _ h9 => h9) rfl dX0_countIn_22 ?_
    refine wd_put (ci := 1) (v := .int (sz)) (ty := .int) (C := RX0) (T := TX0) (N := 10) hx hb hts iwX0 tyX0 tyX0_ok nmX0 hown hK.1 hP hS (by omega) (pW_0) rfl 8 (by decide) (hts _ (tg_tail _ tw_132)) (fun _ h9 => h9) rfl (by decide +kernel) (rfl) (rfl) (Nat.le_of_ble_eq_true rfl) dX0_countIn_25 (fun H locs hP hS hz => ?_)
    have hP : gP g (pW g w q k kd li none none pa sz cg (tN F) j) H := by have h9 : gP g (wd_up (pW g w q k kd li none none pa cs cg (tN F) j) q (.inr (1, [.int (k), .int (kd), .int (li), va_rf (none), va_rf (none), .long (pa), .ref (q + 1), .ref (q + 2), .int (sz), .int (cg)]))) H := hP; rw [pW_s0] at h9; exact h9
    refine lv_aload_n hx hb dX0_countIn_28 rfl (lv_at hl 0 rfl) ?_
    refine lv_iload_n hx hb dX0_countIn_29 rfl (lv_at hl 2 rfl) ?_
    refine wd_put (ci := 1) (v := .int (gr)) (ty := .int) (C := RX0) (T := TX0) (N := 10) hx hb hts iwX0 tyX0 tyX0_ok nmX0 hown hK.1 hP hS (by omega) (pW_0) rfl 9 (by decide) (hts _ (tg_tail _ tw_133)) (fun _ h9 => h9) rfl (by decide +kernel) (rfl) (rfl) (Nat.le_of_ble_eq_true rfl) dX0_countIn_30 (fun H locs hP hS hz => ?_)
    have hP : gP g (pW g w q k kd li none none pa sz gr (tN F) j) H := by have h9 : gP g (wd_up (pW g w q k kd li none none pa sz cg (tN F) j) q (.inr (1, [.int (k), .int (kd), .int (li), va_rf (none), va_rf (none), .long (pa), .ref (q + 1), .ref (q + 2), .int (sz), .int (gr)]))) H := hP; rw [pW_s0] at h9; exact h9
    refine lv_aload_n hx hb dX0_countIn_33 rfl (lv_at hl 0 rfl) ?_
    refine cr_Vv (As := []) (rest := []) ⟨hx, hb, hml, hown, hts⟩ (c_X0_forget l g s0  w q hs0 k kd li none none pa sz gr (tN F) j) (cw_V 0 hts tg_tail tw_203 tw_205 tp_5 tw_5 tw_206 rfl rfl (by decide +kernel) ⟨Nat.le_trans (by decide) hRm.1, Nat.le_trans (by decide) hRm.2⟩) hK hP h0s hS (pW_0) rfl rfl rfl hl.1 rfl (Nat.le_of_ble_eq_true rfl) dX0_countIn_34 hcs (fun w9 H locs hw hP hS => ?_)
    rw [hw, fo2_tN] at hP
    have hP : gP g (pW g w q k kd li none none pa sz gr (tN (t0 F j).1) ((t0 F j).2)) H := hP
    refine lv_aload_n hx hb dX0_countIn_37 rfl (lv_at hl 0 rfl) ?_
    refine wd_get (ci := 1) (v := .null) (C := RX0) (T := TX0) (N := 10) hx hb hts iwX0 hown hK.1 hP (pW_0) rfl 3 (by decide) (hts _ (tg_tail _ tw_126)) (fun _ h9 => h9) rfl dX0_countIn_38 ?_
    refine lv_ifnonnullN hx hb dX0_countIn_41 ?_
    refine lv_aload_n hx hb dX0_countIn_44 rfl (lv_at hl 0 rfl) ?_
    refine lv_aload_n hx hb dX0_countIn_45 rfl (lv_at hl 1 rfl) ?_
    refine cr_Vv (As := [.ref tq]) (rest := []) ⟨hx, hb, hml, hown, hts⟩ (c_X0_countLinks l g s0  w q hs0 k kd li none none pa sz gr (t0 F j) (t0_B hB) tq no sz lk Ltq Llk hnt) (cw_V 1 hts tg_tail tw_207 tw_209 tp_6 tw_5 tw_210 rfl rfl (by decide +kernel) ⟨Nat.le_trans (by decide) hRm.1, Nat.le_trans (by decide) hRm.2⟩) hK hP h0s hS (pW_0) rfl rfl rfl hl.1 rfl (Nat.le_of_ble_eq_true rfl) dX0_countIn_46 hcs (fun w9 H locs hw hP hS => ?_)
    rw [hw] at hP
    refine lv_goto (tgt := 83) hx hb dX0_countIn_49 (by decide) ?_
    exact W.vret hx hb hr (fun t9 ht hW => ⟨⟨(pW g w q k kd li none none pa sz gr (tN (cl1 lk li (t0 F j) 32).1) ((cl1 lk li (t0 F j) 32).2)), rfl, Or.inr ⟨fun q9 => c_8 q9.1, rfl⟩, cB_of ht hP⟩, hS.F ht⟩) hS.2.2 dX0_countIn_83
  · refine lv_aload_n hx hb dX0_countIn_11 rfl (lv_at hl 0 rfl) ?_
    refine wd_get (ci := 1) (v := .int (cg)) (C := RX0) (T := TX0) (N := 10) hx hb hts iwX0 hown hK.1 hP (pW_0) rfl 9 (by decide) (hts _ (tg_tail _ tw_133)) (fun _ h9 => h9) rfl dX0_countIn_12 ?_
    refine lv_iload_n hx hb dX0_countIn_15 rfl (lv_at hl 2 rfl) ?_
    refine lv_icmp_ne (tgt := 20) hx hb dX0_countIn_16 (by decide) (fun c_16 => ?_) (fun c_16 => ?_)
    · refine lv_aload_n hx hb dX0_countIn_20 rfl (lv_at hl 0 rfl) ?_
      refine lv_aload_n hx hb dX0_countIn_21 rfl (lv_at hl 1 rfl) ?_
      refine wd_get (ci := 3) (v := .int (sz)) (C := RX2) (T := TX2) (N := 3) hx hb hts iwX2 hown hK.1 hP ((pW_out (by omega)).trans Ltq) rfl 2 (by decide) (hts _ (tg_tail _ tw_32)) (fun _ h9 => h9) rfl dX0_countIn_22 ?_
      refine wd_put (ci := 1) (v := .int (sz)) (ty := .int) (C := RX0) (T := TX0) (N := 10) hx hb hts iwX0 tyX0 tyX0_ok nmX0 hown hK.1 hP hS (by omega) (pW_0) rfl 8 (by decide) (hts _ (tg_tail _ tw_132)) (fun _ h9 => h9) rfl (by decide +kernel) (rfl) (rfl) (Nat.le_of_ble_eq_true rfl) dX0_countIn_25 (fun H locs hP hS hz => ?_)
      have hP : gP g (pW g w q k kd li none none pa sz cg (tN F) j) H := by have h9 : gP g (wd_up (pW g w q k kd li none none pa cs cg (tN F) j) q (.inr (1, [.int (k), .int (kd), .int (li), va_rf (none), va_rf (none), .long (pa), .ref (q + 1), .ref (q + 2), .int (sz), .int (cg)]))) H := hP; rw [pW_s0] at h9; exact h9
      refine lv_aload_n hx hb dX0_countIn_28 rfl (lv_at hl 0 rfl) ?_
      refine lv_iload_n hx hb dX0_countIn_29 rfl (lv_at hl 2 rfl) ?_
      refine wd_put (ci := 1) (v := .int (gr)) (ty := .int) (C := RX0) (T := TX0) (N := 10) hx hb hts iwX0 tyX0 tyX0_ok nmX0 hown hK.1 hP hS (by omega) (pW_0) rfl 9 (by decide) (hts _ (tg_tail _ tw_133)) (fun _ h9 => h9) rfl (by decide +kernel) (rfl) (rfl) (Nat.le_of_ble_eq_true rfl) dX0_countIn_30 (fun H locs hP hS hz => ?_)
      have hP : gP g (pW g w q k kd li none none pa sz gr (tN F) j) H := by have h9 : gP g (wd_up (pW g w q k kd li none none pa sz cg (tN F) j) q (.inr (1, [.int (k), .int (kd), .int (li), va_rf (none), va_rf (none), .long (pa), .ref (q + 1), .ref (q + 2), .int (sz), .int (gr)]))) H := hP; rw [pW_s0] at h9; exact h9
      refine lv_aload_n hx hb dX0_countIn_33 rfl (lv_at hl 0 rfl) ?_
      refine cr_Vv (As := []) (rest := []) ⟨hx, hb, hml, hown, hts⟩ (c_X0_forget l g s0  w q hs0 k kd li none none pa sz gr (tN F) j) (cw_V 0 hts tg_tail tw_203 tw_205 tp_5 tw_5 tw_206 rfl rfl (by decide +kernel) ⟨Nat.le_trans (by decide) hRm.1, Nat.le_trans (by decide) hRm.2⟩) hK hP h0s hS (pW_0) rfl rfl rfl hl.1 rfl (Nat.le_of_ble_eq_true rfl) dX0_countIn_34 hcs (fun w9 H locs hw hP hS => ?_)
      rw [hw, fo2_tN] at hP
      have hP : gP g (pW g w q k kd li none none pa sz gr (tN (t0 F j).1) ((t0 F j).2)) H := hP
      refine lv_aload_n hx hb dX0_countIn_37 rfl (lv_at hl 0 rfl) ?_
      refine wd_get (ci := 1) (v := .null) (C := RX0) (T := TX0) (N := 10) hx hb hts iwX0 hown hK.1 hP (pW_0) rfl 3 (by decide) (hts _ (tg_tail _ tw_126)) (fun _ h9 => h9) rfl dX0_countIn_38 ?_
      refine lv_ifnonnullN hx hb dX0_countIn_41 ?_
      refine lv_aload_n hx hb dX0_countIn_44 rfl (lv_at hl 0 rfl) ?_
      refine lv_aload_n hx hb dX0_countIn_45 rfl (lv_at hl 1 rfl) ?_
      refine cr_Vv (As := [.ref tq]) (rest := []) ⟨hx, hb, hml, hown, hts⟩ (c_X0_countLinks l g s0  w q hs0 k kd li none none pa sz gr (t0 F j) (t0_B hB) tq no sz lk Ltq Llk hnt) (cw_V 1 hts tg_tail tw_207 tw_209 tp_6 tw_5 tw_210 rfl rfl (by decide +kernel) ⟨Nat.le_trans (by decide) hRm.1, Nat.le_trans (by decide) hRm.2⟩) hK hP h0s hS (pW_0) rfl rfl rfl hl.1 rfl (Nat.le_of_ble_eq_true rfl) dX0_countIn_46 hcs (fun w9 H locs hw hP hS => ?_)
      rw [hw] at hP
      refine lv_goto (tgt := 83) hx hb dX0_countIn_49 (by decide) ?_
      exact W.vret hx hb hr (fun t9 ht hW => ⟨⟨(pW g w q k kd li none none pa sz gr (tN (cl1 lk li (t0 F j) 32).1) ((cl1 lk li (t0 F j) 32).2)), rfl, Or.inr ⟨fun q9 => c_16 q9.2, rfl⟩, cB_of ht hP⟩, hS.F ht⟩) hS.2.2 dX0_countIn_83
    · exact W.vret hx hb hr (fun t9 ht hW => ⟨⟨(pW g w q k kd li none none pa cs cg (tN F) j), rfl, Or.inl ⟨c_8, c_16, rfl⟩, cB_of ht hP⟩, hS.F ht⟩) hS.2.2 dX0_countIn_19

set_option maxHeartbeats 4000000 in
set_option maxRecDepth 100000 in
theorem c_X0_countIn_i (l : Launch) (g : gX) (s0 : Nat) (w : wd_M) (q : Nat) (hs0 : s0 ≤ q) (k : Int32) (kd : Int32) (li : Int32) (pa : Int64) (cs : Int32) (cg : Int32) (j : Nat → Int32) (F : Nat → Nat) (hB : mB F) (gr : Int32) (tq : Nat) (no sz : Int32) (lk : Nat → Int32) (Ltq : w tq = some (.inr (3, [.ref (tq + 1), .int no, .int sz]))) (Llk : w (tq + 1) = some (wd_iA (g.2 0) 1024 lk)) (hnt : tq + 2 ≤ q ∨ q + 3 ≤ tq) (q2 : Nat) (k2 kd2 li2 : Int32) (inn2 oth2 : Option Nat) (pa2 : Int64) (cs2 cg2 : Int32) (G : Nat → Nat) (h29 : mB G) (L2 : w q2 = some (pO k2 kd2 li2 inn2 oth2 pa2 (q2 + 1) (q2 + 2) cs2 cg2)) (L2t : w (q2 + 1) = some (wd_iA (g.2 0) 1024 (tN G))) (hne2 : q2 + 3 ≤ q ∨ q + 3 ≤ q2) (J2 : Nat → Int32) (L2j : w (q2 + 2) = some (wd_iA (g.2 0) 32 J2)) : Met l yX0_countIn (Cond.code yX0_countIn cX0_countIn 3 (none) :: tg) ({ frames := 5, cells := 0, slots := 0, locals := 116 }) (cP g s0 (pW g w q k kd li (some q2) none pa cs cg (tN F) j) [.ref q, .ref tq, .int (gr)]) (cV g s0 (fun w' => (cs = sz ∧ cg = gr ∧ w' = (pW g w q k kd li (some q2) none pa cs cg (tN F) j)) ∨ (¬ (cs = sz ∧ cg = gr) ∧ w' = (pW g w q k kd li (some q2) none pa sz gr (tN (coO kd G J2 gr (t0 F j)).1) ((coO kd G J2 gr (t0 F j)).2))))) 0 0 (cA s0) := by
  refine Met.ofW (cc := cX0_countIn) (maxL := 3) (ret := none) (by decide) rfl ?_
  intro p e s m args below meth c s₁ B9 hml hv
  obtain ⟨rfl, h0s, hP, hK⟩ := hv
  have hx := B9.exec
  have hb := B9.bytes
  have hr := B9.returns
  have hts := atoms_spec (ws := Cond.code yX0_countIn cX0_countIn 3 (none) :: tg) B9.pre
  have hown : s.vm.findClass RX0 = some m.cls := findClass_of_methodNamed B9.named
  have hlocks := B9.notSynchronized
  have hS : gS s0 s.heap s.heap [] := va_S.rf
  have hRm : 5 ≤ (headSpec (Cond.code yX0_countIn cX0_countIn 3 (none) :: tg) ({ frames := 5, cells := 0, slots := 0, locals := 116 })).room.frames ∧ 116 ≤ (headSpec (Cond.code yX0_countIn cX0_countIn 3 (none) :: tg) ({ frames := 5, cells := 0, slots := 0, locals := 116 })).room.locals := ⟨Nat.le_refl _, Nat.le_refl _⟩
  have hcs : 0 + 0 ≤ (headSpec (Cond.code yX0_countIn cX0_countIn 3 (none) :: tg) ({ frames := 5, cells := 0, slots := 0, locals := 116 })).room.cells ∧ 0 + 0 ≤ (headSpec (Cond.code yX0_countIn cX0_countIn 3 (none) :: tg) ({ frames := 5, cells := 0, slots := 0, locals := 116 })).room.slots := ⟨Nat.zero_le _, Nat.zero_le _⟩
  have hl := lv_entry ([.ref q, .ref tq, .int (gr)]) (n := 3) (Nat.le_of_ble_eq_true rfl)
  rw [lg_entry_eq]
  generalize (lg_sl ([.ref q, .ref tq, .int (gr)]) ++ List.replicate (3 - (lg_sl ([.ref q, .ref tq, .int (gr)])).length) Slot.unset).toArray = ls at hl ⊢
  have hl : lv_has ls 3 [(0, .ref q), (1, .ref tq), (2, .int (gr))] := hl
  refine lv_aload_n hx hb dX0_countIn_0 rfl (lv_at hl 0 rfl) ?_
  refine wd_get (ci := 1) (v := .int (cs)) (C := RX0) (T := TX0) (N := 10) hx hb hts iwX0 hown hK.1 hP (pW_0) rfl 8 (by decide) (hts _ (tg_tail _ tw_132)) (fun _ h9 => h9) rfl dX0_countIn_1 ?_
  refine lv_aload_n hx hb dX0_countIn_4 rfl (lv_at hl 1 rfl) ?_
  refine wd_get (ci := 3) (v := .int (sz)) (C := RX2) (T := TX2) (N := 3) hx hb hts iwX2 hown hK.1 hP ((pW_out (by omega)).trans Ltq) rfl 2 (by decide) (hts _ (tg_tail _ tw_32)) (fun _ h9 => h9) rfl dX0_countIn_5 ?_
  refine lv_icmp_ne (tgt := 20) hx hb dX0_countIn_8 (by decide) (fun c_8 => ?_) (fun c_8 => ?_)
  · refine lv_aload_n hx hb dX0_countIn_20 rfl (lv_at hl 0 rfl) ?_
    refine lv_aload_n hx hb dX0_countIn_21 rfl (lv_at hl 1 rfl) ?_
    refine wd_get (ci := 3) (v := .int (sz)) (C := RX2) (T := TX2) (N := 3) hx hb hts iwX2 hown hK.1 hP ((pW_out (by omega)).trans Ltq) rfl 2 (by decide) (hts _ (tg_tail _ tw_32)) (fun _ h9 => h9) rfl dX0_countIn_22 ?_
    refine wd_put (ci := 1) (v := .int (sz)) (ty := .int) (C := RX0) (T := TX0) (N := 10) hx hb hts iwX0 tyX0 tyX0_ok nmX0 hown hK.1 hP hS (by omega) (pW_0) rfl 8 (by decide) (hts _ (tg_tail _ tw_132)) (fun _ h9 => h9) rfl (by decide +kernel) (rfl) (rfl) (Nat.le_of_ble_eq_true rfl) dX0_countIn_25 (fun H locs hP hS hz => ?_)
    have hP : gP g (pW g w q k kd li (some q2) none pa sz cg (tN F) j) H := by have h9 : gP g (wd_up (pW g w q k kd li (some q2) none pa cs cg (tN F) j) q (.inr (1, [.int (k), .int (kd), .int (li), va_rf (some q2), va_rf (none), .long (pa), .ref (q + 1), .ref (q + 2), .int (sz), .int (cg)]))) H := hP; rw [pW_s0] at h9; exact h9
    refine lv_aload_n hx hb dX0_countIn_28 rfl (lv_at hl 0 rfl) ?_
    refine lv_iload_n hx hb dX0_countIn_29 rfl (lv_at hl 2 rfl) ?_
    refine wd_put (ci := 1) (v := .int (gr)) (ty := .int) (C := RX0) (T := TX0) (N := 10) hx hb hts iwX0 tyX0 tyX0_ok nmX0 hown hK.1 hP hS (by omega) (pW_0) rfl 9 (by decide) (hts _ (tg_tail _ tw_133)) (fun _ h9 => h9) rfl (by decide +kernel) (rfl) (rfl) (Nat.le_of_ble_eq_true rfl) dX0_countIn_30 (fun H locs hP hS hz => ?_)
    have hP : gP g (pW g w q k kd li (some q2) none pa sz gr (tN F) j) H := by have h9 : gP g (wd_up (pW g w q k kd li (some q2) none pa sz cg (tN F) j) q (.inr (1, [.int (k), .int (kd), .int (li), va_rf (some q2), va_rf (none), .long (pa), .ref (q + 1), .ref (q + 2), .int (sz), .int (gr)]))) H := hP; rw [pW_s0] at h9; exact h9
    refine lv_aload_n hx hb dX0_countIn_33 rfl (lv_at hl 0 rfl) ?_
    refine cr_Vv (As := []) (rest := []) ⟨hx, hb, hml, hown, hts⟩ (c_X0_forget l g s0  w q hs0 k kd li (some q2) none pa sz gr (tN F) j) (cw_V 0 hts tg_tail tw_203 tw_205 tp_5 tw_5 tw_206 rfl rfl (by decide +kernel) ⟨Nat.le_trans (by decide) hRm.1, Nat.le_trans (by decide) hRm.2⟩) hK hP h0s hS (pW_0) rfl rfl rfl hl.1 rfl (Nat.le_of_ble_eq_true rfl) dX0_countIn_34 hcs (fun w9 H locs hw hP hS => ?_)
    rw [hw, fo2_tN] at hP
    have hP : gP g (pW g w q k kd li (some q2) none pa sz gr (tN (t0 F j).1) ((t0 F j).2)) H := hP
    refine lv_aload_n hx hb dX0_countIn_37 rfl (lv_at hl 0 rfl) ?_
    refine wd_get (ci := 1) (v := .ref q2) (C := RX0) (T := TX0) (N := 10) hx hb hts iwX0 hown hK.1 hP (pW_0) rfl 3 (by decide) (hts _ (tg_tail _ tw_126)) (fun _ h9 => h9) rfl dX0_countIn_38 ?_
    refine lv_ifnonnull (tgt := 52) hx hb dX0_countIn_41 (by decide) ?_
    refine lv_aload_n hx hb dX0_countIn_52 rfl (lv_at hl 0 rfl) ?_
    refine wd_get (ci := 1) (v := .null) (C := RX0) (T := TX0) (N := 10) hx hb hts iwX0 hown hK.1 hP (pW_0) rfl 4 (by decide) (hts _ (tg_tail _ tw_127)) (fun _ h9 => h9) rfl dX0_countIn_53 ?_
    refine lv_ifnonnullN hx hb dX0_countIn_56 ?_
    refine lv_aload_n hx hb dX0_countIn_59 rfl (lv_at hl 0 rfl) ?_
    refine lv_aload_n hx hb dX0_countIn_60 rfl (lv_at hl 0 rfl) ?_
    refine wd_get (ci := 1) (v := .ref q2) (C := RX0) (T := TX0) (N := 10) hx hb hts iwX0 hown hK.1 hP (pW_0) rfl 3 (by decide) (hts _ (tg_tail _ tw_126)) (fun _ h9 => h9) rfl dX0_countIn_61 ?_
    refine lv_iload_n hx hb dX0_countIn_64 rfl (lv_at hl 2 rfl) ?_
    refine cr_Vv (As := [.ref q2, .int (gr)]) (rest := []) ⟨hx, hb, hml, hown, hts⟩ (c_X0_countOverOne l g s0  w q hs0 k kd li (some q2) none pa sz gr gr (t0 F j) (t0_B hB) q2 k2 kd2 li2 inn2 oth2 pa2 cs2 cg2 G h29 L2 L2t hne2 J2 L2j) (cw_V 2 hts tg_tail tw_218 tw_220 tp_8 tw_5 tw_221 rfl rfl (by decide +kernel) ⟨Nat.le_trans (by decide) hRm.1, Nat.le_trans (by decide) hRm.2⟩) hK hP h0s hS (pW_0) rfl rfl rfl hl.1 rfl (Nat.le_of_ble_eq_true rfl) dX0_countIn_65 hcs (fun w9 H locs hw hP hS => ?_)
    rw [hw] at hP
    refine lv_goto (tgt := 83) hx hb dX0_countIn_68 (by decide) ?_
    exact W.vret hx hb hr (fun t9 ht hW => ⟨⟨(pW g w q k kd li (some q2) none pa sz gr (tN (coO kd G J2 gr (t0 F j)).1) ((coO kd G J2 gr (t0 F j)).2)), rfl, Or.inr ⟨fun q9 => c_8 q9.1, rfl⟩, cB_of ht hP⟩, hS.F ht⟩) hS.2.2 dX0_countIn_83
  · refine lv_aload_n hx hb dX0_countIn_11 rfl (lv_at hl 0 rfl) ?_
    refine wd_get (ci := 1) (v := .int (cg)) (C := RX0) (T := TX0) (N := 10) hx hb hts iwX0 hown hK.1 hP (pW_0) rfl 9 (by decide) (hts _ (tg_tail _ tw_133)) (fun _ h9 => h9) rfl dX0_countIn_12 ?_
    refine lv_iload_n hx hb dX0_countIn_15 rfl (lv_at hl 2 rfl) ?_
    refine lv_icmp_ne (tgt := 20) hx hb dX0_countIn_16 (by decide) (fun c_16 => ?_) (fun c_16 => ?_)
    · refine lv_aload_n hx hb dX0_countIn_20 rfl (lv_at hl 0 rfl) ?_
      refine lv_aload_n hx hb dX0_countIn_21 rfl (lv_at hl 1 rfl) ?_
      refine wd_get (ci := 3) (v := .int (sz)) (C := RX2) (T := TX2) (N := 3) hx hb hts iwX2 hown hK.1 hP ((pW_out (by omega)).trans Ltq) rfl 2 (by decide) (hts _ (tg_tail _ tw_32)) (fun _ h9 => h9) rfl dX0_countIn_22 ?_
      refine wd_put (ci := 1) (v := .int (sz)) (ty := .int) (C := RX0) (T := TX0) (N := 10) hx hb hts iwX0 tyX0 tyX0_ok nmX0 hown hK.1 hP hS (by omega) (pW_0) rfl 8 (by decide) (hts _ (tg_tail _ tw_132)) (fun _ h9 => h9) rfl (by decide +kernel) (rfl) (rfl) (Nat.le_of_ble_eq_true rfl) dX0_countIn_25 (fun H locs hP hS hz => ?_)
      have hP : gP g (pW g w q k kd li (some q2) none pa sz cg (tN F) j) H := by have h9 : gP g (wd_up (pW g w q k kd li (some q2) none pa cs cg (tN F) j) q (.inr (1, [.int (k), .int (kd), .int (li), va_rf (some q2), va_rf (none), .long (pa), .ref (q + 1), .ref (q + 2), .int (sz), .int (cg)]))) H := hP; rw [pW_s0] at h9; exact h9
      refine lv_aload_n hx hb dX0_countIn_28 rfl (lv_at hl 0 rfl) ?_
      refine lv_iload_n hx hb dX0_countIn_29 rfl (lv_at hl 2 rfl) ?_
      refine wd_put (ci := 1) (v := .int (gr)) (ty := .int) (C := RX0) (T := TX0) (N := 10) hx hb hts iwX0 tyX0 tyX0_ok nmX0 hown hK.1 hP hS (by omega) (pW_0) rfl 9 (by decide) (hts _ (tg_tail _ tw_133)) (fun _ h9 => h9) rfl (by decide +kernel) (rfl) (rfl) (Nat.le_of_ble_eq_true rfl) dX0_countIn_30 (fun H locs hP hS hz => ?_)
      have hP : gP g (pW g w q k kd li (some q2) none pa sz gr (tN F) j) H := by have h9 : gP g (wd_up (pW g w q k kd li (some q2) none pa sz cg (tN F) j) q (.inr (1, [.int (k), .int (kd), .int (li), va_rf (some q2), va_rf (none), .long (pa), .ref (q + 1), .ref (q + 2), .int (sz), .int (gr)]))) H := hP; rw [pW_s0] at h9; exact h9
      refine lv_aload_n hx hb dX0_countIn_33 rfl (lv_at hl 0 rfl) ?_
      refine cr_Vv (As := []) (rest := []) ⟨hx, hb, hml, hown, hts⟩ (c_X0_forget l g s0  w q hs0 k kd li (some q2) none pa sz gr (tN F) j) (cw_V 0 hts tg_tail tw_203 tw_205 tp_5 tw_5 tw_206 rfl rfl (by decide +kernel) ⟨Nat.le_trans (by decide) hRm.1, Nat.le_trans (by decide) hRm.2⟩) hK hP h0s hS (pW_0) rfl rfl rfl hl.1 rfl (Nat.le_of_ble_eq_true rfl) dX0_countIn_34 hcs (fun w9 H locs hw hP hS => ?_)
      rw [hw, fo2_tN] at hP
      have hP : gP g (pW g w q k kd li (some q2) none pa sz gr (tN (t0 F j).1) ((t0 F j).2)) H := hP
      refine lv_aload_n hx hb dX0_countIn_37 rfl (lv_at hl 0 rfl) ?_
      refine wd_get (ci := 1) (v := .ref q2) (C := RX0) (T := TX0) (N := 10) hx hb hts iwX0 hown hK.1 hP (pW_0) rfl 3 (by decide) (hts _ (tg_tail _ tw_126)) (fun _ h9 => h9) rfl dX0_countIn_38 ?_
      refine lv_ifnonnull (tgt := 52) hx hb dX0_countIn_41 (by decide) ?_
      refine lv_aload_n hx hb dX0_countIn_52 rfl (lv_at hl 0 rfl) ?_
      refine wd_get (ci := 1) (v := .null) (C := RX0) (T := TX0) (N := 10) hx hb hts iwX0 hown hK.1 hP (pW_0) rfl 4 (by decide) (hts _ (tg_tail _ tw_127)) (fun _ h9 => h9) rfl dX0_countIn_53 ?_
      refine lv_ifnonnullN hx hb dX0_countIn_56 ?_
      refine lv_aload_n hx hb dX0_countIn_59 rfl (lv_at hl 0 rfl) ?_
      refine lv_aload_n hx hb dX0_countIn_60 rfl (lv_at hl 0 rfl) ?_
      refine wd_get (ci := 1) (v := .ref q2) (C := RX0) (T := TX0) (N := 10) hx hb hts iwX0 hown hK.1 hP (pW_0) rfl 3 (by decide) (hts _ (tg_tail _ tw_126)) (fun _ h9 => h9) rfl dX0_countIn_61 ?_
      refine lv_iload_n hx hb dX0_countIn_64 rfl (lv_at hl 2 rfl) ?_
      refine cr_Vv (As := [.ref q2, .int (gr)]) (rest := []) ⟨hx, hb, hml, hown, hts⟩ (c_X0_countOverOne l g s0  w q hs0 k kd li (some q2) none pa sz gr gr (t0 F j) (t0_B hB) q2 k2 kd2 li2 inn2 oth2 pa2 cs2 cg2 G h29 L2 L2t hne2 J2 L2j) (cw_V 2 hts tg_tail tw_218 tw_220 tp_8 tw_5 tw_221 rfl rfl (by decide +kernel) ⟨Nat.le_trans (by decide) hRm.1, Nat.le_trans (by decide) hRm.2⟩) hK hP h0s hS (pW_0) rfl rfl rfl hl.1 rfl (Nat.le_of_ble_eq_true rfl) dX0_countIn_65 hcs (fun w9 H locs hw hP hS => ?_)
      rw [hw] at hP
      refine lv_goto (tgt := 83) hx hb dX0_countIn_68 (by decide) ?_
      exact W.vret hx hb hr (fun t9 ht hW => ⟨⟨(pW g w q k kd li (some q2) none pa sz gr (tN (coO kd G J2 gr (t0 F j)).1) ((coO kd G J2 gr (t0 F j)).2)), rfl, Or.inr ⟨fun q9 => c_16 q9.2, rfl⟩, cB_of ht hP⟩, hS.F ht⟩) hS.2.2 dX0_countIn_83
    · exact W.vret hx hb hr (fun t9 ht hW => ⟨⟨(pW g w q k kd li (some q2) none pa cs cg (tN F) j), rfl, Or.inl ⟨c_8, c_16, rfl⟩, cB_of ht hP⟩, hS.F ht⟩) hS.2.2 dX0_countIn_19

set_option maxHeartbeats 4000000 in
set_option maxRecDepth 100000 in
theorem c_X0_countIn_b (l : Launch) (g : gX) (s0 : Nat) (w : wd_M) (q : Nat) (hs0 : s0 ≤ q) (k : Int32) (kd : Int32) (li : Int32) (pa : Int64) (cs : Int32) (cg : Int32) (j : Nat → Int32) (F : Nat → Nat) (hB : mB F) (gr : Int32) (tq : Nat) (no sz : Int32) (lk : Nat → Int32) (Ltq : w tq = some (.inr (3, [.ref (tq + 1), .int no, .int sz]))) (Llk : w (tq + 1) = some (wd_iA (g.2 0) 1024 lk)) (hnt : tq + 2 ≤ q ∨ q + 3 ≤ tq) (q2 : Nat) (k2 kd2 li2 : Int32) (inn2 oth2 : Option Nat) (pa2 : Int64) (cs2 cg2 : Int32) (G : Nat → Nat) (h29 : mB G) (L2 : w q2 = some (pO k2 kd2 li2 inn2 oth2 pa2 (q2 + 1) (q2 + 2) cs2 cg2)) (L2t : w (q2 + 1) = some (wd_iA (g.2 0) 1024 (tN G))) (hne2 : q2 + 3 ≤ q ∨ q + 3 ≤ q2) (q3 : Nat) (k3 kd3 li3 : Int32) (inn3 oth3 : Option Nat) (pa3 : Int64) (cs3 cg3 : Int32) (G3 : Nat → Nat) (h39 : mB G3) (L3 : w q3 = some (pO k3 kd3 li3 inn3 oth3 pa3 (q3 + 1) (q3 + 2) cs3 cg3)) (L3t : w (q3 + 1) = some (wd_iA (g.2 0) 1024 (tN G3))) (hne3 : q3 + 3 ≤ q ∨ q + 3 ≤ q3) (J3 : Nat → Int32) (L3j : w (q3 + 2) = some (wd_iA (g.2 0) 32 J3)) : Met l yX0_countIn (Cond.code yX0_countIn cX0_countIn 3 (none) :: tg) ({ frames := 5, cells := 0, slots := 0, locals := 116 }) (cP g s0 (pW g w q k kd li (some q2) (some q3) pa cs cg (tN F) j) [.ref q, .ref tq, .int (gr)]) (cV g s0 (fun w' => (cs = sz ∧ cg = gr ∧ w' = (pW g w q k kd li (some q2) (some q3) pa cs cg (tN F) j)) ∨ (¬ (cs = sz ∧ cg = gr) ∧ w' = (pW g w q k kd li (some q2) (some q3) pa sz gr (tN (coT kd G G3 J3 (t0 F j)).1) ((coT kd G G3 J3 (t0 F j)).2))))) 0 0 (cA s0) := by
  refine Met.ofW (cc := cX0_countIn) (maxL := 3) (ret := none) (by decide) rfl ?_
  intro p e s m args below meth c s₁ B9 hml hv
  obtain ⟨rfl, h0s, hP, hK⟩ := hv
  have hx := B9.exec
  have hb := B9.bytes
  have hr := B9.returns
  have hts := atoms_spec (ws := Cond.code yX0_countIn cX0_countIn 3 (none) :: tg) B9.pre
  have hown : s.vm.findClass RX0 = some m.cls := findClass_of_methodNamed B9.named
  have hlocks := B9.notSynchronized
  have hS : gS s0 s.heap s.heap [] := va_S.rf
  have hRm : 5 ≤ (headSpec (Cond.code yX0_countIn cX0_countIn 3 (none) :: tg) ({ frames := 5, cells := 0, slots := 0, locals := 116 })).room.frames ∧ 116 ≤ (headSpec (Cond.code yX0_countIn cX0_countIn 3 (none) :: tg) ({ frames := 5, cells := 0, slots := 0, locals := 116 })).room.locals := ⟨Nat.le_refl _, Nat.le_refl _⟩
  have hcs : 0 + 0 ≤ (headSpec (Cond.code yX0_countIn cX0_countIn 3 (none) :: tg) ({ frames := 5, cells := 0, slots := 0, locals := 116 })).room.cells ∧ 0 + 0 ≤ (headSpec (Cond.code yX0_countIn cX0_countIn 3 (none) :: tg) ({ frames := 5, cells := 0, slots := 0, locals := 116 })).room.slots := ⟨Nat.zero_le _, Nat.zero_le _⟩
  have hl := lv_entry ([.ref q, .ref tq, .int (gr)]) (n := 3) (Nat.le_of_ble_eq_true rfl)
  rw [lg_entry_eq]
  generalize (lg_sl ([.ref q, .ref tq, .int (gr)]) ++ List.replicate (3 - (lg_sl ([.ref q, .ref tq, .int (gr)])).length) Slot.unset).toArray = ls at hl ⊢
  have hl : lv_has ls 3 [(0, .ref q), (1, .ref tq), (2, .int (gr))] := hl
  refine lv_aload_n hx hb dX0_countIn_0 rfl (lv_at hl 0 rfl) ?_
  refine wd_get (ci := 1) (v := .int (cs)) (C := RX0) (T := TX0) (N := 10) hx hb hts iwX0 hown hK.1 hP (pW_0) rfl 8 (by decide) (hts _ (tg_tail _ tw_132)) (fun _ h9 => h9) rfl dX0_countIn_1 ?_
  refine lv_aload_n hx hb dX0_countIn_4 rfl (lv_at hl 1 rfl) ?_
  refine wd_get (ci := 3) (v := .int (sz)) (C := RX2) (T := TX2) (N := 3) hx hb hts iwX2 hown hK.1 hP ((pW_out (by omega)).trans Ltq) rfl 2 (by decide) (hts _ (tg_tail _ tw_32)) (fun _ h9 => h9) rfl dX0_countIn_5 ?_
  refine lv_icmp_ne (tgt := 20) hx hb dX0_countIn_8 (by decide) (fun c_8 => ?_) (fun c_8 => ?_)
  · refine lv_aload_n hx hb dX0_countIn_20 rfl (lv_at hl 0 rfl) ?_
    refine lv_aload_n hx hb dX0_countIn_21 rfl (lv_at hl 1 rfl) ?_
    refine wd_get (ci := 3) (v := .int (sz)) (C := RX2) (T := TX2) (N := 3) hx hb hts iwX2 hown hK.1 hP ((pW_out (by omega)).trans Ltq) rfl 2 (by decide) (hts _ (tg_tail _ tw_32)) (fun _ h9 => h9) rfl dX0_countIn_22 ?_
    refine wd_put (ci := 1) (v := .int (sz)) (ty := .int) (C := RX0) (T := TX0) (N := 10) hx hb hts iwX0 tyX0 tyX0_ok nmX0 hown hK.1 hP hS (by omega) (pW_0) rfl 8 (by decide) (hts _ (tg_tail _ tw_132)) (fun _ h9 => h9) rfl (by decide +kernel) (rfl) (rfl) (Nat.le_of_ble_eq_true rfl) dX0_countIn_25 (fun H locs hP hS hz => ?_)
    have hP : gP g (pW g w q k kd li (some q2) (some q3) pa sz cg (tN F) j) H := by have h9 : gP g (wd_up (pW g w q k kd li (some q2) (some q3) pa cs cg (tN F) j) q (.inr (1, [.int (k), .int (kd), .int (li), va_rf (some q2), va_rf (some q3), .long (pa), .ref (q + 1), .ref (q + 2), .int (sz), .int (cg)]))) H := hP; rw [pW_s0] at h9; exact h9
    refine lv_aload_n hx hb dX0_countIn_28 rfl (lv_at hl 0 rfl) ?_
    refine lv_iload_n hx hb dX0_countIn_29 rfl (lv_at hl 2 rfl) ?_
    refine wd_put (ci := 1) (v := .int (gr)) (ty := .int) (C := RX0) (T := TX0) (N := 10) hx hb hts iwX0 tyX0 tyX0_ok nmX0 hown hK.1 hP hS (by omega) (pW_0) rfl 9 (by decide) (hts _ (tg_tail _ tw_133)) (fun _ h9 => h9) rfl (by decide +kernel) (rfl) (rfl) (Nat.le_of_ble_eq_true rfl) dX0_countIn_30 (fun H locs hP hS hz => ?_)
    have hP : gP g (pW g w q k kd li (some q2) (some q3) pa sz gr (tN F) j) H := by have h9 : gP g (wd_up (pW g w q k kd li (some q2) (some q3) pa sz cg (tN F) j) q (.inr (1, [.int (k), .int (kd), .int (li), va_rf (some q2), va_rf (some q3), .long (pa), .ref (q + 1), .ref (q + 2), .int (sz), .int (gr)]))) H := hP; rw [pW_s0] at h9; exact h9
    refine lv_aload_n hx hb dX0_countIn_33 rfl (lv_at hl 0 rfl) ?_
    refine cr_Vv (As := []) (rest := []) ⟨hx, hb, hml, hown, hts⟩ (c_X0_forget l g s0  w q hs0 k kd li (some q2) (some q3) pa sz gr (tN F) j) (cw_V 0 hts tg_tail tw_203 tw_205 tp_5 tw_5 tw_206 rfl rfl (by decide +kernel) ⟨Nat.le_trans (by decide) hRm.1, Nat.le_trans (by decide) hRm.2⟩) hK hP h0s hS (pW_0) rfl rfl rfl hl.1 rfl (Nat.le_of_ble_eq_true rfl) dX0_countIn_34 hcs (fun w9 H locs hw hP hS => ?_)
    rw [hw, fo2_tN] at hP
    have hP : gP g (pW g w q k kd li (some q2) (some q3) pa sz gr (tN (t0 F j).1) ((t0 F j).2)) H := hP
    refine lv_aload_n hx hb dX0_countIn_37 rfl (lv_at hl 0 rfl) ?_
    refine wd_get (ci := 1) (v := .ref q2) (C := RX0) (T := TX0) (N := 10) hx hb hts iwX0 hown hK.1 hP (pW_0) rfl 3 (by decide) (hts _ (tg_tail _ tw_126)) (fun _ h9 => h9) rfl dX0_countIn_38 ?_
    refine lv_ifnonnull (tgt := 52) hx hb dX0_countIn_41 (by decide) ?_
    refine lv_aload_n hx hb dX0_countIn_52 rfl (lv_at hl 0 rfl) ?_
    refine wd_get (ci := 1) (v := .ref q3) (C := RX0) (T := TX0) (N := 10) hx hb hts iwX0 hown hK.1 hP (pW_0) rfl 4 (by decide) (hts _ (tg_tail _ tw_127)) (fun _ h9 => h9) rfl dX0_countIn_53 ?_
    refine lv_ifnonnull (tgt := 71) hx hb dX0_countIn_56 (by decide) ?_
    refine lv_aload_n hx hb dX0_countIn_71 rfl (lv_at hl 0 rfl) ?_
    refine lv_aload_n hx hb dX0_countIn_72 rfl (lv_at hl 0 rfl) ?_
    refine wd_get (ci := 1) (v := .ref q2) (C := RX0) (T := TX0) (N := 10) hx hb hts iwX0 hown hK.1 hP (pW_0) rfl 3 (by decide) (hts _ (tg_tail _ tw_126)) (fun _ h9 => h9) rfl dX0_countIn_73 ?_
    refine lv_aload_n hx hb dX0_countIn_76 rfl (lv_at hl 0 rfl) ?_
    refine wd_get (ci := 1) (v := .ref q3) (C := RX0) (T := TX0) (N := 10) hx hb hts iwX0 hown hK.1 hP (pW_0) rfl 4 (by decide) (hts _ (tg_tail _ tw_127)) (fun _ h9 => h9) rfl dX0_countIn_77 ?_
    refine cr_Vv (As := [.ref q2, .ref q3]) (rest := []) ⟨hx, hb, hml, hown, hts⟩ (c_X0_countOverTwo l g s0  w q hs0 k kd li (some q2) (some q3) pa sz gr (t0 F j) (t0_B hB) q2 k2 kd2 li2 inn2 oth2 pa2 cs2 cg2 G h29 L2 L2t hne2 q3 k3 kd3 li3 inn3 oth3 pa3 cs3 cg3 G3 h39 L3 L3t hne3 J3 L3j) (cw_V 2 hts tg_tail tw_251 tw_253 tp_14 tw_5 tw_254 rfl rfl (by decide +kernel) ⟨Nat.le_trans (by decide) hRm.1, Nat.le_trans (by decide) hRm.2⟩) hK hP h0s hS (pW_0) rfl rfl rfl hl.1 rfl (Nat.le_of_ble_eq_true rfl) dX0_countIn_80 hcs (fun w9 H locs hw hP hS => ?_)
    rw [hw] at hP
    exact W.vret hx hb hr (fun t9 ht hW => ⟨⟨(pW g w q k kd li (some q2) (some q3) pa sz gr (tN (coT kd G G3 J3 (t0 F j)).1) ((coT kd G G3 J3 (t0 F j)).2)), rfl, Or.inr ⟨fun q9 => c_8 q9.1, rfl⟩, cB_of ht hP⟩, hS.F ht⟩) hS.2.2 dX0_countIn_83
  · refine lv_aload_n hx hb dX0_countIn_11 rfl (lv_at hl 0 rfl) ?_
    refine wd_get (ci := 1) (v := .int (cg)) (C := RX0) (T := TX0) (N := 10) hx hb hts iwX0 hown hK.1 hP (pW_0) rfl 9 (by decide) (hts _ (tg_tail _ tw_133)) (fun _ h9 => h9) rfl dX0_countIn_12 ?_
    refine lv_iload_n hx hb dX0_countIn_15 rfl (lv_at hl 2 rfl) ?_
    refine lv_icmp_ne (tgt := 20) hx hb dX0_countIn_16 (by decide) (fun c_16 => ?_) (fun c_16 => ?_)
    · refine lv_aload_n hx hb dX0_countIn_20 rfl (lv_at hl 0 rfl) ?_
      refine lv_aload_n hx hb dX0_countIn_21 rfl (lv_at hl 1 rfl) ?_
      refine wd_get (ci := 3) (v := .int (sz)) (C := RX2) (T := TX2) (N := 3) hx hb hts iwX2 hown hK.1 hP ((pW_out (by omega)).trans Ltq) rfl 2 (by decide) (hts _ (tg_tail _ tw_32)) (fun _ h9 => h9) rfl dX0_countIn_22 ?_
      refine wd_put (ci := 1) (v := .int (sz)) (ty := .int) (C := RX0) (T := TX0) (N := 10) hx hb hts iwX0 tyX0 tyX0_ok nmX0 hown hK.1 hP hS (by omega) (pW_0) rfl 8 (by decide) (hts _ (tg_tail _ tw_132)) (fun _ h9 => h9) rfl (by decide +kernel) (rfl) (rfl) (Nat.le_of_ble_eq_true rfl) dX0_countIn_25 (fun H locs hP hS hz => ?_)
      have hP : gP g (pW g w q k kd li (some q2) (some q3) pa sz cg (tN F) j) H := by have h9 : gP g (wd_up (pW g w q k kd li (some q2) (some q3) pa cs cg (tN F) j) q (.inr (1, [.int (k), .int (kd), .int (li), va_rf (some q2), va_rf (some q3), .long (pa), .ref (q + 1), .ref (q + 2), .int (sz), .int (cg)]))) H := hP; rw [pW_s0] at h9; exact h9
      refine lv_aload_n hx hb dX0_countIn_28 rfl (lv_at hl 0 rfl) ?_
      refine lv_iload_n hx hb dX0_countIn_29 rfl (lv_at hl 2 rfl) ?_
      refine wd_put (ci := 1) (v := .int (gr)) (ty := .int) (C := RX0) (T := TX0) (N := 10) hx hb hts iwX0 tyX0 tyX0_ok nmX0 hown hK.1 hP hS (by omega) (pW_0) rfl 9 (by decide) (hts _ (tg_tail _ tw_133)) (fun _ h9 => h9) rfl (by decide +kernel) (rfl) (rfl) (Nat.le_of_ble_eq_true rfl) dX0_countIn_30 (fun H locs hP hS hz => ?_)
      have hP : gP g (pW g w q k kd li (some q2) (some q3) pa sz gr (tN F) j) H := by have h9 : gP g (wd_up (pW g w q k kd li (some q2) (some q3) pa sz cg (tN F) j) q (.inr (1, [.int (k), .int (kd), .int (li), va_rf (some q2), va_rf (some q3), .long (pa), .ref (q + 1), .ref (q + 2), .int (sz), .int (gr)]))) H := hP; rw [pW_s0] at h9; exact h9
      refine lv_aload_n hx hb dX0_countIn_33 rfl (lv_at hl 0 rfl) ?_
      refine cr_Vv (As := []) (rest := []) ⟨hx, hb, hml, hown, hts⟩ (c_X0_forget l g s0  w q hs0 k kd li (some q2) (some q3) pa sz gr (tN F) j) (cw_V 0 hts tg_tail tw_203 tw_205 tp_5 tw_5 tw_206 rfl rfl (by decide +kernel) ⟨Nat.le_trans (by decide) hRm.1, Nat.le_trans (by decide) hRm.2⟩) hK hP h0s hS (pW_0) rfl rfl rfl hl.1 rfl (Nat.le_of_ble_eq_true rfl) dX0_countIn_34 hcs (fun w9 H locs hw hP hS => ?_)
      rw [hw, fo2_tN] at hP
      have hP : gP g (pW g w q k kd li (some q2) (some q3) pa sz gr (tN (t0 F j).1) ((t0 F j).2)) H := hP
      refine lv_aload_n hx hb dX0_countIn_37 rfl (lv_at hl 0 rfl) ?_
      refine wd_get (ci := 1) (v := .ref q2) (C := RX0) (T := TX0) (N := 10) hx hb hts iwX0 hown hK.1 hP (pW_0) rfl 3 (by decide) (hts _ (tg_tail _ tw_126)) (fun _ h9 => h9) rfl dX0_countIn_38 ?_
      refine lv_ifnonnull (tgt := 52) hx hb dX0_countIn_41 (by decide) ?_
      refine lv_aload_n hx hb dX0_countIn_52 rfl (lv_at hl 0 rfl) ?_
      refine wd_get (ci := 1) (v := .ref q3) (C := RX0) (T := TX0) (N := 10) hx hb hts iwX0 hown hK.1 hP (pW_0) rfl 4 (by decide) (hts _ (tg_tail _ tw_127)) (fun _ h9 => h9) rfl dX0_countIn_53 ?_
      refine lv_ifnonnull (tgt := 71) hx hb dX0_countIn_56 (by decide) ?_
      refine lv_aload_n hx hb dX0_countIn_71 rfl (lv_at hl 0 rfl) ?_
      refine lv_aload_n hx hb dX0_countIn_72 rfl (lv_at hl 0 rfl) ?_
      refine wd_get (ci := 1) (v := .ref q2) (C := RX0) (T := TX0) (N := 10) hx hb hts iwX0 hown hK.1 hP (pW_0) rfl 3 (by decide) (hts _ (tg_tail _ tw_126)) (fun _ h9 => h9) rfl dX0_countIn_73 ?_
      refine lv_aload_n hx hb dX0_countIn_76 rfl (lv_at hl 0 rfl) ?_
      refine wd_get (ci := 1) (v := .ref q3) (C := RX0) (T := TX0) (N := 10) hx hb hts iwX0 hown hK.1 hP (pW_0) rfl 4 (by decide) (hts _ (tg_tail _ tw_127)) (fun _ h9 => h9) rfl dX0_countIn_77 ?_
      refine cr_Vv (As := [.ref q2, .ref q3]) (rest := []) ⟨hx, hb, hml, hown, hts⟩ (c_X0_countOverTwo l g s0  w q hs0 k kd li (some q2) (some q3) pa sz gr (t0 F j) (t0_B hB) q2 k2 kd2 li2 inn2 oth2 pa2 cs2 cg2 G h29 L2 L2t hne2 q3 k3 kd3 li3 inn3 oth3 pa3 cs3 cg3 G3 h39 L3 L3t hne3 J3 L3j) (cw_V 2 hts tg_tail tw_251 tw_253 tp_14 tw_5 tw_254 rfl rfl (by decide +kernel) ⟨Nat.le_trans (by decide) hRm.1, Nat.le_trans (by decide) hRm.2⟩) hK hP h0s hS (pW_0) rfl rfl rfl hl.1 rfl (Nat.le_of_ble_eq_true rfl) dX0_countIn_80 hcs (fun w9 H locs hw hP hS => ?_)
      rw [hw] at hP
      exact W.vret hx hb hr (fun t9 ht hW => ⟨⟨(pW g w q k kd li (some q2) (some q3) pa sz gr (tN (coT kd G G3 J3 (t0 F j)).1) ((coT kd G G3 J3 (t0 F j)).2)), rfl, Or.inr ⟨fun q9 => c_16 q9.2, rfl⟩, cB_of ht hP⟩, hS.F ht⟩) hS.2.2 dX0_countIn_83
    · exact W.vret hx hb hr (fun t9 ht hW => ⟨⟨(pW g w q k kd li (some q2) (some q3) pa cs cg (tN F) j), rfl, Or.inl ⟨c_8, c_16, rfl⟩, cB_of ht hP⟩, hS.F ht⟩) hS.2.2 dX0_countIn_19

