/-! THE CLASS: measure, countBetween, Path() -/
def meS (kd : Int32) (x : Nat) (l : Nat → Int32) : Nat → Int32 := if kd = nI 4 ∨ kd = nI 6 then upd l x (nI 0) else l
def meF (kd : Int32) (J : Nat → Int32) (x : Nat) (lv : Nat → Int32) : Nat → Int32 := meS kd x (if kd = nI 4 ∨ kd = nI 5 then mwF J x (ms1 lv 32) else ms1 lv 32)
def bw2 (G : Nat → Nat) (x ol n0 : Nat) : Nat → Nat
  | 0 => n0
  | i + 1 => bw2 G x ol n0 i + G (x * 32 + (ol + i))
termination_by i => i
def bw1 (G : Nat → Nat) (sl ol oc : Nat) : Nat → Nat
  | 0 => 0
  | i + 1 => bw2 G (sl + i) ol (bw1 G sl ol oc i) oc
termination_by i => i
set_option maxHeartbeats 4000000 in
set_option maxRecDepth 100000 in
theorem lp_ms1 {p : Program} {l : Launch} {e : Env} {R : Room} {s : State} {m : MethodId} {args : Array Value} {below : List Frame} {meth : Method} {c : Code} {Q : State → Prop} {H0 : Heap} {cells slots : Nat} (g : gX) (s0 : Nat) (w : wd_M) (la : Nat) (hs0 : s0 ≤ la) (lv : Nat → Int32) (q x : Nat) (hx : p.tables.exec = Jvm.exec) (hb : c.code = cX0_measure) (hml : c.maxLocals = 4) (hown : s.vm.findClass RX0 = some m.cls) (hts : ∀ w ∈ Cond.code yX0_measure cX0_measure 4 (none) :: tg, w.before args s = true) (hK : gK g s) (h0s : s0 ≤ H0.size) (hRm : 2 ≤ R.frames ∧ 48 ≤ R.locals) (hcs : cells + 0 ≤ R.cells ∧ slots + 0 ≤ R.slots)  (kx : ∀ (H : Heap) (locs : List Loc) (ls : Array Slot), gP g (lW g w la (ms1 lv 32)) H → gS s0 H0 H locs → lv_has ls 4 [(0, .ref q), (1, .int (nI x)), (2, .ref la)] → W p l e R s m args below meth c H locs cells slots Q (F0 m 18 ls [])) :
    ∀ (n y : Nat), y ≤ 32 → 32 + 1 ≤ y + n → ∀ (H : Heap) (locs : List Loc) (ls : Array Slot), gP g (lW g w la (ms1 lv y)) H → gS s0 H0 H locs → lv_has ls 4 [(0, .ref q), (1, .int (nI x)), (2, .ref la), (3, .int (nI y))] → W p l e R s m args below meth c H locs cells slots Q (F0 m 2 ls []) := by
  intro n
  induction n with
  | zero =>
    intro y h1 h2
    exact absurd h2 (by omega)
  | succ n ih =>
    intro y hi hin H locs ls hP hS hl
    refine lv_iload_n hx hb dX0_measure_2 rfl (lv_at hl 3 rfl) ?_
    refine lv_bipush (v := nI 32) hx hb dX0_measure_3 (by decide) ?_
    refine lv_icmp_ge (tgt := 18) hx hb dX0_measure_5 (by decide) (fun c_5 => ?_) (fun c_5 => ?_)
    · have c_5 := (nI_leI (a := 32) (b := y) (by omega) (by omega)).mp c_5
      have e9 : y = 32 := by omega
      try rw [e9] at hP
      try rw [e9] at hl
      exact kx H locs ls hP hS (lv_sub hl [0, 1, 2] rfl)
    · have c_5 := mt (nI_leI (a := 32) (b := y) (by omega) (by omega)).mpr c_5
      refine lv_aload_n hx hb dX0_measure_8 rfl (lv_at hl 2 rfl) ?_
      refine lv_iload_n hx hb dX0_measure_9 rfl (lv_at hl 3 rfl) ?_
      refine lv_iconst (v := nI 1) hx hb dX0_measure_10 (by decide) ?_
      refine wd_istN hx hb hK.1 hP hS (by omega) 0 (k := y) (lW_0) rfl (by omega) (by decide) dX0_measure_11 (fun H locs hP hS hz => ?_)
      have hP : gP g (lW g w la (upd (ms1 lv y) y (nI 1))) H := by have h9 : gP g (wd_up (lW g w la (ms1 lv y)) la (wd_iA (g.2 0) 32 (upd (ms1 lv y) y (nI 1)))) H := hP; rw [lW_s0] at h9; exact h9
      refine lv_iinc (v := nI (y + 1)) (lv' := [(3, .int (nI (y + 1))), (0, .ref q), (1, .int (nI x)), (2, .ref la)]) hx hb dX0_measure_12 hl (k := 3) rfl (nI_1 _) (by decide) rfl (fun ls hl => ?_)
      refine lv_goto (tgt := 2) hx hb dX0_measure_15 (by decide) ?_
      have e8 : (lW g w la (upd (ms1 lv y) y (nI 1))) = (lW g w la (ms1 lv (y + 1))) := by rw [ms1]
      rw [e8] at hP
      have hl : lv_has ls 4 [(0, .ref q), (1, .int (nI x)), (2, .ref la), (3, .int (nI (y + 1)))] := lv_sub hl [1, 2, 3, 0] rfl
      exact ih (y + 1) (by omega) (by omega) _ _ ls hP hS hl

set_option maxHeartbeats 4000000 in
set_option maxRecDepth 100000 in
theorem c_X0_measure_n (l : Launch) (g : gX) (s0 : Nat) (w : wd_M) (la : Nat) (hs0 : s0 ≤ la) (lv : Nat → Int32) (x : Nat) (hx1 : x < 32) (q : Nat) (k kd li : Int32) (oth : Option Nat) (pa : Int64) (cs cg : Int32) (L0 : w q = some (pO k kd li none oth pa (q + 1) (q + 2) cs cg)) (hne0 : q + 3 ≤ la ∨ la + 1 ≤ q) : Met l yX0_measure (Cond.code yX0_measure cX0_measure 4 (none) :: tg) ({ frames := 2, cells := 0, slots := 0, locals := 48 }) (cP g s0 (lW g w la lv) [.ref q, .int (nI x), .ref la]) (cV g s0 (fun w' => w' = (lW g w la (meS kd x (ms1 lv 32))))) 0 0 (cA s0) := by
  refine Met.ofW (cc := cX0_measure) (maxL := 4) (ret := none) (by decide) rfl ?_
  intro p e s m args below meth c s₁ B9 hml hv
  obtain ⟨rfl, h0s, hP, hK⟩ := hv
  have hx := B9.exec
  have hb := B9.bytes
  have hr := B9.returns
  have hts := atoms_spec (ws := Cond.code yX0_measure cX0_measure 4 (none) :: tg) B9.pre
  have hown : s.vm.findClass RX0 = some m.cls := findClass_of_methodNamed B9.named
  have hlocks := B9.notSynchronized
  have hS : gS s0 s.heap s.heap [] := va_S.rf
  have hRm : 2 ≤ (headSpec (Cond.code yX0_measure cX0_measure 4 (none) :: tg) ({ frames := 2, cells := 0, slots := 0, locals := 48 })).room.frames ∧ 48 ≤ (headSpec (Cond.code yX0_measure cX0_measure 4 (none) :: tg) ({ frames := 2, cells := 0, slots := 0, locals := 48 })).room.locals := ⟨Nat.le_refl _, Nat.le_refl _⟩
  have hcs : 0 + 0 ≤ (headSpec (Cond.code yX0_measure cX0_measure 4 (none) :: tg) ({ frames := 2, cells := 0, slots := 0, locals := 48 })).room.cells ∧ 0 + 0 ≤ (headSpec (Cond.code yX0_measure cX0_measure 4 (none) :: tg) ({ frames := 2, cells := 0, slots := 0, locals := 48 })).room.slots := ⟨Nat.zero_le _, Nat.zero_le _⟩
  have hl := lv_entry ([.ref q, .int (nI x), .ref la]) (n := 4) (Nat.le_of_ble_eq_true rfl)
  rw [lg_entry_eq]
  generalize (lg_sl ([.ref q, .int (nI x), .ref la]) ++ List.replicate (4 - (lg_sl ([.ref q, .int (nI x), .ref la])).length) Slot.unset).toArray = ls at hl ⊢
  have hl : lv_has ls 4 [(0, .ref q), (1, .int (nI x)), (2, .ref la)] := hl
  refine lv_iconst (v := nI 0) hx hb dX0_measure_0 (by decide) ?_
  refine lv_istore_n (lv' := [(3, .int (nI 0)), (0, .ref q), (1, .int (nI x)), (2, .ref la)]) hx hb dX0_measure_1 rfl hl (by decide) rfl (fun ls hl => ?_)
  have e8 : (lW g w la lv) = (lW g w la (ms1 lv 0)) := by rw [ms1]
  rw [e8] at hP
  have hl : lv_has ls 4 [(0, .ref q), (1, .int (nI x)), (2, .ref la), (3, .int (nI 0))] := lv_sub hl [1, 2, 3, 0] rfl
  refine lp_ms1 g s0 w la hs0 lv q x hx hb hml hown hts hK h0s hRm hcs  ?_ (32 + 1) 0 (by omega) (by omega) _ _ ls hP hS hl
  intro H locs ls hP hS hl
  refine lv_aload_n hx hb dX0_measure_18 rfl (lv_at hl 0 rfl) ?_
  refine wd_get (ci := 1) (v := .null) (C := RX0) (T := TX0) (N := 10) hx hb hts iwX0 hown hK.1 hP ((lW_out (by omega)).trans L0) rfl 3 (by decide) (hts _ (tg_tail _ tw_126)) (fun _ h9 => h9) rfl dX0_measure_19 ?_
  refine lv_ifnullN (tgt := 41) hx hb dX0_measure_22 (by decide) ?_
  refine lv_aload_n hx hb dX0_measure_41 rfl (lv_at hl 0 rfl) ?_
  refine wd_get (ci := 1) (v := .int (kd)) (C := RX0) (T := TX0) (N := 10) hx hb hts iwX0 hown hK.1 hP ((lW_out (by omega)).trans L0) rfl 1 (by decide) (hts _ (tg_tail _ tw_124)) (fun _ h9 => h9) rfl dX0_measure_42 ?_
  refine lv_iconst (v := nI 4) hx hb dX0_measure_45 (by decide) ?_
  refine lv_icmp_eq (tgt := 58) hx hb dX0_measure_46 (by decide) (fun c_46 => ?_) (fun c_46 => ?_)
  · refine lv_aload_n hx hb dX0_measure_58 rfl (lv_at hl 2 rfl) ?_
    refine lv_iload_n hx hb dX0_measure_59 rfl (lv_at hl 1 rfl) ?_
    refine lv_iconst (v := nI 0) hx hb dX0_measure_60 (by decide) ?_
    refine wd_istN hx hb hK.1 hP hS (by omega) 0 (k := x) (lW_0) rfl (by omega) (by decide) dX0_measure_61 (fun H locs hP hS hz => ?_)
    have hP : gP g (lW g w la (upd (ms1 lv 32) x (nI 0))) H := by have h9 : gP g (wd_up (lW g w la (ms1 lv 32)) la (wd_iA (g.2 0) 32 (upd (ms1 lv 32) x (nI 0)))) H := hP; rw [lW_s0] at h9; exact h9
    exact W.vret hx hb hr (fun t9 ht hW => ⟨⟨(lW g w la (upd (ms1 lv 32) x (nI 0))), rfl, by rw [meS, if_pos (Or.inl c_46)], cB_of ht hP⟩, hS.F ht⟩) hS.2.2 dX0_measure_62
  · refine lv_aload_n hx hb dX0_measure_49 rfl (lv_at hl 0 rfl) ?_
    refine wd_get (ci := 1) (v := .int (kd)) (C := RX0) (T := TX0) (N := 10) hx hb hts iwX0 hown hK.1 hP ((lW_out (by omega)).trans L0) rfl 1 (by decide) (hts _ (tg_tail _ tw_124)) (fun _ h9 => h9) rfl dX0_measure_50 ?_
    refine lv_bipush (v := nI 6) hx hb dX0_measure_53 (by decide) ?_
    refine lv_icmp_ne (tgt := 62) hx hb dX0_measure_55 (by decide) (fun c_55 => ?_) (fun c_55 => ?_)
    · exact W.vret hx hb hr (fun t9 ht hW => ⟨⟨(lW g w la (ms1 lv 32)), rfl, by rw [meS, if_neg (fun q => q.elim c_46 c_55)], cB_of ht hP⟩, hS.F ht⟩) hS.2.2 dX0_measure_62
    · refine lv_aload_n hx hb dX0_measure_58 rfl (lv_at hl 2 rfl) ?_
      refine lv_iload_n hx hb dX0_measure_59 rfl (lv_at hl 1 rfl) ?_
      refine lv_iconst (v := nI 0) hx hb dX0_measure_60 (by decide) ?_
      refine wd_istN hx hb hK.1 hP hS (by omega) 0 (k := x) (lW_0) rfl (by omega) (by decide) dX0_measure_61 (fun H locs hP hS hz => ?_)
      have hP : gP g (lW g w la (upd (ms1 lv 32) x (nI 0))) H := by have h9 : gP g (wd_up (lW g w la (ms1 lv 32)) la (wd_iA (g.2 0) 32 (upd (ms1 lv 32) x (nI 0)))) H := hP; rw [lW_s0] at h9; exact h9
      exact W.vret hx hb hr (fun t9 ht hW => ⟨⟨(lW g w la (upd (ms1 lv 32) x (nI 0))), rfl, by rw [meS, if_pos (Or.inr c_55)], cB_of ht hP⟩, hS.F ht⟩) hS.2.2 dX0_measure_62

set_option maxHeartbeats 4000000 in
set_option maxRecDepth 100000 in
theorem c_X0_measure_s (l : Launch) (g : gX) (s0 : Nat) (w : wd_M) (la : Nat) (hs0 : s0 ≤ la) (lv : Nat → Int32) (x : Nat) (hx1 : x < 32) (q2 : Nat) (k2 kd2 li2 : Int32) (inn2 oth2 : Option Nat) (pa2 : Int64) (cs2 cg2 : Int32) (L2 : w q2 = some (pO k2 kd2 li2 inn2 oth2 pa2 (q2 + 1) (q2 + 2) cs2 cg2)) (J2 : Nat → Int32) (L2j : w (q2 + 2) = some (wd_iA (g.2 0) 32 J2)) (hne2 : q2 + 3 ≤ la ∨ la + 1 ≤ q2) (q : Nat) (k kd li : Int32) (oth : Option Nat) (pa : Int64) (cs cg : Int32) (L0 : w q = some (pO k kd li (some q2) oth pa (q + 1) (q + 2) cs cg)) (hne0 : q + 3 ≤ la ∨ la + 1 ≤ q) : Met l yX0_measure (Cond.code yX0_measure cX0_measure 4 (none) :: tg) ({ frames := 2, cells := 0, slots := 0, locals := 48 }) (cP g s0 (lW g w la lv) [.ref q, .int (nI x), .ref la]) (cV g s0 (fun w' => w' = (lW g w la (meF kd J2 x lv)))) 0 0 (cA s0) := by
  refine Met.ofW (cc := cX0_measure) (maxL := 4) (ret := none) (by decide) rfl ?_
  intro p e s m args below meth c s₁ B9 hml hv
  obtain ⟨rfl, h0s, hP, hK⟩ := hv
  have hx := B9.exec
  have hb := B9.bytes
  have hr := B9.returns
  have hts := atoms_spec (ws := Cond.code yX0_measure cX0_measure 4 (none) :: tg) B9.pre
  have hown : s.vm.findClass RX0 = some m.cls := findClass_of_methodNamed B9.named
  have hlocks := B9.notSynchronized
  have hS : gS s0 s.heap s.heap [] := va_S.rf
  have hRm : 2 ≤ (headSpec (Cond.code yX0_measure cX0_measure 4 (none) :: tg) ({ frames := 2, cells := 0, slots := 0, locals := 48 })).room.frames ∧ 48 ≤ (headSpec (Cond.code yX0_measure cX0_measure 4 (none) :: tg) ({ frames := 2, cells := 0, slots := 0, locals := 48 })).room.locals := ⟨Nat.le_refl _, Nat.le_refl _⟩
  have hcs : 0 + 0 ≤ (headSpec (Cond.code yX0_measure cX0_measure 4 (none) :: tg) ({ frames := 2, cells := 0, slots := 0, locals := 48 })).room.cells ∧ 0 + 0 ≤ (headSpec (Cond.code yX0_measure cX0_measure 4 (none) :: tg) ({ frames := 2, cells := 0, slots := 0, locals := 48 })).room.slots := ⟨Nat.zero_le _, Nat.zero_le _⟩
  have hl := lv_entry ([.ref q, .int (nI x), .ref la]) (n := 4) (Nat.le_of_ble_eq_true rfl)
  rw [lg_entry_eq]
  generalize (lg_sl ([.ref q, .int (nI x), .ref la]) ++ List.replicate (4 - (lg_sl ([.ref q, .int (nI x), .ref la])).length) Slot.unset).toArray = ls at hl ⊢
  have hl : lv_has ls 4 [(0, .ref q), (1, .int (nI x)), (2, .ref la)] := hl
  refine lv_iconst (v := nI 0) hx hb dX0_measure_0 (by decide) ?_
  refine lv_istore_n (lv' := [(3, .int (nI 0)), (0, .ref q), (1, .int (nI x)), (2, .ref la)]) hx hb dX0_measure_1 rfl hl (by decide) rfl (fun ls hl => ?_)
  have e8 : (lW g w la lv) = (lW g w la (ms1 lv 0)) := by rw [ms1]
  rw [e8] at hP
  have hl : lv_has ls 4 [(0, .ref q), (1, .int (nI x)), (2, .ref la), (3, .int (nI 0))] := lv_sub hl [1, 2, 3, 0] rfl
  refine lp_ms1 g s0 w la hs0 lv q x hx hb hml hown hts hK h0s hRm hcs  ?_ (32 + 1) 0 (by omega) (by omega) _ _ ls hP hS hl
  intro H locs ls hP hS hl
  refine lv_aload_n hx hb dX0_measure_18 rfl (lv_at hl 0 rfl) ?_
  refine wd_get (ci := 1) (v := .ref q2) (C := RX0) (T := TX0) (N := 10) hx hb hts iwX0 hown hK.1 hP ((lW_out (by omega)).trans L0) rfl 3 (by decide) (hts _ (tg_tail _ tw_126)) (fun _ h9 => h9) rfl dX0_measure_19 ?_
  refine lv_ifnull hx hb dX0_measure_22 ?_
  refine lv_aload_n hx hb dX0_measure_25 rfl (lv_at hl 0 rfl) ?_
  refine cr_Vi (As := []) (rest := []) ⟨hx, hb, hml, hown, hts⟩ (c_X0_walks l g s0 (lW g w la (ms1 lv 32)) q (q + 1) (q + 2) k kd li (some q2) oth pa cs cg ((lW_out (by omega)).trans L0)) (cw_V 0 hts tg_tail tw_234 tw_235 tw_236 tw_5 tw_237 rfl rfl (by decide +kernel) ⟨Nat.le_trans (by decide) hRm.1, Nat.le_trans (by decide) hRm.2⟩) hK hP h0s hS ((lW_out (by omega)).trans L0) rfl rfl rfl hl.1 rfl (Nat.le_of_ble_eq_true rfl) dX0_measure_26 hcs (fun r9 w9 H locs hw hP hS => ?_)
  obtain ⟨e_r9, hw9⟩ := hw
  rw [hw9] at hP
  subst e_r9
  refine lv_if_eq (tgt := 41) hx hb dX0_measure_29 (by decide) (fun c_29 => ?_) (fun c_29 => ?_)
  · have c_29 := zB_0.mp c_29
    refine lv_aload_n hx hb dX0_measure_41 rfl (lv_at hl 0 rfl) ?_
    refine wd_get (ci := 1) (v := .int (kd)) (C := RX0) (T := TX0) (N := 10) hx hb hts iwX0 hown hK.1 hP ((lW_out (by omega)).trans L0) rfl 1 (by decide) (hts _ (tg_tail _ tw_124)) (fun _ h9 => h9) rfl dX0_measure_42 ?_
    refine lv_iconst (v := nI 4) hx hb dX0_measure_45 (by decide) ?_
    refine lv_icmp_eq (tgt := 58) hx hb dX0_measure_46 (by decide) (fun c_46 => ?_) (fun c_46 => ?_)
    · refine lv_aload_n hx hb dX0_measure_58 rfl (lv_at hl 2 rfl) ?_
      refine lv_iload_n hx hb dX0_measure_59 rfl (lv_at hl 1 rfl) ?_
      refine lv_iconst (v := nI 0) hx hb dX0_measure_60 (by decide) ?_
      refine wd_istN hx hb hK.1 hP hS (by omega) 0 (k := x) (lW_0) rfl (by omega) (by decide) dX0_measure_61 (fun H locs hP hS hz => ?_)
      have hP : gP g (lW g w la (upd (ms1 lv 32) x (nI 0))) H := by have h9 : gP g (wd_up (lW g w la (ms1 lv 32)) la (wd_iA (g.2 0) 32 (upd (ms1 lv 32) x (nI 0)))) H := hP; rw [lW_s0] at h9; exact h9
      exact W.vret hx hb hr (fun t9 ht hW => ⟨⟨(lW g w la (upd (ms1 lv 32) x (nI 0))), rfl, by rw [meF, meS, if_pos (Or.inl c_46), if_neg c_29], cB_of ht hP⟩, hS.F ht⟩) hS.2.2 dX0_measure_62
    · refine lv_aload_n hx hb dX0_measure_49 rfl (lv_at hl 0 rfl) ?_
      refine wd_get (ci := 1) (v := .int (kd)) (C := RX0) (T := TX0) (N := 10) hx hb hts iwX0 hown hK.1 hP ((lW_out (by omega)).trans L0) rfl 1 (by decide) (hts _ (tg_tail _ tw_124)) (fun _ h9 => h9) rfl dX0_measure_50 ?_
      refine lv_bipush (v := nI 6) hx hb dX0_measure_53 (by decide) ?_
      refine lv_icmp_ne (tgt := 62) hx hb dX0_measure_55 (by decide) (fun c_55 => ?_) (fun c_55 => ?_)
      · exact W.vret hx hb hr (fun t9 ht hW => ⟨⟨(lW g w la (ms1 lv 32)), rfl, by rw [meF, meS, if_neg (fun q => q.elim c_46 c_55), if_neg c_29], cB_of ht hP⟩, hS.F ht⟩) hS.2.2 dX0_measure_62
      · refine lv_aload_n hx hb dX0_measure_58 rfl (lv_at hl 2 rfl) ?_
        refine lv_iload_n hx hb dX0_measure_59 rfl (lv_at hl 1 rfl) ?_
        refine lv_iconst (v := nI 0) hx hb dX0_measure_60 (by decide) ?_
        refine wd_istN hx hb hK.1 hP hS (by omega) 0 (k := x) (lW_0) rfl (by omega) (by decide) dX0_measure_61 (fun H locs hP hS hz => ?_)
        have hP : gP g (lW g w la (upd (ms1 lv 32) x (nI 0))) H := by have h9 : gP g (wd_up (lW g w la (ms1 lv 32)) la (wd_iA (g.2 0) 32 (upd (ms1 lv 32) x (nI 0)))) H := hP; rw [lW_s0] at h9; exact h9
        exact W.vret hx hb hr (fun t9 ht hW => ⟨⟨(lW g w la (upd (ms1 lv 32) x (nI 0))), rfl, by rw [meF, meS, if_pos (Or.inr c_55), if_neg c_29], cB_of ht hP⟩, hS.F ht⟩) hS.2.2 dX0_measure_62
  · have c_29 := zB_1.mp c_29
    refine lv_aload_n hx hb dX0_measure_32 rfl (lv_at hl 0 rfl) ?_
    refine wd_get (ci := 1) (v := .ref q2) (C := RX0) (T := TX0) (N := 10) hx hb hts iwX0 hown hK.1 hP ((lW_out (by omega)).trans L0) rfl 3 (by decide) (hts _ (tg_tail _ tw_126)) (fun _ h9 => h9) rfl dX0_measure_33 ?_
    refine lv_iload_n hx hb dX0_measure_36 rfl (lv_at hl 1 rfl) ?_
    refine lv_aload_n hx hb dX0_measure_37 rfl (lv_at hl 2 rfl) ?_
    refine cr_Sv (As := [.ref q2, .int (nI x), .ref la]) (rest := []) ⟨hx, hb, hml, hown, hts⟩ (c_X0_measureWalk l g s0  w la hs0 (ms1 lv 32) x hx1 q2 k2 kd2 li2 inn2 oth2 pa2 cs2 cg2 L2 J2 L2j hne2) (cw_S 3 hts tg_tail tw_300 tw_301 tw_5 tw_302 rfl rfl (by decide +kernel) ⟨Nat.le_trans (by decide) hRm.1, Nat.le_trans (by decide) hRm.2⟩) hK hP h0s hS rfl hl.1 rfl (Nat.le_of_ble_eq_true rfl) dX0_measure_38 hcs (fun w9 H locs hw hP hS => ?_)
    rw [hw] at hP
    refine lv_aload_n hx hb dX0_measure_41 rfl (lv_at hl 0 rfl) ?_
    refine wd_get (ci := 1) (v := .int (kd)) (C := RX0) (T := TX0) (N := 10) hx hb hts iwX0 hown hK.1 hP ((lW_out (by omega)).trans L0) rfl 1 (by decide) (hts _ (tg_tail _ tw_124)) (fun _ h9 => h9) rfl dX0_measure_42 ?_
    refine lv_iconst (v := nI 4) hx hb dX0_measure_45 (by decide) ?_
    refine lv_icmp_eq (tgt := 58) hx hb dX0_measure_46 (by decide) (fun c_46 => ?_) (fun c_46 => ?_)
    · refine lv_aload_n hx hb dX0_measure_58 rfl (lv_at hl 2 rfl) ?_
      refine lv_iload_n hx hb dX0_measure_59 rfl (lv_at hl 1 rfl) ?_
      refine lv_iconst (v := nI 0) hx hb dX0_measure_60 (by decide) ?_
      refine wd_istN hx hb hK.1 hP hS (by omega) 0 (k := x) (lW_0) rfl (by omega) (by decide) dX0_measure_61 (fun H locs hP hS hz => ?_)
      have hP : gP g (lW g w la (upd (mwF J2 x (ms1 lv 32)) x (nI 0))) H := by have h9 : gP g (wd_up (lW g w la (mwF J2 x (ms1 lv 32))) la (wd_iA (g.2 0) 32 (upd (mwF J2 x (ms1 lv 32)) x (nI 0)))) H := hP; rw [lW_s0] at h9; exact h9
      exact W.vret hx hb hr (fun t9 ht hW => ⟨⟨(lW g w la (upd (mwF J2 x (ms1 lv 32)) x (nI 0))), rfl, by rw [meF, meS, if_pos (Or.inl c_46), if_pos c_29], cB_of ht hP⟩, hS.F ht⟩) hS.2.2 dX0_measure_62
    · refine lv_aload_n hx hb dX0_measure_49 rfl (lv_at hl 0 rfl) ?_
      refine wd_get (ci := 1) (v := .int (kd)) (C := RX0) (T := TX0) (N := 10) hx hb hts iwX0 hown hK.1 hP ((lW_out (by omega)).trans L0) rfl 1 (by decide) (hts _ (tg_tail _ tw_124)) (fun _ h9 => h9) rfl dX0_measure_50 ?_
      refine lv_bipush (v := nI 6) hx hb dX0_measure_53 (by decide) ?_
      refine lv_icmp_ne (tgt := 62) hx hb dX0_measure_55 (by decide) (fun c_55 => ?_) (fun c_55 => ?_)
      · exact W.vret hx hb hr (fun t9 ht hW => ⟨⟨(lW g w la (mwF J2 x (ms1 lv 32))), rfl, by rw [meF, meS, if_neg (fun q => q.elim c_46 c_55), if_pos c_29], cB_of ht hP⟩, hS.F ht⟩) hS.2.2 dX0_measure_62
      · refine lv_aload_n hx hb dX0_measure_58 rfl (lv_at hl 2 rfl) ?_
        refine lv_iload_n hx hb dX0_measure_59 rfl (lv_at hl 1 rfl) ?_
        refine lv_iconst (v := nI 0) hx hb dX0_measure_60 (by decide) ?_
        refine wd_istN hx hb hK.1 hP hS (by omega) 0 (k := x) (lW_0) rfl (by omega) (by decide) dX0_measure_61 (fun H locs hP hS hz => ?_)
        have hP : gP g (lW g w la (upd (mwF J2 x (ms1 lv 32)) x (nI 0))) H := by have h9 : gP g (wd_up (lW g w la (mwF J2 x (ms1 lv 32))) la (wd_iA (g.2 0) 32 (upd (mwF J2 x (ms1 lv 32)) x (nI 0)))) H := hP; rw [lW_s0] at h9; exact h9
        exact W.vret hx hb hr (fun t9 ht hW => ⟨⟨(lW g w la (upd (mwF J2 x (ms1 lv 32)) x (nI 0))), rfl, by rw [meF, meS, if_pos (Or.inr c_55), if_pos c_29], cB_of ht hP⟩, hS.F ht⟩) hS.2.2 dX0_measure_62

set_option maxHeartbeats 4000000 in
set_option maxRecDepth 100000 in
theorem lp_bw2 {p : Program} {l : Launch} {e : Env} {R : Room} {s : State} {m : MethodId} {args : Array Value} {below : List Frame} {meth : Method} {c : Code} {Q : State → Prop} {H0 : Heap} {cells slots : Nat} (g : gX) (s0 : Nat) (w : wd_M) (q : Nat) (k kd li : Int32) (inn oth : Option Nat) (pa : Int64) (cs cg : Int32) (G : Nat → Nat) (Lh : w q = some (pO k kd li inn oth pa (q + 1) (q + 2) cs cg)) (Lt : w (q + 1) = some (wd_iA (g.2 0) 1024 (tN G))) (sv ov : Int32) (sl sh ol oh : Nat) (hs1 : (if sv = -1 then nI 0 else sv) = nI sl) (hs2 : (if sv = -1 then nI 31 else sv) = nI sh) (hs3 : sl ≤ sh + 1) (hs4 : sh < 32) (ho1 : (if ov = -1 then nI 0 else ov) = nI ol) (ho2 : (if ov = -1 then nI 31 else ov) = nI oh) (ho3 : ol ≤ oh + 1) (ho4 : oh < 32) (x n0 : Nat) (hx1 : x < 32) (hx : p.tables.exec = Jvm.exec) (hb : c.code = cX0_countBetween) (hml : c.maxLocals = 6) (hown : s.vm.findClass RX0 = some m.cls) (hts : ∀ w ∈ Cond.code yX0_countBetween cX0_countBetween 6 (some .int) :: tg, w.before args s = true) (hK : gK g s) (h0s : s0 ≤ H0.size) (hRm : 1 ≤ R.frames ∧ 22 ≤ R.locals) (hcs : cells + 0 ≤ R.cells ∧ slots + 0 ≤ R.slots)  (kx : ∀ (H : Heap) (locs : List Loc) (ls : Array Slot), gP g w H → gS s0 H0 H locs → lv_has ls 6 [(0, .ref q), (1, .int (sv)), (2, .int (ov)), (3, .int (nI (bw2 G x ol n0 (oh + 1 - ol)))), (4, .int (nI x))] → W p l e R s m args below meth c H locs cells slots Q (F0 m 49 ls [])) :
    ∀ (n i : Nat), i ≤ (oh + 1 - ol) → (oh + 1 - ol) + 1 ≤ i + n → ∀ (H : Heap) (locs : List Loc) (ls : Array Slot), gP g w H → gS s0 H0 H locs → lv_has ls 6 [(0, .ref q), (1, .int (sv)), (2, .int (ov)), (3, .int (nI (bw2 G x ol n0 i))), (4, .int (nI x)), (5, .int (nI (ol + i)))] → W p l e R s m args below meth c H locs cells slots Q (F0 m 23 ls []) := by
  intro n
  induction n with
  | zero =>
    intro i h1 h2
    exact absurd h2 (by omega)
  | succ n ih =>
    intro i hi hin H locs ls hP hS hl
    refine lv_iload hx hb dX0_countBetween_23 (lv_at hl 5 rfl) ?_
    refine lv_iload_n hx hb dX0_countBetween_25 rfl (lv_at hl 2 rfl) ?_
    refine cr_Ni (As := [.int (ov)]) (rest := [.int (nI (ol + i))]) ⟨hx, hb, hml, hown, hts⟩ (c_X3_highest l g s0 w ov) (cw_N 1 hts tg_tail hK.2.2.2.2.2 tw_284 tw_1 tw_285 rfl rfl (by decide +kernel) ⟨Nat.le_trans (by decide) hRm.1, Nat.le_trans (by decide) hRm.2⟩) hK hP h0s hS rfl hl.1 rfl (Nat.le_of_ble_eq_true rfl) dX0_countBetween_26 hcs (fun r9 w9 H locs hw hP hS => ?_)
    obtain ⟨e_r9, hw9⟩ := hw
    rw [hw9] at hP
    rw [ho2] at e_r9
    subst e_r9
    refine lv_icmp_gt (tgt := 49) hx hb dX0_countBetween_29 (by decide) (fun c_29 => ?_) (fun c_29 => ?_)
    · have c_29 := (nI_ltI (a := oh) (b := (ol + i)) (by omega) (by omega)).mp c_29
      have e9 : i = (oh + 1 - ol) := by omega
      try rw [e9] at hP
      try rw [e9] at hl
      exact kx H locs ls hP hS (lv_sub hl [0, 1, 2, 3, 4] rfl)
    · have c_29 := mt (nI_ltI (a := oh) (b := (ol + i)) (by omega) (by omega)).mpr c_29
      refine lv_iload_n hx hb dX0_countBetween_32 rfl (lv_at hl 3 rfl) ?_
      refine lv_aload_n hx hb dX0_countBetween_33 rfl (lv_at hl 0 rfl) ?_
      refine lv_iload hx hb dX0_countBetween_34 (lv_at hl 4 rfl) ?_
      refine lv_iload hx hb dX0_countBetween_36 (lv_at hl 5 rfl) ?_
      refine cr_Vi (As := [.int (nI x), .int (nI (ol + i))]) (rest := [.int (nI (bw2 G x ol n0 i))]) ⟨hx, hb, hml, hown, hts⟩ (c_X0_timesOf l g s0 w q (q + 1) (q + 2) k kd li inn oth pa cs cg Lh (tN G) Lt (x) (ol + i) (by omega) (by omega)) (cw_V 2 hts tg_tail tw_226 tw_227 tw_228 tw_5 tw_229 rfl rfl (by decide +kernel) ⟨Nat.le_trans (by decide) hRm.1, Nat.le_trans (by decide) hRm.2⟩) hK hP h0s hS (Lh) rfl rfl rfl hl.1 rfl (Nat.le_of_ble_eq_true rfl) dX0_countBetween_38 hcs (fun r9 w9 H locs hw hP hS => ?_)
      obtain ⟨e_r9, hw9⟩ := hw
      rw [hw9] at hP
      subst e_r9
      refine wd_ti (x' := nI (G ((x) * 32 + (ol + i)))) (rfl) ?_
      refine lv_iadd hx hb dX0_countBetween_41 ?_
      refine wd_ti (x' := nI ((bw2 G x ol n0 i) + (G ((x) * 32 + (ol + i))))) (nI_add _ _) ?_
      refine lv_istore_n (lv' := [(3, .int (nI ((bw2 G x ol n0 i) + (G ((x) * 32 + (ol + i)))))), (0, .ref q), (1, .int (sv)), (2, .int (ov)), (4, .int (nI x)), (5, .int (nI (ol + i)))]) hx hb dX0_countBetween_42 rfl hl (by decide) rfl (fun ls hl => ?_)
      refine lv_iinc (v := nI (ol + i + 1)) (lv' := [(5, .int (nI (ol + i + 1))), (3, .int (nI ((bw2 G x ol n0 i) + (G ((x) * 32 + (ol + i)))))), (0, .ref q), (1, .int (sv)), (2, .int (ov)), (4, .int (nI x))]) hx hb dX0_countBetween_43 hl (k := 5) rfl (nI_1 _) (by decide) rfl (fun ls hl => ?_)
      refine lv_goto (tgt := 23) hx hb dX0_countBetween_46 (by decide) ?_
      have hl : lv_has ls 6 [(0, .ref q), (1, .int (sv)), (2, .int (ov)), (3, .int (nI ((bw2 G x ol n0 i) + (G ((x) * 32 + (ol + i)))))), (4, .int (nI x)), (5, .int (nI (ol + i + 1)))] := lv_sub hl [2, 3, 4, 1, 5, 0] rfl
      have e8 : ([(0, .ref q), (1, .int (sv)), (2, .int (ov)), (3, .int (nI ((bw2 G x ol n0 i) + (G ((x) * 32 + (ol + i)))))), (4, .int (nI x)), (5, .int (nI (ol + i + 1)))] : List (Nat × Value)) = [(0, .ref q), (1, .int (sv)), (2, .int (ov)), (3, .int (nI (bw2 G x ol n0 (i + 1)))), (4, .int (nI x)), (5, .int (nI (ol + (i + 1))))] := by rw [bw2]; rfl
      rw [e8] at hl
      exact ih (i + 1) (by omega) (by omega) _ _ ls hP hS hl

set_option maxHeartbeats 4000000 in
set_option maxRecDepth 100000 in
theorem lp_bw1 {p : Program} {l : Launch} {e : Env} {R : Room} {s : State} {m : MethodId} {args : Array Value} {below : List Frame} {meth : Method} {c : Code} {Q : State → Prop} {H0 : Heap} {cells slots : Nat} (g : gX) (s0 : Nat) (w : wd_M) (q : Nat) (k kd li : Int32) (inn oth : Option Nat) (pa : Int64) (cs cg : Int32) (G : Nat → Nat) (Lh : w q = some (pO k kd li inn oth pa (q + 1) (q + 2) cs cg)) (Lt : w (q + 1) = some (wd_iA (g.2 0) 1024 (tN G))) (sv ov : Int32) (sl sh ol oh : Nat) (hs1 : (if sv = -1 then nI 0 else sv) = nI sl) (hs2 : (if sv = -1 then nI 31 else sv) = nI sh) (hs3 : sl ≤ sh + 1) (hs4 : sh < 32) (ho1 : (if ov = -1 then nI 0 else ov) = nI ol) (ho2 : (if ov = -1 then nI 31 else ov) = nI oh) (ho3 : ol ≤ oh + 1) (ho4 : oh < 32) (hx : p.tables.exec = Jvm.exec) (hb : c.code = cX0_countBetween) (hml : c.maxLocals = 6) (hown : s.vm.findClass RX0 = some m.cls) (hts : ∀ w ∈ Cond.code yX0_countBetween cX0_countBetween 6 (some .int) :: tg, w.before args s = true) (hK : gK g s) (h0s : s0 ≤ H0.size) (hRm : 1 ≤ R.frames ∧ 22 ≤ R.locals) (hcs : cells + 0 ≤ R.cells ∧ slots + 0 ≤ R.slots)  (kx : ∀ (H : Heap) (locs : List Loc) (ls : Array Slot), gP g w H → gS s0 H0 H locs → lv_has ls 6 [(3, .int (nI (bw1 G sl ol (oh + 1 - ol) (sh + 1 - sl))))] → W p l e R s m args below meth c H locs cells slots Q (F0 m 55 ls [])) :
    ∀ (n i : Nat), i ≤ (sh + 1 - sl) → (sh + 1 - sl) + 1 ≤ i + n → ∀ (H : Heap) (locs : List Loc) (ls : Array Slot), gP g w H → gS s0 H0 H locs → lv_has ls 6 [(0, .ref q), (1, .int (sv)), (2, .int (ov)), (3, .int (nI (bw1 G sl ol (oh + 1 - ol) i))), (4, .int (nI (sl + i)))] → W p l e R s m args below meth c H locs cells slots Q (F0 m 8 ls []) := by
  intro n
  induction n with
  | zero =>
    intro i h1 h2
    exact absurd h2 (by omega)
  | succ n ih =>
    intro i hi hin H locs ls hP hS hl
    refine lv_iload hx hb dX0_countBetween_8 (lv_at hl 4 rfl) ?_
    refine lv_iload_n hx hb dX0_countBetween_10 rfl (lv_at hl 1 rfl) ?_
    refine cr_Ni (As := [.int (sv)]) (rest := [.int (nI (sl + i))]) ⟨hx, hb, hml, hown, hts⟩ (c_X3_highest l g s0 w sv) (cw_N 1 hts tg_tail hK.2.2.2.2.2 tw_284 tw_1 tw_285 rfl rfl (by decide +kernel) ⟨Nat.le_trans (by decide) hRm.1, Nat.le_trans (by decide) hRm.2⟩) hK hP h0s hS rfl hl.1 rfl (Nat.le_of_ble_eq_true rfl) dX0_countBetween_11 hcs (fun r9 w9 H locs hw hP hS => ?_)
    obtain ⟨e_r9, hw9⟩ := hw
    rw [hw9] at hP
    rw [hs2] at e_r9
    subst e_r9
    refine lv_icmp_gt (tgt := 55) hx hb dX0_countBetween_14 (by decide) (fun c_14 => ?_) (fun c_14 => ?_)
    · have c_14 := (nI_ltI (a := sh) (b := (sl + i)) (by omega) (by omega)).mp c_14
      have e9 : i = (sh + 1 - sl) := by omega
      try rw [e9] at hP
      try rw [e9] at hl
      exact kx H locs ls hP hS (lv_sub hl [3] rfl)
    · have c_14 := mt (nI_ltI (a := sh) (b := (sl + i)) (by omega) (by omega)).mpr c_14
      refine lv_iload_n hx hb dX0_countBetween_17 rfl (lv_at hl 2 rfl) ?_
      refine cr_Ni (As := [.int (ov)]) (rest := []) ⟨hx, hb, hml, hown, hts⟩ (c_X3_lowest l g s0 w ov) (cw_N 1 hts tg_tail hK.2.2.2.2.1 tw_281 tw_1 tw_282 rfl rfl (by decide +kernel) ⟨Nat.le_trans (by decide) hRm.1, Nat.le_trans (by decide) hRm.2⟩) hK hP h0s hS rfl hl.1 rfl (Nat.le_of_ble_eq_true rfl) dX0_countBetween_18 hcs (fun r9 w9 H locs hw hP hS => ?_)
      obtain ⟨e_r9, hw9⟩ := hw
      rw [hw9] at hP
      rw [ho1] at e_r9
      subst e_r9
      refine lv_istore (lv' := [(5, .int (nI ol)), (0, .ref q), (1, .int (sv)), (2, .int (ov)), (3, .int (nI (bw1 G sl ol (oh + 1 - ol) i))), (4, .int (nI (sl + i)))]) hx hb dX0_countBetween_21 hl (by decide) rfl (fun ls hl => ?_)
      have hl : lv_has ls 6 [(0, .ref q), (1, .int (sv)), (2, .int (ov)), (3, .int (nI (bw1 G sl ol (oh + 1 - ol) i))), (4, .int (nI (sl + i))), (5, .int (nI ol))] := lv_sub hl [1, 2, 3, 4, 5, 0] rfl
      have e8 : ([(0, .ref q), (1, .int (sv)), (2, .int (ov)), (3, .int (nI (bw1 G sl ol (oh + 1 - ol) i))), (4, .int (nI (sl + i))), (5, .int (nI ol))] : List (Nat × Value)) = [(0, .ref q), (1, .int (sv)), (2, .int (ov)), (3, .int (nI (bw2 G (sl + i) ol (bw1 G sl ol (oh + 1 - ol) i) 0))), (4, .int (nI (sl + i))), (5, .int (nI (ol + 0)))] := by rw [bw2]; rfl
      rw [e8] at hl
      refine lp_bw2 g s0 w q k kd li inn oth pa cs cg G Lh Lt sv ov sl sh ol oh hs1 hs2 hs3 hs4 ho1 ho2 ho3 ho4 (sl + i) (bw1 G sl ol (oh + 1 - ol) i) (by omega) hx hb hml hown hts hK h0s hRm hcs  ?_ (((oh + 1 - ol)) + 1) 0 (by omega) (by omega) _ _ ls hP hS hl
      intro H locs ls hP hS hl
      refine lv_iinc (v := nI (sl + i + 1)) (lv' := [(4, .int (nI (sl + i + 1))), (0, .ref q), (1, .int (sv)), (2, .int (ov)), (3, .int (nI (bw2 G (sl + i) ol (bw1 G sl ol (oh + 1 - ol) i) ((oh + 1 - ol)))))]) hx hb dX0_countBetween_49 hl (k := 4) rfl (nI_1 _) (by decide) rfl (fun ls hl => ?_)
      refine lv_goto (tgt := 8) hx hb dX0_countBetween_52 (by decide) ?_
      have hl : lv_has ls 6 [(0, .ref q), (1, .int (sv)), (2, .int (ov)), (3, .int (nI (bw2 G (sl + i) ol (bw1 G sl ol (oh + 1 - ol) i) ((oh + 1 - ol))))), (4, .int (nI (sl + i + 1)))] := lv_sub hl [1, 2, 3, 4, 0] rfl
      have e8 : ([(0, .ref q), (1, .int (sv)), (2, .int (ov)), (3, .int (nI (bw2 G (sl + i) ol (bw1 G sl ol (oh + 1 - ol) i) ((oh + 1 - ol))))), (4, .int (nI (sl + i + 1)))] : List (Nat × Value)) = [(0, .ref q), (1, .int (sv)), (2, .int (ov)), (3, .int (nI (bw1 G sl ol (oh + 1 - ol) (i + 1)))), (4, .int (nI (sl + (i + 1))))] := by rw [bw1]; rfl
      rw [e8] at hl
      exact ih (i + 1) (by omega) (by omega) _ _ ls hP hS hl

set_option maxHeartbeats 4000000 in
set_option maxRecDepth 100000 in
theorem c_X0_countBetween (l : Launch) (g : gX) (s0 : Nat) (w : wd_M) (q : Nat) (k kd li : Int32) (inn oth : Option Nat) (pa : Int64) (cs cg : Int32) (G : Nat → Nat) (Lh : w q = some (pO k kd li inn oth pa (q + 1) (q + 2) cs cg)) (Lt : w (q + 1) = some (wd_iA (g.2 0) 1024 (tN G))) (sv ov : Int32) (sl sh ol oh : Nat) (hs1 : (if sv = -1 then nI 0 else sv) = nI sl) (hs2 : (if sv = -1 then nI 31 else sv) = nI sh) (hs3 : sl ≤ sh + 1) (hs4 : sh < 32) (ho1 : (if ov = -1 then nI 0 else ov) = nI ol) (ho2 : (if ov = -1 then nI 31 else ov) = nI oh) (ho3 : ol ≤ oh + 1) (ho4 : oh < 32) : Met l yX0_countBetween (Cond.code yX0_countBetween cX0_countBetween 6 (some .int) :: tg) ({ frames := 1, cells := 0, slots := 0, locals := 22 }) (cP g s0 w [.ref q, .int (sv), .int (ov)]) (cI g s0 (fun r w' => r = nI (bw1 G sl ol (oh + 1 - ol) (sh + 1 - sl)) ∧ w' = w)) 0 0 (cA s0) := by
  refine Met.ofW (cc := cX0_countBetween) (maxL := 6) (ret := some .int) (by decide) rfl ?_
  intro p e s m args below meth c s₁ B9 hml hv
  obtain ⟨rfl, h0s, hP, hK⟩ := hv
  have hx := B9.exec
  have hb := B9.bytes
  have hr := B9.returns
  have hts := atoms_spec (ws := Cond.code yX0_countBetween cX0_countBetween 6 (some .int) :: tg) B9.pre
  have hown : s.vm.findClass RX0 = some m.cls := findClass_of_methodNamed B9.named
  have hlocks := B9.notSynchronized
  have hS : gS s0 s.heap s.heap [] := va_S.rf
  have hRm : 1 ≤ (headSpec (Cond.code yX0_countBetween cX0_countBetween 6 (some .int) :: tg) ({ frames := 1, cells := 0, slots := 0, locals := 22 })).room.frames ∧ 22 ≤ (headSpec (Cond.code yX0_countBetween cX0_countBetween 6 (some .int) :: tg) ({ frames := 1, cells := 0, slots := 0, locals := 22 })).room.locals := ⟨Nat.le_refl _, Nat.le_refl _⟩
  have hcs : 0 + 0 ≤ (headSpec (Cond.code yX0_countBetween cX0_countBetween 6 (some .int) :: tg) ({ frames := 1, cells := 0, slots := 0, locals := 22 })).room.cells ∧ 0 + 0 ≤ (headSpec (Cond.code yX0_countBetween cX0_countBetween 6 (some .int) :: tg) ({ frames := 1, cells := 0, slots := 0, locals := 22 })).room.slots := ⟨Nat.zero_le _, Nat.zero_le _⟩
  have hl := lv_entry ([.ref q, .int (sv), .int (ov)]) (n := 6) (Nat.le_of_ble_eq_true rfl)
  rw [lg_entry_eq]
  generalize (lg_sl ([.ref q, .int (sv), .int (ov)]) ++ List.replicate (6 - (lg_sl ([.ref q, .int (sv), .int (ov)])).length) Slot.unset).toArray = ls at hl ⊢
  have hl : lv_has ls 6 [(0, .ref q), (1, .int (sv)), (2, .int (ov))] := hl
  refine lv_iconst (v := nI 0) hx hb dX0_countBetween_0 (by decide) ?_
  refine lv_istore_n (lv' := [(3, .int (nI 0)), (0, .ref q), (1, .int (sv)), (2, .int (ov))]) hx hb dX0_countBetween_1 rfl hl (by decide) rfl (fun ls hl => ?_)
  refine lv_iload_n hx hb dX0_countBetween_2 rfl (lv_at hl 2 rfl) ?_
  refine cr_Ni (As := [.int (sv)]) (rest := []) ⟨hx, hb, hml, hown, hts⟩ (c_X3_lowest l g s0 w sv) (cw_N 1 hts tg_tail hK.2.2.2.2.1 tw_281 tw_1 tw_282 rfl rfl (by decide +kernel) ⟨Nat.le_trans (by decide) hRm.1, Nat.le_trans (by decide) hRm.2⟩) hK hP h0s hS rfl hl.1 rfl (Nat.le_of_ble_eq_true rfl) dX0_countBetween_3 hcs (fun r9 w9 H locs hw hP hS => ?_)
  obtain ⟨e_r9, hw9⟩ := hw
  rw [hw9] at hP
  rw [hs1] at e_r9
  subst e_r9
  refine lv_istore (lv' := [(4, .int (nI sl)), (3, .int (nI 0)), (0, .ref q), (1, .int (sv)), (2, .int (ov))]) hx hb dX0_countBetween_6 hl (by decide) rfl (fun ls hl => ?_)
  have hl : lv_has ls 6 [(0, .ref q), (1, .int (sv)), (2, .int (ov)), (3, .int (nI 0)), (4, .int (nI sl))] := lv_sub hl [2, 3, 4, 1, 0] rfl
  have e8 : ([(0, .ref q), (1, .int (sv)), (2, .int (ov)), (3, .int (nI 0)), (4, .int (nI sl))] : List (Nat × Value)) = [(0, .ref q), (1, .int (sv)), (2, .int (ov)), (3, .int (nI (bw1 G sl ol (oh + 1 - ol) 0))), (4, .int (nI (sl + 0)))] := by rw [bw1]; rfl
  rw [e8] at hl
  refine lp_bw1 g s0 w q k kd li inn oth pa cs cg G Lh Lt sv ov sl sh ol oh hs1 hs2 hs3 hs4 ho1 ho2 ho3 ho4 hx hb hml hown hts hK h0s hRm hcs  ?_ (((sh + 1 - sl)) + 1) 0 (by omega) (by omega) _ _ ls hP hS hl
  intro H locs ls hP hS hl
  refine lv_iload_n hx hb dX0_countBetween_55 rfl (lv_at hl 0 rfl) ?_
  exact W.iret (v := nI (bw1 G sl ol (oh + 1 - ol) ((sh + 1 - sl)))) hx hb hr (fun t9 ht hW => ⟨⟨_, w, rfl, ⟨rfl, rfl⟩, cB_of ht hP⟩, hS.F ht⟩) hS.2.2 dX0_countBetween_56

set_option maxHeartbeats 4000000 in
theorem pW_ch {w : wd_M} {q : Nat} {z0 z1 z2 : va_E} : (wd_up (wd_up (wd_up w (q + 1) z1) (q + 2) z2) q z0) = fun a => if a = q then some z0 else if a = (q + 1) then some z1 else if a = (q + 2) then some z2 else w a := by
  funext b
  unfold wd_up
  by_cases e0 : b = q
  · rw [if_pos e0, if_pos e0]
  · revert e0; intro e0
    by_cases e1 : b = (q + 1)
    · rw [if_neg (by omega), if_neg (by omega), if_pos e1, if_neg e0, if_pos e1]
    · revert e1; intro e1
      by_cases e2 : b = (q + 2)
      · rw [if_neg (by omega), if_pos e2, if_neg e0, if_neg e1, if_pos e2]
      · revert e2; intro e2
        rw [if_neg e0, if_neg e2, if_neg e1, if_neg e0, if_neg e1, if_neg e2]
set_option maxHeartbeats 4000000 in
set_option maxRecDepth 100000 in
theorem c_X0_init_n (l : Launch) (g : gX) (s0 : Nat) (w : wd_M) (q : Nat) (hs0 : s0 ≤ q) (Lh : w q = some (.inr (1, [.int (0), .int (0), .int (0), .null, .null, .long (0), .null, .null, .int (0), .int (0)]))) (n9 : Nat) (hn9 : n9 ≤ 40) (kd li : Int32) : Met l yX0_init (Cond.code yX0_init cX0_init 8 (none) :: tg) ({ frames := 1, cells := 2, slots := 1056, locals := 12 }) (cPz g s0 w (q + 1) [.ref q, .int (nI n9), .int (kd), .int (li), .null, .null]) (cVz g s0 (q + 3) (fun w' => w' = (pW g w q (nI n9) kd li none none (lN (1 * 2 ^ n9)) (-1) (nI 0) (fun _ => 0) (fun _ => 0)))) 2 1056 (cA s0) := by
  refine Met.ofW (cc := cX0_init) (maxL := 8) (ret := none) (by decide) rfl ?_
  intro p e s m args below meth c s₁ B9 hml hv
  obtain ⟨rfl, hsz, h0s, hP, hK⟩ := hv
  have hx := B9.exec
  have hb := B9.bytes
  have hr := B9.returns
  have hts := atoms_spec (ws := Cond.code yX0_init cX0_init 8 (none) :: tg) B9.pre
  have hown : s.vm.findClass RX0 = some m.cls := findClass_of_methodNamed B9.named
  have hlocks := B9.notSynchronized
  have hin : meth.name = "<init>" := (name_of_methodNamed B9.named B9.method).1
  have hS : gS s0 s.heap s.heap [] := va_S.rf
  have hRm : 1 ≤ (headSpec (Cond.code yX0_init cX0_init 8 (none) :: tg) ({ frames := 1, cells := 2, slots := 1056, locals := 12 })).room.frames ∧ 12 ≤ (headSpec (Cond.code yX0_init cX0_init 8 (none) :: tg) ({ frames := 1, cells := 2, slots := 1056, locals := 12 })).room.locals := ⟨Nat.le_refl _, Nat.le_refl _⟩
  have hcs : 0 + 0 ≤ (headSpec (Cond.code yX0_init cX0_init 8 (none) :: tg) ({ frames := 1, cells := 2, slots := 1056, locals := 12 })).room.cells ∧ 0 + 0 ≤ (headSpec (Cond.code yX0_init cX0_init 8 (none) :: tg) ({ frames := 1, cells := 2, slots := 1056, locals := 12 })).room.slots := ⟨Nat.zero_le _, Nat.zero_le _⟩
  have hl := lv_entry ([.ref q, .int (nI n9), .int (kd), .int (li), .null, .null]) (n := 8) (Nat.le_of_ble_eq_true rfl)
  rw [lg_entry_eq]
  generalize (lg_sl ([.ref q, .int (nI n9), .int (kd), .int (li), .null, .null]) ++ List.replicate (8 - (lg_sl ([.ref q, .int (nI n9), .int (kd), .int (li), .null, .null])).length) Slot.unset).toArray = ls at hl ⊢
  have hl : lv_has ls 8 [(0, .ref q), (1, .int (nI n9)), (2, .int (kd)), (3, .int (li)), (4, .null), (5, .null)] := hl
  have p9 : 1 * 2 ^ n9 < 2 ^ 64 := by rw [Nat.one_mul]; exact Nat.pow_lt_pow_right (by decide) (by omega)
  refine lv_aload_n hx hb dX0_init_0 rfl (lv_at hl 0 rfl) ?_
  refine W.objInit hx hb hown (hts _ (tg_tail _ tw_121)) (hts _ (tg_tail _ tw_18)) (hts _ (tg_tail _ tw_19)) rfl (by rw [hml]; exact hl.1) rfl dX0_init_1 (Nat.le_trans (by decide) hRm.1) (Nat.le_trans (Nat.le_of_ble_eq_true rfl) hRm.2) ?_
  refine W.eq (g2 := F0 m 4 ls []) rfl ?_
  refine lv_aload_n hx hb dX0_init_4 rfl (lv_at hl 0 rfl) ?_
  refine lv_iload_n hx hb dX0_init_5 rfl (lv_at hl 1 rfl) ?_
  refine wd_putF (ci := 1) (v := .int (nI n9)) (ty := .int) (C := RX0) (T := TX0) (N := 10) hx hb hts iwX0 tyX0 tyX0_ok nmX0 hown hK.1 hP hS (by omega) (Lh) rfl 0 (by decide) (hts _ (tg_tail _ tw_122)) (fun _ h9 => h9) rfl hin rfl (by decide +kernel) (rfl) (rfl) (Nat.le_of_ble_eq_true rfl) dX0_init_6 (fun H locs hP hS hz => ?_)
  have hsz := hz.trans hsz
  have hP : gP g (wd_up w q (.inr (1, [.int (nI n9), .int (0), .int (0), .null, .null, .long (0), .null, .null, .int (0), .int (0)]))) H := hP
  refine lv_aload_n hx hb dX0_init_9 rfl (lv_at hl 0 rfl) ?_
  refine lv_iload_n hx hb dX0_init_10 rfl (lv_at hl 2 rfl) ?_
  refine wd_putF (ci := 1) (v := .int (kd)) (ty := .int) (C := RX0) (T := TX0) (N := 10) hx hb hts iwX0 tyX0 tyX0_ok nmX0 hown hK.1 hP hS (by omega) (wd_us) rfl 1 (by decide) (hts _ (tg_tail _ tw_124)) (fun _ h9 => h9) rfl hin rfl (by decide +kernel) (rfl) (rfl) (Nat.le_of_ble_eq_true rfl) dX0_init_11 (fun H locs hP hS hz => ?_)
  have hsz := hz.trans hsz
  have hP : gP g (wd_up w q (.inr (1, [.int (nI n9), .int (kd), .int (0), .null, .null, .long (0), .null, .null, .int (0), .int (0)]))) H := by have h9 := hP; rw [wd_uu] at h9; exact h9
  refine lv_aload_n hx hb dX0_init_14 rfl (lv_at hl 0 rfl) ?_
  refine lv_iload_n hx hb dX0_init_15 rfl (lv_at hl 3 rfl) ?_
  refine wd_putF (ci := 1) (v := .int (li)) (ty := .int) (C := RX0) (T := TX0) (N := 10) hx hb hts iwX0 tyX0 tyX0_ok nmX0 hown hK.1 hP hS (by omega) (wd_us) rfl 2 (by decide) (hts _ (tg_tail _ tw_125)) (fun _ h9 => h9) rfl hin rfl (by decide +kernel) (rfl) (rfl) (Nat.le_of_ble_eq_true rfl) dX0_init_16 (fun H locs hP hS hz => ?_)
  have hsz := hz.trans hsz
  have hP : gP g (wd_up w q (.inr (1, [.int (nI n9), .int (kd), .int (li), .null, .null, .long (0), .null, .null, .int (0), .int (0)]))) H := by have h9 := hP; rw [wd_uu] at h9; exact h9
  refine lv_aload_n hx hb dX0_init_19 rfl (lv_at hl 0 rfl) ?_
  refine lv_aloadN hx hb dX0_init_20 (lv_at hl 4 rfl) ?_
  refine wd_putF (ci := 1) (v := .null) (ty := (.object "PathSteps$Path")) (C := RX0) (T := TX0) (N := 10) hx hb hts iwX0 tyX0 tyX0_ok nmX0 hown hK.1 hP hS (by omega) (wd_us) rfl 3 (by decide) (hts _ (tg_tail _ tw_126)) (fun _ h9 => h9) rfl hin rfl (by decide +kernel) (rfl) (rfl) (Nat.le_of_ble_eq_true rfl) dX0_init_22 (fun H locs hP hS hz => ?_)
  have hsz := hz.trans hsz
  have hP : gP g (wd_up w q (.inr (1, [.int (nI n9), .int (kd), .int (li), .null, .null, .long (0), .null, .null, .int (0), .int (0)]))) H := by have h9 := hP; rw [wd_uu] at h9; exact h9
  refine lv_aload_n hx hb dX0_init_25 rfl (lv_at hl 0 rfl) ?_
  refine lv_aloadN hx hb dX0_init_26 (lv_at hl 5 rfl) ?_
  refine wd_putF (ci := 1) (v := .null) (ty := (.object "PathSteps$Path")) (C := RX0) (T := TX0) (N := 10) hx hb hts iwX0 tyX0 tyX0_ok nmX0 hown hK.1 hP hS (by omega) (wd_us) rfl 4 (by decide) (hts _ (tg_tail _ tw_127)) (fun _ h9 => h9) rfl hin rfl (by decide +kernel) (rfl) (rfl) (Nat.le_of_ble_eq_true rfl) dX0_init_28 (fun H locs hP hS hz => ?_)
  have hsz := hz.trans hsz
  have hP : gP g (wd_up w q (.inr (1, [.int (nI n9), .int (kd), .int (li), .null, .null, .long (0), .null, .null, .int (0), .int (0)]))) H := by have h9 := hP; rw [wd_uu] at h9; exact h9
  refine lv_lconst (v := lN 1) hx hb dX0_init_31 (by decide) ?_
  refine lv_iload_n hx hb dX0_init_32 rfl (lv_at hl 1 rfl) ?_
  refine lv_lshl (v := lN (1 * 2 ^ n9)) hx hb dX0_init_33 (wb_shl 1 (by omega)) ?_
  refine lv_lstore (lv' := [(6, .long (lN (1 * 2 ^ n9))), (0, .ref q), (1, .int (nI n9)), (2, .int (kd)), (3, .int (li)), (4, .null), (5, .null)]) hx hb dX0_init_34 hl (by decide) rfl (fun ls hl => ?_)
  refine lv_aloadN hx hb dX0_init_36 (lv_at hl 5 rfl) ?_
  refine lv_ifnullN (tgt := 51) hx hb dX0_init_38 (by decide) ?_
  refine lv_aloadN hx hb dX0_init_51 (lv_at hl 6 rfl) ?_
  refine lv_ifnullN (tgt := 66) hx hb dX0_init_53 (by decide) ?_
  refine lv_aload_n hx hb dX0_init_66 rfl (lv_at hl 1 rfl) ?_
  refine lv_lload hx hb dX0_init_67 (lv_at hl 0 rfl) ?_
  refine wd_putF (ci := 1) (v := .long (lN (1 * 2 ^ n9))) (ty := .long) (C := RX0) (T := TX0) (N := 10) hx hb hts iwX0 tyX0 tyX0_ok nmX0 hown hK.1 hP hS (by omega) (wd_us) rfl 5 (by decide) (hts _ (tg_tail _ tw_128)) (fun _ h9 => h9) rfl hin rfl (by decide +kernel) (rfl) (rfl) (Nat.le_of_ble_eq_true rfl) dX0_init_69 (fun H locs hP hS hz => ?_)
  have hsz := hz.trans hsz
  have hP : gP g (wd_up w q (.inr (1, [.int (nI n9), .int (kd), .int (li), .null, .null, .long (lN (1 * 2 ^ n9)), .null, .null, .int (0), .int (0)]))) H := by have h9 := hP; rw [wd_uu] at h9; exact h9
  refine lv_aload_n hx hb dX0_init_72 rfl (lv_at hl 1 rfl) ?_
  refine lv_sipush (v := nI 1024) hx hb dX0_init_73 (by decide +kernel) ?_
  refine wd_newiZ (atype := .int) (q := (q + 1)) hx hb (hts _ (tg_tail _ tw_40)) (ty := .int) rfl hK.1 hP hS 0 (cA := g.2 0) rfl (a0 := (1024, .inl (fun _ => 0))) (N' := 1024) (fun _ => rfl) (by decide +kernel) (by decide +kernel) (by decide +kernel) (by decide +kernel) (by decide +kernel) hsz dX0_init_76 (fun H hsz hP hS => ?_)
  refine wd_putF (ci := 1) (v := .ref (q + 1)) (ty := (.array .int)) (C := RX0) (T := TX0) (N := 10) hx hb hts iwX0 tyX0 tyX0_ok nmX0 hown hK.1 hP hS (by omega) ((wd_un (by omega)).trans (wd_us)) rfl 6 (by decide) (hts _ (tg_tail _ tw_129)) (fun _ h9 => h9) rfl hin rfl (by decide +kernel) (rfl) (rfl) (Nat.le_of_ble_eq_true rfl) dX0_init_78 (fun H locs hP hS hz => ?_)
  have hsz := hz.trans hsz
  have hP : gP g (wd_up (wd_up w (q + 1) (wd_iA (g.2 0) 1024 (fun _ => 0))) q (.inr (1, [.int (nI n9), .int (kd), .int (li), .null, .null, .long (lN (1 * 2 ^ n9)), .ref (q + 1), .null, .int (0), .int (0)]))) H := by have h9 := hP; rw [wd_d1] at h9; exact h9
  refine lv_aload_n hx hb dX0_init_81 rfl (lv_at hl 1 rfl) ?_
  refine lv_bipush (v := nI 32) hx hb dX0_init_82 (by decide) ?_
  refine wd_newiZ (atype := .int) (q := (q + 2)) hx hb (hts _ (tg_tail _ tw_40)) (ty := .int) rfl hK.1 hP hS 0 (cA := g.2 0) rfl (a0 := (32, .inl (fun _ => 0))) (N' := 32) (fun _ => rfl) (by decide +kernel) (by decide +kernel) (by decide +kernel) (by decide +kernel) (by decide +kernel) hsz dX0_init_84 (fun H hsz hP hS => ?_)
  refine wd_putF (ci := 1) (v := .ref (q + 2)) (ty := (.array .int)) (C := RX0) (T := TX0) (N := 10) hx hb hts iwX0 tyX0 tyX0_ok nmX0 hown hK.1 hP hS (by omega) ((wd_un (by omega)).trans (wd_us)) rfl 7 (by decide) (hts _ (tg_tail _ tw_130)) (fun _ h9 => h9) rfl hin rfl (by decide +kernel) (rfl) (rfl) (Nat.le_of_ble_eq_true rfl) dX0_init_86 (fun H locs hP hS hz => ?_)
  have hsz := hz.trans hsz
  have hP : gP g (wd_up (wd_up (wd_up w (q + 1) (wd_iA (g.2 0) 1024 (fun _ => 0))) (q + 2) (wd_iA (g.2 0) 32 (fun _ => 0))) q (.inr (1, [.int (nI n9), .int (kd), .int (li), .null, .null, .long (lN (1 * 2 ^ n9)), .ref (q + 1), .ref (q + 2), .int (0), .int (0)]))) H := by have h9 := hP; rw [wd_d1] at h9; exact h9
  refine lv_aload_n hx hb dX0_init_89 rfl (lv_at hl 1 rfl) ?_
  refine lv_iconst (v := (-1)) hx hb dX0_init_90 (by decide) ?_
  refine wd_put (ci := 1) (v := .int ((-1))) (ty := .int) (C := RX0) (T := TX0) (N := 10) hx hb hts iwX0 tyX0 tyX0_ok nmX0 hown hK.1 hP hS (by omega) (wd_us) rfl 8 (by decide) (hts _ (tg_tail _ tw_132)) (fun _ h9 => h9) rfl (by decide +kernel) (rfl) (rfl) (Nat.le_of_ble_eq_true rfl) dX0_init_91 (fun H locs hP hS hz => ?_)
  have hsz := hz.trans hsz
  have hP : gP g (wd_up (wd_up (wd_up w (q + 1) (wd_iA (g.2 0) 1024 (fun _ => 0))) (q + 2) (wd_iA (g.2 0) 32 (fun _ => 0))) q (.inr (1, [.int (nI n9), .int (kd), .int (li), .null, .null, .long (lN (1 * 2 ^ n9)), .ref (q + 1), .ref (q + 2), .int ((-1)), .int (0)]))) H := by have h9 := hP; rw [wd_uu] at h9; exact h9
  refine lv_aload_n hx hb dX0_init_94 rfl (lv_at hl 1 rfl) ?_
  refine lv_iconst (v := nI 0) hx hb dX0_init_95 (by decide) ?_
  refine wd_put (ci := 1) (v := .int (nI 0)) (ty := .int) (C := RX0) (T := TX0) (N := 10) hx hb hts iwX0 tyX0 tyX0_ok nmX0 hown hK.1 hP hS (by omega) (wd_us) rfl 9 (by decide) (hts _ (tg_tail _ tw_133)) (fun _ h9 => h9) rfl (by decide +kernel) (rfl) (rfl) (Nat.le_of_ble_eq_true rfl) dX0_init_96 (fun H locs hP hS hz => ?_)
  have hsz := hz.trans hsz
  have hP : gP g (wd_up (wd_up (wd_up w (q + 1) (wd_iA (g.2 0) 1024 (fun _ => 0))) (q + 2) (wd_iA (g.2 0) 32 (fun _ => 0))) q (.inr (1, [.int (nI n9), .int (kd), .int (li), .null, .null, .long (lN (1 * 2 ^ n9)), .ref (q + 1), .ref (q + 2), .int ((-1)), .int (nI 0)]))) H := by have h9 := hP; rw [wd_uu] at h9; exact h9
  have e7 : (wd_up (wd_up (wd_up w (q + 1) (wd_iA (g.2 0) 1024 (fun _ => 0))) (q + 2) (wd_iA (g.2 0) 32 (fun _ => 0))) q (.inr (1, [.int (nI n9), .int (kd), .int (li), .null, .null, .long (lN (1 * 2 ^ n9)), .ref (q + 1), .ref (q + 2), .int ((-1)), .int (nI 0)]))) = (pW g w q (nI n9) kd li none none (lN (1 * 2 ^ n9)) (-1) (nI 0) (fun _ => 0) (fun _ => 0)) := by exact pW_ch
  rw [e7] at hP
  refine W.widen (k := 2) (n := 1056) (by decide +kernel) (by decide +kernel) ?_
  exact W.vret hx hb hr (fun t9 ht hW => ⟨⟨(pW g w q (nI n9) kd li none none (lN (1 * 2 ^ n9)) (-1) (nI 0) (fun _ => 0) (fun _ => 0)), rfl, rfl, cBz_of ht hP (hsz)⟩, hS.F ht⟩) hS.2.2 dX0_init_99

set_option maxHeartbeats 4000000 in
set_option maxRecDepth 100000 in
theorem c_X0_init_i (l : Launch) (g : gX) (s0 : Nat) (w : wd_M) (q : Nat) (hs0 : s0 ≤ q) (Lh : w q = some (.inr (1, [.int (0), .int (0), .int (0), .null, .null, .long (0), .null, .null, .int (0), .int (0)]))) (n9 : Nat) (hn9 : n9 ≤ 40) (kd li : Int32) (q2 : Nat) (k2 kd2 li2 : Int32) (inn2 oth2 : Option Nat) (cs2 cg2 : Int32) (pm2 : Nat) (hpm2 : pm2 < 2 ^ 63) (L2 : w q2 = some (pO k2 kd2 li2 inn2 oth2 (lN pm2) (q2 + 1) (q2 + 2) cs2 cg2)) (hne2 : q2 + 3 ≤ q) : Met l yX0_init (Cond.code yX0_init cX0_init 8 (none) :: tg) ({ frames := 1, cells := 2, slots := 1056, locals := 12 }) (cPz g s0 w (q + 1) [.ref q, .int (nI n9), .int (kd), .int (li), .ref q2, .null]) (cVz g s0 (q + 3) (fun w' => w' = (pW g w q (nI n9) kd li (some q2) none (lN (1 * 2 ^ n9 ||| pm2)) (-1) (nI 0) (fun _ => 0) (fun _ => 0)))) 2 1056 (cA s0) := by
  refine Met.ofW (cc := cX0_init) (maxL := 8) (ret := none) (by decide) rfl ?_
  intro p e s m args below meth c s₁ B9 hml hv
  obtain ⟨rfl, hsz, h0s, hP, hK⟩ := hv
  have hx := B9.exec
  have hb := B9.bytes
  have hr := B9.returns
  have hts := atoms_spec (ws := Cond.code yX0_init cX0_init 8 (none) :: tg) B9.pre
  have hown : s.vm.findClass RX0 = some m.cls := findClass_of_methodNamed B9.named
  have hlocks := B9.notSynchronized
  have hin : meth.name = "<init>" := (name_of_methodNamed B9.named B9.method).1
  have hS : gS s0 s.heap s.heap [] := va_S.rf
  have hRm : 1 ≤ (headSpec (Cond.code yX0_init cX0_init 8 (none) :: tg) ({ frames := 1, cells := 2, slots := 1056, locals := 12 })).room.frames ∧ 12 ≤ (headSpec (Cond.code yX0_init cX0_init 8 (none) :: tg) ({ frames := 1, cells := 2, slots := 1056, locals := 12 })).room.locals := ⟨Nat.le_refl _, Nat.le_refl _⟩
  have hcs : 0 + 0 ≤ (headSpec (Cond.code yX0_init cX0_init 8 (none) :: tg) ({ frames := 1, cells := 2, slots := 1056, locals := 12 })).room.cells ∧ 0 + 0 ≤ (headSpec (Cond.code yX0_init cX0_init 8 (none) :: tg) ({ frames := 1, cells := 2, slots := 1056, locals := 12 })).room.slots := ⟨Nat.zero_le _, Nat.zero_le _⟩
  have hl := lv_entry ([.ref q, .int (nI n9), .int (kd), .int (li), .ref q2, .null]) (n := 8) (Nat.le_of_ble_eq_true rfl)
  rw [lg_entry_eq]
  generalize (lg_sl ([.ref q, .int (nI n9), .int (kd), .int (li), .ref q2, .null]) ++ List.replicate (8 - (lg_sl ([.ref q, .int (nI n9), .int (kd), .int (li), .ref q2, .null])).length) Slot.unset).toArray = ls at hl ⊢
  have hl : lv_has ls 8 [(0, .ref q), (1, .int (nI n9)), (2, .int (kd)), (3, .int (li)), (4, .ref q2), (5, .null)] := hl
  have p9 : 1 * 2 ^ n9 < 2 ^ 64 := by rw [Nat.one_mul]; exact Nat.pow_lt_pow_right (by decide) (by omega)
  refine lv_aload_n hx hb dX0_init_0 rfl (lv_at hl 0 rfl) ?_
  refine W.objInit hx hb hown (hts _ (tg_tail _ tw_121)) (hts _ (tg_tail _ tw_18)) (hts _ (tg_tail _ tw_19)) rfl (by rw [hml]; exact hl.1) rfl dX0_init_1 (Nat.le_trans (by decide) hRm.1) (Nat.le_trans (Nat.le_of_ble_eq_true rfl) hRm.2) ?_
  refine W.eq (g2 := F0 m 4 ls []) rfl ?_
  refine lv_aload_n hx hb dX0_init_4 rfl (lv_at hl 0 rfl) ?_
  refine lv_iload_n hx hb dX0_init_5 rfl (lv_at hl 1 rfl) ?_
  refine wd_putF (ci := 1) (v := .int (nI n9)) (ty := .int) (C := RX0) (T := TX0) (N := 10) hx hb hts iwX0 tyX0 tyX0_ok nmX0 hown hK.1 hP hS (by omega) (Lh) rfl 0 (by decide) (hts _ (tg_tail _ tw_122)) (fun _ h9 => h9) rfl hin rfl (by decide +kernel) (rfl) (rfl) (Nat.le_of_ble_eq_true rfl) dX0_init_6 (fun H locs hP hS hz => ?_)
  have hsz := hz.trans hsz
  have hP : gP g (wd_up w q (.inr (1, [.int (nI n9), .int (0), .int (0), .null, .null, .long (0), .null, .null, .int (0), .int (0)]))) H := hP
  refine lv_aload_n hx hb dX0_init_9 rfl (lv_at hl 0 rfl) ?_
  refine lv_iload_n hx hb dX0_init_10 rfl (lv_at hl 2 rfl) ?_
  refine wd_putF (ci := 1) (v := .int (kd)) (ty := .int) (C := RX0) (T := TX0) (N := 10) hx hb hts iwX0 tyX0 tyX0_ok nmX0 hown hK.1 hP hS (by omega) (wd_us) rfl 1 (by decide) (hts _ (tg_tail _ tw_124)) (fun _ h9 => h9) rfl hin rfl (by decide +kernel) (rfl) (rfl) (Nat.le_of_ble_eq_true rfl) dX0_init_11 (fun H locs hP hS hz => ?_)
  have hsz := hz.trans hsz
  have hP : gP g (wd_up w q (.inr (1, [.int (nI n9), .int (kd), .int (0), .null, .null, .long (0), .null, .null, .int (0), .int (0)]))) H := by have h9 := hP; rw [wd_uu] at h9; exact h9
  refine lv_aload_n hx hb dX0_init_14 rfl (lv_at hl 0 rfl) ?_
  refine lv_iload_n hx hb dX0_init_15 rfl (lv_at hl 3 rfl) ?_
  refine wd_putF (ci := 1) (v := .int (li)) (ty := .int) (C := RX0) (T := TX0) (N := 10) hx hb hts iwX0 tyX0 tyX0_ok nmX0 hown hK.1 hP hS (by omega) (wd_us) rfl 2 (by decide) (hts _ (tg_tail _ tw_125)) (fun _ h9 => h9) rfl hin rfl (by decide +kernel) (rfl) (rfl) (Nat.le_of_ble_eq_true rfl) dX0_init_16 (fun H locs hP hS hz => ?_)
  have hsz := hz.trans hsz
  have hP : gP g (wd_up w q (.inr (1, [.int (nI n9), .int (kd), .int (li), .null, .null, .long (0), .null, .null, .int (0), .int (0)]))) H := by have h9 := hP; rw [wd_uu] at h9; exact h9
  refine lv_aload_n hx hb dX0_init_19 rfl (lv_at hl 0 rfl) ?_
  refine lv_aload hx hb dX0_init_20 (lv_at hl 4 rfl) ?_
  refine wd_putF (ci := 1) (v := .ref q2) (ty := (.object "PathSteps$Path")) (C := RX0) (T := TX0) (N := 10) hx hb hts iwX0 tyX0 tyX0_ok nmX0 hown hK.1 hP hS (by omega) (wd_us) rfl 3 (by decide) (hts _ (tg_tail _ tw_126)) (fun _ h9 => h9) rfl hin rfl (by decide +kernel) (rfl) (rfl) (Nat.le_of_ble_eq_true rfl) dX0_init_22 (fun H locs hP hS hz => ?_)
  have hsz := hz.trans hsz
  have hP : gP g (wd_up w q (.inr (1, [.int (nI n9), .int (kd), .int (li), .ref q2, .null, .long (0), .null, .null, .int (0), .int (0)]))) H := by have h9 := hP; rw [wd_uu] at h9; exact h9
  refine lv_aload_n hx hb dX0_init_25 rfl (lv_at hl 0 rfl) ?_
  refine lv_aloadN hx hb dX0_init_26 (lv_at hl 5 rfl) ?_
  refine wd_putF (ci := 1) (v := .null) (ty := (.object "PathSteps$Path")) (C := RX0) (T := TX0) (N := 10) hx hb hts iwX0 tyX0 tyX0_ok nmX0 hown hK.1 hP hS (by omega) (wd_us) rfl 4 (by decide) (hts _ (tg_tail _ tw_127)) (fun _ h9 => h9) rfl hin rfl (by decide +kernel) (rfl) (rfl) (Nat.le_of_ble_eq_true rfl) dX0_init_28 (fun H locs hP hS hz => ?_)
  have hsz := hz.trans hsz
  have hP : gP g (wd_up w q (.inr (1, [.int (nI n9), .int (kd), .int (li), .ref q2, .null, .long (0), .null, .null, .int (0), .int (0)]))) H := by have h9 := hP; rw [wd_uu] at h9; exact h9
  refine lv_lconst (v := lN 1) hx hb dX0_init_31 (by decide) ?_
  refine lv_iload_n hx hb dX0_init_32 rfl (lv_at hl 1 rfl) ?_
  refine lv_lshl (v := lN (1 * 2 ^ n9)) hx hb dX0_init_33 (wb_shl 1 (by omega)) ?_
  refine lv_lstore (lv' := [(6, .long (lN (1 * 2 ^ n9))), (0, .ref q), (1, .int (nI n9)), (2, .int (kd)), (3, .int (li)), (4, .ref q2), (5, .null)]) hx hb dX0_init_34 hl (by decide) rfl (fun ls hl => ?_)
  refine lv_aload hx hb dX0_init_36 (lv_at hl 5 rfl) ?_
  refine lv_ifnull hx hb dX0_init_38 ?_
  refine lv_lload hx hb dX0_init_41 (lv_at hl 0 rfl) ?_
  refine lv_aload hx hb dX0_init_43 (lv_at hl 5 rfl) ?_
  refine wd_get (ci := 1) (v := .long (lN pm2)) (C := RX0) (T := TX0) (N := 10) hx hb hts iwX0 hown hK.1 hP ((wd_un (by omega)).trans (L2)) rfl 5 (by decide) (hts _ (tg_tail _ tw_128)) (fun _ h9 => h9) rfl dX0_init_45 ?_
  refine lv_lor hx hb dX0_init_48 ?_
  refine wd_tl (x' := lN (1 * 2 ^ n9 ||| pm2)) (wb_or p9 (by omega)) ?_
  refine lv_lstore (lv' := [(6, .long (lN (1 * 2 ^ n9 ||| pm2))), (0, .ref q), (1, .int (nI n9)), (2, .int (kd)), (3, .int (li)), (4, .ref q2), (5, .null)]) hx hb dX0_init_49 hl (by decide) rfl (fun ls hl => ?_)
  refine lv_aloadN hx hb dX0_init_51 (lv_at hl 6 rfl) ?_
  refine lv_ifnullN (tgt := 66) hx hb dX0_init_53 (by decide) ?_
  refine lv_aload_n hx hb dX0_init_66 rfl (lv_at hl 1 rfl) ?_
  refine lv_lload hx hb dX0_init_67 (lv_at hl 0 rfl) ?_
  refine wd_putF (ci := 1) (v := .long (lN (1 * 2 ^ n9 ||| pm2))) (ty := .long) (C := RX0) (T := TX0) (N := 10) hx hb hts iwX0 tyX0 tyX0_ok nmX0 hown hK.1 hP hS (by omega) (wd_us) rfl 5 (by decide) (hts _ (tg_tail _ tw_128)) (fun _ h9 => h9) rfl hin rfl (by decide +kernel) (rfl) (rfl) (Nat.le_of_ble_eq_true rfl) dX0_init_69 (fun H locs hP hS hz => ?_)
  have hsz := hz.trans hsz
  have hP : gP g (wd_up w q (.inr (1, [.int (nI n9), .int (kd), .int (li), .ref q2, .null, .long (lN (1 * 2 ^ n9 ||| pm2)), .null, .null, .int (0), .int (0)]))) H := by have h9 := hP; rw [wd_uu] at h9; exact h9
  refine lv_aload_n hx hb dX0_init_72 rfl (lv_at hl 1 rfl) ?_
  refine lv_sipush (v := nI 1024) hx hb dX0_init_73 (by decide +kernel) ?_
  refine wd_newiZ (atype := .int) (q := (q + 1)) hx hb (hts _ (tg_tail _ tw_40)) (ty := .int) rfl hK.1 hP hS 0 (cA := g.2 0) rfl (a0 := (1024, .inl (fun _ => 0))) (N' := 1024) (fun _ => rfl) (by decide +kernel) (by decide +kernel) (by decide +kernel) (by decide +kernel) (by decide +kernel) hsz dX0_init_76 (fun H hsz hP hS => ?_)
  refine wd_putF (ci := 1) (v := .ref (q + 1)) (ty := (.array .int)) (C := RX0) (T := TX0) (N := 10) hx hb hts iwX0 tyX0 tyX0_ok nmX0 hown hK.1 hP hS (by omega) ((wd_un (by omega)).trans (wd_us)) rfl 6 (by decide) (hts _ (tg_tail _ tw_129)) (fun _ h9 => h9) rfl hin rfl (by decide +kernel) (rfl) (rfl) (Nat.le_of_ble_eq_true rfl) dX0_init_78 (fun H locs hP hS hz => ?_)
  have hsz := hz.trans hsz
  have hP : gP g (wd_up (wd_up w (q + 1) (wd_iA (g.2 0) 1024 (fun _ => 0))) q (.inr (1, [.int (nI n9), .int (kd), .int (li), .ref q2, .null, .long (lN (1 * 2 ^ n9 ||| pm2)), .ref (q + 1), .null, .int (0), .int (0)]))) H := by have h9 := hP; rw [wd_d1] at h9; exact h9
  refine lv_aload_n hx hb dX0_init_81 rfl (lv_at hl 1 rfl) ?_
  refine lv_bipush (v := nI 32) hx hb dX0_init_82 (by decide) ?_
  refine wd_newiZ (atype := .int) (q := (q + 2)) hx hb (hts _ (tg_tail _ tw_40)) (ty := .int) rfl hK.1 hP hS 0 (cA := g.2 0) rfl (a0 := (32, .inl (fun _ => 0))) (N' := 32) (fun _ => rfl) (by decide +kernel) (by decide +kernel) (by decide +kernel) (by decide +kernel) (by decide +kernel) hsz dX0_init_84 (fun H hsz hP hS => ?_)
  refine wd_putF (ci := 1) (v := .ref (q + 2)) (ty := (.array .int)) (C := RX0) (T := TX0) (N := 10) hx hb hts iwX0 tyX0 tyX0_ok nmX0 hown hK.1 hP hS (by omega) ((wd_un (by omega)).trans (wd_us)) rfl 7 (by decide) (hts _ (tg_tail _ tw_130)) (fun _ h9 => h9) rfl hin rfl (by decide +kernel) (rfl) (rfl) (Nat.le_of_ble_eq_true rfl) dX0_init_86 (fun H locs hP hS hz => ?_)
  have hsz := hz.trans hsz
  have hP : gP g (wd_up (wd_up (wd_up w (q + 1) (wd_iA (g.2 0) 1024 (fun _ => 0))) (q + 2) (wd_iA (g.2 0) 32 (fun _ => 0))) q (.inr (1, [.int (nI n9), .int (kd), .int (li), .ref q2, .null, .long (lN (1 * 2 ^ n9 ||| pm2)), .ref (q + 1), .ref (q + 2), .int (0), .int (0)]))) H := by have h9 := hP; rw [wd_d1] at h9; exact h9
  refine lv_aload_n hx hb dX0_init_89 rfl (lv_at hl 1 rfl) ?_
  refine lv_iconst (v := (-1)) hx hb dX0_init_90 (by decide) ?_
  refine wd_put (ci := 1) (v := .int ((-1))) (ty := .int) (C := RX0) (T := TX0) (N := 10) hx hb hts iwX0 tyX0 tyX0_ok nmX0 hown hK.1 hP hS (by omega) (wd_us) rfl 8 (by decide) (hts _ (tg_tail _ tw_132)) (fun _ h9 => h9) rfl (by decide +kernel) (rfl) (rfl) (Nat.le_of_ble_eq_true rfl) dX0_init_91 (fun H locs hP hS hz => ?_)
  have hsz := hz.trans hsz
  have hP : gP g (wd_up (wd_up (wd_up w (q + 1) (wd_iA (g.2 0) 1024 (fun _ => 0))) (q + 2) (wd_iA (g.2 0) 32 (fun _ => 0))) q (.inr (1, [.int (nI n9), .int (kd), .int (li), .ref q2, .null, .long (lN (1 * 2 ^ n9 ||| pm2)), .ref (q + 1), .ref (q + 2), .int ((-1)), .int (0)]))) H := by have h9 := hP; rw [wd_uu] at h9; exact h9
  refine lv_aload_n hx hb dX0_init_94 rfl (lv_at hl 1 rfl) ?_
  refine lv_iconst (v := nI 0) hx hb dX0_init_95 (by decide) ?_
  refine wd_put (ci := 1) (v := .int (nI 0)) (ty := .int) (C := RX0) (T := TX0) (N := 10) hx hb hts iwX0 tyX0 tyX0_ok nmX0 hown hK.1 hP hS (by omega) (wd_us) rfl 9 (by decide) (hts _ (tg_tail _ tw_133)) (fun _ h9 => h9) rfl (by decide +kernel) (rfl) (rfl) (Nat.le_of_ble_eq_true rfl) dX0_init_96 (fun H locs hP hS hz => ?_)
  have hsz := hz.trans hsz
  have hP : gP g (wd_up (wd_up (wd_up w (q + 1) (wd_iA (g.2 0) 1024 (fun _ => 0))) (q + 2) (wd_iA (g.2 0) 32 (fun _ => 0))) q (.inr (1, [.int (nI n9), .int (kd), .int (li), .ref q2, .null, .long (lN (1 * 2 ^ n9 ||| pm2)), .ref (q + 1), .ref (q + 2), .int ((-1)), .int (nI 0)]))) H := by have h9 := hP; rw [wd_uu] at h9; exact h9
  have e7 : (wd_up (wd_up (wd_up w (q + 1) (wd_iA (g.2 0) 1024 (fun _ => 0))) (q + 2) (wd_iA (g.2 0) 32 (fun _ => 0))) q (.inr (1, [.int (nI n9), .int (kd), .int (li), .ref q2, .null, .long (lN (1 * 2 ^ n9 ||| pm2)), .ref (q + 1), .ref (q + 2), .int ((-1)), .int (nI 0)]))) = (pW g w q (nI n9) kd li (some q2) none (lN (1 * 2 ^ n9 ||| pm2)) (-1) (nI 0) (fun _ => 0) (fun _ => 0)) := by exact pW_ch
  rw [e7] at hP
  refine W.widen (k := 2) (n := 1056) (by decide +kernel) (by decide +kernel) ?_
  exact W.vret hx hb hr (fun t9 ht hW => ⟨⟨(pW g w q (nI n9) kd li (some q2) none (lN (1 * 2 ^ n9 ||| pm2)) (-1) (nI 0) (fun _ => 0) (fun _ => 0)), rfl, rfl, cBz_of ht hP (hsz)⟩, hS.F ht⟩) hS.2.2 dX0_init_99

set_option maxHeartbeats 4000000 in
set_option maxRecDepth 100000 in
theorem c_X0_init_b (l : Launch) (g : gX) (s0 : Nat) (w : wd_M) (q : Nat) (hs0 : s0 ≤ q) (Lh : w q = some (.inr (1, [.int (0), .int (0), .int (0), .null, .null, .long (0), .null, .null, .int (0), .int (0)]))) (n9 : Nat) (hn9 : n9 ≤ 40) (kd li : Int32) (q2 : Nat) (k2 kd2 li2 : Int32) (inn2 oth2 : Option Nat) (cs2 cg2 : Int32) (pm2 : Nat) (hpm2 : pm2 < 2 ^ 63) (L2 : w q2 = some (pO k2 kd2 li2 inn2 oth2 (lN pm2) (q2 + 1) (q2 + 2) cs2 cg2)) (hne2 : q2 + 3 ≤ q) (q3 : Nat) (k3 kd3 li3 : Int32) (inn3 oth3 : Option Nat) (cs3 cg3 : Int32) (pm3 : Nat) (hpm3 : pm3 < 2 ^ 63) (L3 : w q3 = some (pO k3 kd3 li3 inn3 oth3 (lN pm3) (q3 + 1) (q3 + 2) cs3 cg3)) (hne3 : q3 + 3 ≤ q) : Met l yX0_init (Cond.code yX0_init cX0_init 8 (none) :: tg) ({ frames := 1, cells := 2, slots := 1056, locals := 12 }) (cPz g s0 w (q + 1) [.ref q, .int (nI n9), .int (kd), .int (li), .ref q2, .ref q3]) (cVz g s0 (q + 3) (fun w' => w' = (pW g w q (nI n9) kd li (some q2) (some q3) (lN (1 * 2 ^ n9 ||| pm2 ||| pm3)) (-1) (nI 0) (fun _ => 0) (fun _ => 0)))) 2 1056 (cA s0) := by
  refine Met.ofW (cc := cX0_init) (maxL := 8) (ret := none) (by decide) rfl ?_
  intro p e s m args below meth c s₁ B9 hml hv
  obtain ⟨rfl, hsz, h0s, hP, hK⟩ := hv
  have hx := B9.exec
  have hb := B9.bytes
  have hr := B9.returns
  have hts := atoms_spec (ws := Cond.code yX0_init cX0_init 8 (none) :: tg) B9.pre
  have hown : s.vm.findClass RX0 = some m.cls := findClass_of_methodNamed B9.named
  have hlocks := B9.notSynchronized
  have hin : meth.name = "<init>" := (name_of_methodNamed B9.named B9.method).1
  have hS : gS s0 s.heap s.heap [] := va_S.rf
  have hRm : 1 ≤ (headSpec (Cond.code yX0_init cX0_init 8 (none) :: tg) ({ frames := 1, cells := 2, slots := 1056, locals := 12 })).room.frames ∧ 12 ≤ (headSpec (Cond.code yX0_init cX0_init 8 (none) :: tg) ({ frames := 1, cells := 2, slots := 1056, locals := 12 })).room.locals := ⟨Nat.le_refl _, Nat.le_refl _⟩
  have hcs : 0 + 0 ≤ (headSpec (Cond.code yX0_init cX0_init 8 (none) :: tg) ({ frames := 1, cells := 2, slots := 1056, locals := 12 })).room.cells ∧ 0 + 0 ≤ (headSpec (Cond.code yX0_init cX0_init 8 (none) :: tg) ({ frames := 1, cells := 2, slots := 1056, locals := 12 })).room.slots := ⟨Nat.zero_le _, Nat.zero_le _⟩
  have hl := lv_entry ([.ref q, .int (nI n9), .int (kd), .int (li), .ref q2, .ref q3]) (n := 8) (Nat.le_of_ble_eq_true rfl)
  rw [lg_entry_eq]
  generalize (lg_sl ([.ref q, .int (nI n9), .int (kd), .int (li), .ref q2, .ref q3]) ++ List.replicate (8 - (lg_sl ([.ref q, .int (nI n9), .int (kd), .int (li), .ref q2, .ref q3])).length) Slot.unset).toArray = ls at hl ⊢
  have hl : lv_has ls 8 [(0, .ref q), (1, .int (nI n9)), (2, .int (kd)), (3, .int (li)), (4, .ref q2), (5, .ref q3)] := hl
  have p9 : 1 * 2 ^ n9 < 2 ^ 64 := by rw [Nat.one_mul]; exact Nat.pow_lt_pow_right (by decide) (by omega)
  refine lv_aload_n hx hb dX0_init_0 rfl (lv_at hl 0 rfl) ?_
  refine W.objInit hx hb hown (hts _ (tg_tail _ tw_121)) (hts _ (tg_tail _ tw_18)) (hts _ (tg_tail _ tw_19)) rfl (by rw [hml]; exact hl.1) rfl dX0_init_1 (Nat.le_trans (by decide) hRm.1) (Nat.le_trans (Nat.le_of_ble_eq_true rfl) hRm.2) ?_
  refine W.eq (g2 := F0 m 4 ls []) rfl ?_
  refine lv_aload_n hx hb dX0_init_4 rfl (lv_at hl 0 rfl) ?_
  refine lv_iload_n hx hb dX0_init_5 rfl (lv_at hl 1 rfl) ?_
  refine wd_putF (ci := 1) (v := .int (nI n9)) (ty := .int) (C := RX0) (T := TX0) (N := 10) hx hb hts iwX0 tyX0 tyX0_ok nmX0 hown hK.1 hP hS (by omega) (Lh) rfl 0 (by decide) (hts _ (tg_tail _ tw_122)) (fun _ h9 => h9) rfl hin rfl (by decide +kernel) (rfl) (rfl) (Nat.le_of_ble_eq_true rfl) dX0_init_6 (fun H locs hP hS hz => ?_)
  have hsz := hz.trans hsz
  have hP : gP g (wd_up w q (.inr (1, [.int (nI n9), .int (0), .int (0), .null, .null, .long (0), .null, .null, .int (0), .int (0)]))) H := hP
  refine lv_aload_n hx hb dX0_init_9 rfl (lv_at hl 0 rfl) ?_
  refine lv_iload_n hx hb dX0_init_10 rfl (lv_at hl 2 rfl) ?_
  refine wd_putF (ci := 1) (v := .int (kd)) (ty := .int) (C := RX0) (T := TX0) (N := 10) hx hb hts iwX0 tyX0 tyX0_ok nmX0 hown hK.1 hP hS (by omega) (wd_us) rfl 1 (by decide) (hts _ (tg_tail _ tw_124)) (fun _ h9 => h9) rfl hin rfl (by decide +kernel) (rfl) (rfl) (Nat.le_of_ble_eq_true rfl) dX0_init_11 (fun H locs hP hS hz => ?_)
  have hsz := hz.trans hsz
  have hP : gP g (wd_up w q (.inr (1, [.int (nI n9), .int (kd), .int (0), .null, .null, .long (0), .null, .null, .int (0), .int (0)]))) H := by have h9 := hP; rw [wd_uu] at h9; exact h9
  refine lv_aload_n hx hb dX0_init_14 rfl (lv_at hl 0 rfl) ?_
  refine lv_iload_n hx hb dX0_init_15 rfl (lv_at hl 3 rfl) ?_
  refine wd_putF (ci := 1) (v := .int (li)) (ty := .int) (C := RX0) (T := TX0) (N := 10) hx hb hts iwX0 tyX0 tyX0_ok nmX0 hown hK.1 hP hS (by omega) (wd_us) rfl 2 (by decide) (hts _ (tg_tail _ tw_125)) (fun _ h9 => h9) rfl hin rfl (by decide +kernel) (rfl) (rfl) (Nat.le_of_ble_eq_true rfl) dX0_init_16 (fun H locs hP hS hz => ?_)
  have hsz := hz.trans hsz
  have hP : gP g (wd_up w q (.inr (1, [.int (nI n9), .int (kd), .int (li), .null, .null, .long (0), .null, .null, .int (0), .int (0)]))) H := by have h9 := hP; rw [wd_uu] at h9; exact h9
  refine lv_aload_n hx hb dX0_init_19 rfl (lv_at hl 0 rfl) ?_
  refine lv_aload hx hb dX0_init_20 (lv_at hl 4 rfl) ?_
  refine wd_putF (ci := 1) (v := .ref q2) (ty := (.object "PathSteps$Path")) (C := RX0) (T := TX0) (N := 10) hx hb hts iwX0 tyX0 tyX0_ok nmX0 hown hK.1 hP hS (by omega) (wd_us) rfl 3 (by decide) (hts _ (tg_tail _ tw_126)) (fun _ h9 => h9) rfl hin rfl (by decide +kernel) (rfl) (rfl) (Nat.le_of_ble_eq_true rfl) dX0_init_22 (fun H locs hP hS hz => ?_)
  have hsz := hz.trans hsz
  have hP : gP g (wd_up w q (.inr (1, [.int (nI n9), .int (kd), .int (li), .ref q2, .null, .long (0), .null, .null, .int (0), .int (0)]))) H := by have h9 := hP; rw [wd_uu] at h9; exact h9
  refine lv_aload_n hx hb dX0_init_25 rfl (lv_at hl 0 rfl) ?_
  refine lv_aload hx hb dX0_init_26 (lv_at hl 5 rfl) ?_
  refine wd_putF (ci := 1) (v := .ref q3) (ty := (.object "PathSteps$Path")) (C := RX0) (T := TX0) (N := 10) hx hb hts iwX0 tyX0 tyX0_ok nmX0 hown hK.1 hP hS (by omega) (wd_us) rfl 4 (by decide) (hts _ (tg_tail _ tw_127)) (fun _ h9 => h9) rfl hin rfl (by decide +kernel) (rfl) (rfl) (Nat.le_of_ble_eq_true rfl) dX0_init_28 (fun H locs hP hS hz => ?_)
  have hsz := hz.trans hsz
  have hP : gP g (wd_up w q (.inr (1, [.int (nI n9), .int (kd), .int (li), .ref q2, .ref q3, .long (0), .null, .null, .int (0), .int (0)]))) H := by have h9 := hP; rw [wd_uu] at h9; exact h9
  refine lv_lconst (v := lN 1) hx hb dX0_init_31 (by decide) ?_
  refine lv_iload_n hx hb dX0_init_32 rfl (lv_at hl 1 rfl) ?_
  refine lv_lshl (v := lN (1 * 2 ^ n9)) hx hb dX0_init_33 (wb_shl 1 (by omega)) ?_
  refine lv_lstore (lv' := [(6, .long (lN (1 * 2 ^ n9))), (0, .ref q), (1, .int (nI n9)), (2, .int (kd)), (3, .int (li)), (4, .ref q2), (5, .ref q3)]) hx hb dX0_init_34 hl (by decide) rfl (fun ls hl => ?_)
  refine lv_aload hx hb dX0_init_36 (lv_at hl 5 rfl) ?_
  refine lv_ifnull hx hb dX0_init_38 ?_
  refine lv_lload hx hb dX0_init_41 (lv_at hl 0 rfl) ?_
  refine lv_aload hx hb dX0_init_43 (lv_at hl 5 rfl) ?_
  refine wd_get (ci := 1) (v := .long (lN pm2)) (C := RX0) (T := TX0) (N := 10) hx hb hts iwX0 hown hK.1 hP ((wd_un (by omega)).trans (L2)) rfl 5 (by decide) (hts _ (tg_tail _ tw_128)) (fun _ h9 => h9) rfl dX0_init_45 ?_
  refine lv_lor hx hb dX0_init_48 ?_
  refine wd_tl (x' := lN (1 * 2 ^ n9 ||| pm2)) (wb_or p9 (by omega)) ?_
  refine lv_lstore (lv' := [(6, .long (lN (1 * 2 ^ n9 ||| pm2))), (0, .ref q), (1, .int (nI n9)), (2, .int (kd)), (3, .int (li)), (4, .ref q2), (5, .ref q3)]) hx hb dX0_init_49 hl (by decide) rfl (fun ls hl => ?_)
  refine lv_aload hx hb dX0_init_51 (lv_at hl 6 rfl) ?_
  refine lv_ifnull hx hb dX0_init_53 ?_
  refine lv_lload hx hb dX0_init_56 (lv_at hl 0 rfl) ?_
  refine lv_aload hx hb dX0_init_58 (lv_at hl 6 rfl) ?_
  refine wd_get (ci := 1) (v := .long (lN pm3)) (C := RX0) (T := TX0) (N := 10) hx hb hts iwX0 hown hK.1 hP ((wd_un (by omega)).trans (L3)) rfl 5 (by decide) (hts _ (tg_tail _ tw_128)) (fun _ h9 => h9) rfl dX0_init_60 ?_
  refine lv_lor hx hb dX0_init_63 ?_
  refine wd_tl (x' := lN (1 * 2 ^ n9 ||| pm2 ||| pm3)) (wb_or (Nat.or_lt_two_pow p9 (by omega)) (by omega)) ?_
  refine lv_lstore (lv' := [(6, .long (lN (1 * 2 ^ n9 ||| pm2 ||| pm3))), (0, .ref q), (1, .int (nI n9)), (2, .int (kd)), (3, .int (li)), (4, .ref q2), (5, .ref q3)]) hx hb dX0_init_64 hl (by decide) rfl (fun ls hl => ?_)
  refine lv_aload_n hx hb dX0_init_66 rfl (lv_at hl 1 rfl) ?_
  refine lv_lload hx hb dX0_init_67 (lv_at hl 0 rfl) ?_
  refine wd_putF (ci := 1) (v := .long (lN (1 * 2 ^ n9 ||| pm2 ||| pm3))) (ty := .long) (C := RX0) (T := TX0) (N := 10) hx hb hts iwX0 tyX0 tyX0_ok nmX0 hown hK.1 hP hS (by omega) (wd_us) rfl 5 (by decide) (hts _ (tg_tail _ tw_128)) (fun _ h9 => h9) rfl hin rfl (by decide +kernel) (rfl) (rfl) (Nat.le_of_ble_eq_true rfl) dX0_init_69 (fun H locs hP hS hz => ?_)
  have hsz := hz.trans hsz
  have hP : gP g (wd_up w q (.inr (1, [.int (nI n9), .int (kd), .int (li), .ref q2, .ref q3, .long (lN (1 * 2 ^ n9 ||| pm2 ||| pm3)), .null, .null, .int (0), .int (0)]))) H := by have h9 := hP; rw [wd_uu] at h9; exact h9
  refine lv_aload_n hx hb dX0_init_72 rfl (lv_at hl 1 rfl) ?_
  refine lv_sipush (v := nI 1024) hx hb dX0_init_73 (by decide +kernel) ?_
  refine wd_newiZ (atype := .int) (q := (q + 1)) hx hb (hts _ (tg_tail _ tw_40)) (ty := .int) rfl hK.1 hP hS 0 (cA := g.2 0) rfl (a0 := (1024, .inl (fun _ => 0))) (N' := 1024) (fun _ => rfl) (by decide +kernel) (by decide +kernel) (by decide +kernel) (by decide +kernel) (by decide +kernel) hsz dX0_init_76 (fun H hsz hP hS => ?_)
  refine wd_putF (ci := 1) (v := .ref (q + 1)) (ty := (.array .int)) (C := RX0) (T := TX0) (N := 10) hx hb hts iwX0 tyX0 tyX0_ok nmX0 hown hK.1 hP hS (by omega) ((wd_un (by omega)).trans (wd_us)) rfl 6 (by decide) (hts _ (tg_tail _ tw_129)) (fun _ h9 => h9) rfl hin rfl (by decide +kernel) (rfl) (rfl) (Nat.le_of_ble_eq_true rfl) dX0_init_78 (fun H locs hP hS hz => ?_)
  have hsz := hz.trans hsz
  have hP : gP g (wd_up (wd_up w (q + 1) (wd_iA (g.2 0) 1024 (fun _ => 0))) q (.inr (1, [.int (nI n9), .int (kd), .int (li), .ref q2, .ref q3, .long (lN (1 * 2 ^ n9 ||| pm2 ||| pm3)), .ref (q + 1), .null, .int (0), .int (0)]))) H := by have h9 := hP; rw [wd_d1] at h9; exact h9
  refine lv_aload_n hx hb dX0_init_81 rfl (lv_at hl 1 rfl) ?_
  refine lv_bipush (v := nI 32) hx hb dX0_init_82 (by decide) ?_
  refine wd_newiZ (atype := .int) (q := (q + 2)) hx hb (hts _ (tg_tail _ tw_40)) (ty := .int) rfl hK.1 hP hS 0 (cA := g.2 0) rfl (a0 := (32, .inl (fun _ => 0))) (N' := 32) (fun _ => rfl) (by decide +kernel) (by decide +kernel) (by decide +kernel) (by decide +kernel) (by decide +kernel) hsz dX0_init_84 (fun H hsz hP hS => ?_)
  refine wd_putF (ci := 1) (v := .ref (q + 2)) (ty := (.array .int)) (C := RX0) (T := TX0) (N := 10) hx hb hts iwX0 tyX0 tyX0_ok nmX0 hown hK.1 hP hS (by omega) ((wd_un (by omega)).trans (wd_us)) rfl 7 (by decide) (hts _ (tg_tail _ tw_130)) (fun _ h9 => h9) rfl hin rfl (by decide +kernel) (rfl) (rfl) (Nat.le_of_ble_eq_true rfl) dX0_init_86 (fun H locs hP hS hz => ?_)
  have hsz := hz.trans hsz
  have hP : gP g (wd_up (wd_up (wd_up w (q + 1) (wd_iA (g.2 0) 1024 (fun _ => 0))) (q + 2) (wd_iA (g.2 0) 32 (fun _ => 0))) q (.inr (1, [.int (nI n9), .int (kd), .int (li), .ref q2, .ref q3, .long (lN (1 * 2 ^ n9 ||| pm2 ||| pm3)), .ref (q + 1), .ref (q + 2), .int (0), .int (0)]))) H := by have h9 := hP; rw [wd_d1] at h9; exact h9
  refine lv_aload_n hx hb dX0_init_89 rfl (lv_at hl 1 rfl) ?_
  refine lv_iconst (v := (-1)) hx hb dX0_init_90 (by decide) ?_
  refine wd_put (ci := 1) (v := .int ((-1))) (ty := .int) (C := RX0) (T := TX0) (N := 10) hx hb hts iwX0 tyX0 tyX0_ok nmX0 hown hK.1 hP hS (by omega) (wd_us) rfl 8 (by decide) (hts _ (tg_tail _ tw_132)) (fun _ h9 => h9) rfl (by decide +kernel) (rfl) (rfl) (Nat.le_of_ble_eq_true rfl) dX0_init_91 (fun H locs hP hS hz => ?_)
  have hsz := hz.trans hsz
  have hP : gP g (wd_up (wd_up (wd_up w (q + 1) (wd_iA (g.2 0) 1024 (fun _ => 0))) (q + 2) (wd_iA (g.2 0) 32 (fun _ => 0))) q (.inr (1, [.int (nI n9), .int (kd), .int (li), .ref q2, .ref q3, .long (lN (1 * 2 ^ n9 ||| pm2 ||| pm3)), .ref (q + 1), .ref (q + 2), .int ((-1)), .int (0)]))) H := by have h9 := hP; rw [wd_uu] at h9; exact h9
  refine lv_aload_n hx hb dX0_init_94 rfl (lv_at hl 1 rfl) ?_
  refine lv_iconst (v := nI 0) hx hb dX0_init_95 (by decide) ?_
  refine wd_put (ci := 1) (v := .int (nI 0)) (ty := .int) (C := RX0) (T := TX0) (N := 10) hx hb hts iwX0 tyX0 tyX0_ok nmX0 hown hK.1 hP hS (by omega) (wd_us) rfl 9 (by decide) (hts _ (tg_tail _ tw_133)) (fun _ h9 => h9) rfl (by decide +kernel) (rfl) (rfl) (Nat.le_of_ble_eq_true rfl) dX0_init_96 (fun H locs hP hS hz => ?_)
  have hsz := hz.trans hsz
  have hP : gP g (wd_up (wd_up (wd_up w (q + 1) (wd_iA (g.2 0) 1024 (fun _ => 0))) (q + 2) (wd_iA (g.2 0) 32 (fun _ => 0))) q (.inr (1, [.int (nI n9), .int (kd), .int (li), .ref q2, .ref q3, .long (lN (1 * 2 ^ n9 ||| pm2 ||| pm3)), .ref (q + 1), .ref (q + 2), .int ((-1)), .int (nI 0)]))) H := by have h9 := hP; rw [wd_uu] at h9; exact h9
  have e7 : (wd_up (wd_up (wd_up w (q + 1) (wd_iA (g.2 0) 1024 (fun _ => 0))) (q + 2) (wd_iA (g.2 0) 32 (fun _ => 0))) q (.inr (1, [.int (nI n9), .int (kd), .int (li), .ref q2, .ref q3, .long (lN (1 * 2 ^ n9 ||| pm2 ||| pm3)), .ref (q + 1), .ref (q + 2), .int ((-1)), .int (nI 0)]))) = (pW g w q (nI n9) kd li (some q2) (some q3) (lN (1 * 2 ^ n9 ||| pm2 ||| pm3)) (-1) (nI 0) (fun _ => 0) (fun _ => 0)) := by exact pW_ch
  rw [e7] at hP
  refine W.widen (k := 2) (n := 1056) (by decide +kernel) (by decide +kernel) ?_
  exact W.vret hx hb hr (fun t9 ht hW => ⟨⟨(pW g w q (nI n9) kd li (some q2) (some q3) (lN (1 * 2 ^ n9 ||| pm2 ||| pm3)) (-1) (nI 0) (fun _ => 0) (fun _ => 0)), rfl, rfl, cBz_of ht hP (hsz)⟩, hS.F ht⟩) hS.2.2 dX0_init_99

