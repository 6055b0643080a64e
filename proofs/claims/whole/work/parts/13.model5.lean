/-! THE REFERENCE: triple, findNeeded -/
set_option maxHeartbeats 4000000 in
set_option maxRecDepth 100000 in
theorem lp_triple {p : Program} {l : Launch} {e : Env} {R : Room} {s : State} {m : MethodId} {args : Array Value} {below : List Frame} {meth : Method} {c : Code} {Q : State → Prop} {H0 : Heap} {cells slots : Nat} (g : gX) (s0 : Nat) (w : wd_M) (h : Nat) (hs0 : s0 ≤ h) (np mo gb wr nr : Int32) (su pr ob ki fi se ta nd ii sp qu rF rT rD : Nat → Int32) (T : Nat) (hT : T ≤ 150) (sv pv ov : Int32) (hx : p.tables.exec = Jvm.exec) (hb : c.code = cX4_triple) (hml : c.maxLocals = 5) (hown : s.vm.findClass RX4 = some m.cls) (hts : ∀ w ∈ Cond.code yX4_triple cX4_triple 5 (some .int) :: tg, w.before args s = true) (hK : gK g s) (h0s : s0 ≤ H0.size) (hRm : 2 ≤ R.frames ∧ 42 ≤ R.locals) (hcs : cells + 0 ≤ R.cells ∧ slots + 0 ≤ R.slots) (kr : ∀ (j : Nat) (H : Heap) (locs : List Loc) (ls : Array Slot), j < T → (su j = sv ∧ pr j = pv ∧ ob j = ov) → gP g (mW g w h (nI 0) (nI T) np mo gb wr nr su pr ob ki fi se ta nd ii sp qu rF rT rD) H → gS s0 H0 H locs → lv_has ls 5 [(0, .ref h)] → W p l e R s m args below meth c H locs cells slots Q (F0 m 77 ls [])) (kx : ∀ (H : Heap) (locs : List Loc) (ls : Array Slot), (∀ j, j < T → ¬ (su j = sv ∧ pr j = pv ∧ ob j = ov)) → gP g (mW g w h (nI 0) (nI T) np mo gb wr nr su pr ob ki fi se ta nd ii sp qu rF rT rD) H → gS s0 H0 H locs → lv_has ls 5 [(0, .ref h), (1, .int (sv)), (2, .int (pv)), (3, .int (ov)), (4, .int (nI T))] → W p l e R s m args below meth c H locs cells slots Q (F0 m 88 ls [])) :
    ∀ (n k : Nat), k ≤ T → T + 1 ≤ k + n → (∀ j, j < k → ¬ (su j = sv ∧ pr j = pv ∧ ob j = ov)) → ∀ (H : Heap) (locs : List Loc) (ls : Array Slot), gP g (mW g w h (nI 0) (nI T) np mo gb wr nr su pr ob ki fi se ta nd ii sp qu rF rT rD) H → gS s0 H0 H locs → lv_has ls 5 [(0, .ref h), (1, .int (sv)), (2, .int (pv)), (3, .int (ov)), (4, .int (nI k))] → W p l e R s m args below meth c H locs cells slots Q (F0 m 35 ls []) := by
  intro n
  induction n with
  | zero =>
    intro k h1 h2
    exact absurd h2 (by omega)
  | succ n ih =>
    intro k hi hin hex H locs ls hP hS hl
    refine lv_iload hx hb dX4_triple_35 (lv_at hl 4 rfl) ?_
    refine lv_aload_n hx hb dX4_triple_37 rfl (lv_at hl 0 rfl) ?_
    refine wd_get (ci := 5) (v := .int (nI T)) (C := RX4) (T := TX4) (N := 21) hx hb hts iwX4 hown hK.1 hP (mW_0) rfl 4 (by decide) (hts _ (tg_tail _ tw_427)) (fun _ h9 => h9) rfl dX4_triple_38 ?_
    refine lv_icmp_ge (tgt := 88) hx hb dX4_triple_41 (by decide) (fun c_41 => ?_) (fun c_41 => ?_)
    · have c_41 := (nI_leI (a := T) (b := k) (by omega) (by omega)).mp c_41
      have e9 : k = T := by omega
      try rw [e9] at hP
      try rw [e9] at hl
      try rw [e9] at hex
      exact kx H locs ls hex hP hS (lv_sub hl [0, 1, 2, 3, 4] rfl)
    · have c_41 := mt (nI_leI (a := T) (b := k) (by omega) (by omega)).mpr c_41
      refine lv_aload_n hx hb dX4_triple_44 rfl (lv_at hl 0 rfl) ?_
      refine wd_get (ci := 5) (v := .ref (h + 1)) (C := RX4) (T := TX4) (N := 21) hx hb hts iwX4 hown hK.1 hP (mW_0) rfl 1 (by decide) (hts _ (tg_tail _ tw_424)) (fun _ h9 => h9) rfl dX4_triple_45 ?_
      refine lv_iload hx hb dX4_triple_48 (lv_at hl 4 rfl) ?_
      refine wd_ildN hx hb hK.1 hP 0 (k := k) (mW_1) rfl (by omega) (by decide) dX4_triple_50 ?_
      refine lv_iload_n hx hb dX4_triple_51 rfl (lv_at hl 1 rfl) ?_
      refine lv_icmp_ne (tgt := 82) hx hb dX4_triple_52 (by decide) (fun c_52 => ?_) (fun c_52 => ?_)
      · refine lv_iinc (v := nI (k + 1)) (lv' := [(4, .int (nI (k + 1))), (0, .ref h), (1, .int (sv)), (2, .int (pv)), (3, .int (ov))]) hx hb dX4_triple_82 hl (k := 4) rfl (nI_1 _) (by decide) rfl (fun ls hl => ?_)
        refine lv_goto (tgt := 35) hx hb dX4_triple_85 (by decide) ?_
        have hl : lv_has ls 5 [(0, .ref h), (1, .int (sv)), (2, .int (pv)), (3, .int (ov)), (4, .int (nI (k + 1)))] := lv_sub hl [1, 2, 3, 4, 0] rfl
        exact ih (k + 1) (by omega) (by omega) (lt_s hex (fun q => c_52 q.1)) _ _ ls hP hS hl
      · refine lv_aload_n hx hb dX4_triple_55 rfl (lv_at hl 0 rfl) ?_
        refine wd_get (ci := 5) (v := .ref (h + 2)) (C := RX4) (T := TX4) (N := 21) hx hb hts iwX4 hown hK.1 hP (mW_0) rfl 2 (by decide) (hts _ (tg_tail _ tw_425)) (fun _ h9 => h9) rfl dX4_triple_56 ?_
        refine lv_iload hx hb dX4_triple_59 (lv_at hl 4 rfl) ?_
        refine wd_ildN hx hb hK.1 hP 0 (k := k) (mW_2) rfl (by omega) (by decide) dX4_triple_61 ?_
        refine lv_iload_n hx hb dX4_triple_62 rfl (lv_at hl 2 rfl) ?_
        refine lv_icmp_ne (tgt := 82) hx hb dX4_triple_63 (by decide) (fun c_63 => ?_) (fun c_63 => ?_)
        · refine lv_iinc (v := nI (k + 1)) (lv' := [(4, .int (nI (k + 1))), (0, .ref h), (1, .int (sv)), (2, .int (pv)), (3, .int (ov))]) hx hb dX4_triple_82 hl (k := 4) rfl (nI_1 _) (by decide) rfl (fun ls hl => ?_)
          refine lv_goto (tgt := 35) hx hb dX4_triple_85 (by decide) ?_
          have hl : lv_has ls 5 [(0, .ref h), (1, .int (sv)), (2, .int (pv)), (3, .int (ov)), (4, .int (nI (k + 1)))] := lv_sub hl [1, 2, 3, 4, 0] rfl
          exact ih (k + 1) (by omega) (by omega) (lt_s hex (fun q => c_63 q.2.1)) _ _ ls hP hS hl
        · refine lv_aload_n hx hb dX4_triple_66 rfl (lv_at hl 0 rfl) ?_
          refine wd_get (ci := 5) (v := .ref (h + 3)) (C := RX4) (T := TX4) (N := 21) hx hb hts iwX4 hown hK.1 hP (mW_0) rfl 3 (by decide) (hts _ (tg_tail _ tw_426)) (fun _ h9 => h9) rfl dX4_triple_67 ?_
          refine lv_iload hx hb dX4_triple_70 (lv_at hl 4 rfl) ?_
          refine wd_ildN hx hb hK.1 hP 0 (k := k) (mW_3) rfl (by omega) (by decide) dX4_triple_72 ?_
          refine lv_iload_n hx hb dX4_triple_73 rfl (lv_at hl 3 rfl) ?_
          refine lv_icmp_ne (tgt := 82) hx hb dX4_triple_74 (by decide) (fun c_74 => ?_) (fun c_74 => ?_)
          · refine lv_iinc (v := nI (k + 1)) (lv' := [(4, .int (nI (k + 1))), (0, .ref h), (1, .int (sv)), (2, .int (pv)), (3, .int (ov))]) hx hb dX4_triple_82 hl (k := 4) rfl (nI_1 _) (by decide) rfl (fun ls hl => ?_)
            refine lv_goto (tgt := 35) hx hb dX4_triple_85 (by decide) ?_
            have hl : lv_has ls 5 [(0, .ref h), (1, .int (sv)), (2, .int (pv)), (3, .int (ov)), (4, .int (nI (k + 1)))] := lv_sub hl [1, 2, 3, 4, 0] rfl
            exact ih (k + 1) (by omega) (by omega) (lt_s hex (fun q => c_74 q.2.2)) _ _ ls hP hS hl
          · exact kr k H locs ls (by omega) ⟨c_52, c_63, c_74⟩ hP hS (lv_sub hl [0] rfl)

set_option maxHeartbeats 4000000 in
set_option maxRecDepth 100000 in
theorem c_X4_triple (l : Launch) (g : gX) (s0 : Nat) (w : wd_M) (h : Nat) (hs0 : s0 ≤ h) (rf np mo gb wr nr : Int32) (su pr ob ki fi se ta nd ii sp qu rF rT rD : Nat → Int32) (T : Nat) (hT : T ≤ 150) (sv pv ov : Int32) : Met l yX4_triple (Cond.code yX4_triple cX4_triple 5 (some .int) :: tg) ({ frames := 2, cells := 0, slots := 0, locals := 42 }) (cP g s0 (mW g w h rf (nI T) np mo gb wr nr su pr ob ki fi se ta nd ii sp qu rF rT rD) [.ref h, .int (sv), .int (pv), .int (ov)]) (cI g s0 (fun r w' => (¬ ((nI 0 ≤ sv ∧ sv ≤ nI 31) ∧ (nI 0 ≤ ov ∧ ov ≤ nI 31) ∧ (nI 0 ≤ pv ∧ pv ≤ nI 15)) ∧ r = -2 ∧ w' = (mW g w h (nI 0) (nI T) np mo gb wr nr su pr ob ki fi se ta nd ii sp qu rF rT rD)) ∨ (((nI 0 ≤ sv ∧ sv ≤ nI 31) ∧ (nI 0 ≤ ov ∧ ov ≤ nI 31) ∧ (nI 0 ≤ pv ∧ pv ≤ nI 15)) ∧ (∃ j, j < T ∧ (su j = sv ∧ pr j = pv ∧ ob j = ov)) ∧ r = nI T ∧ w' = (mW g w h (nI 0) (nI T) np mo gb wr nr su pr ob ki fi se ta nd ii sp qu rF rT rD)) ∨ (((nI 0 ≤ sv ∧ sv ≤ nI 31) ∧ (nI 0 ≤ ov ∧ ov ≤ nI 31) ∧ (nI 0 ≤ pv ∧ pv ≤ nI 15)) ∧ ¬ (∃ j, j < T ∧ (su j = sv ∧ pr j = pv ∧ ob j = ov)) ∧ T = 150 ∧ r = -4 ∧ w' = (mW g w h (nI 0) (nI T) np mo gb wr nr su pr ob ki fi se ta nd ii sp qu rF rT rD)) ∨ (((nI 0 ≤ sv ∧ sv ≤ nI 31) ∧ (nI 0 ≤ ov ∧ ov ≤ nI 31) ∧ (nI 0 ≤ pv ∧ pv ≤ nI 15)) ∧ ¬ (∃ j, j < T ∧ (su j = sv ∧ pr j = pv ∧ ob j = ov)) ∧ T < 150 ∧ r = nI (T + 1) ∧ w' = (mW g w h (nI 0) (nI (T + 1)) np mo gb wr nr (upd su T sv) (upd pr T pv) (upd ob T ov) ki fi se ta nd ii sp qu rF rT rD)))) 0 0 (cA s0) := by
  refine Met.ofW (cc := cX4_triple) (maxL := 5) (ret := some .int) (by decide) rfl ?_
  intro p e s m args below meth c s₁ B9 hml hv
  obtain ⟨rfl, h0s, hP, hK⟩ := hv
  have hx := B9.exec
  have hb := B9.bytes
  have hr := B9.returns
  have hts := atoms_spec (ws := Cond.code yX4_triple cX4_triple 5 (some .int) :: tg) B9.pre
  have hown : s.vm.findClass RX4 = some m.cls := findClass_of_methodNamed B9.named
  have hlocks := B9.notSynchronized
  have hS : gS s0 s.heap s.heap [] := va_S.rf
  have hRm : 2 ≤ (headSpec (Cond.code yX4_triple cX4_triple 5 (some .int) :: tg) ({ frames := 2, cells := 0, slots := 0, locals := 42 })).room.frames ∧ 42 ≤ (headSpec (Cond.code yX4_triple cX4_triple 5 (some .int) :: tg) ({ frames := 2, cells := 0, slots := 0, locals := 42 })).room.locals := ⟨Nat.le_refl _, Nat.le_refl _⟩
  have hcs : 0 + 0 ≤ (headSpec (Cond.code yX4_triple cX4_triple 5 (some .int) :: tg) ({ frames := 2, cells := 0, slots := 0, locals := 42 })).room.cells ∧ 0 + 0 ≤ (headSpec (Cond.code yX4_triple cX4_triple 5 (some .int) :: tg) ({ frames := 2, cells := 0, slots := 0, locals := 42 })).room.slots := ⟨Nat.zero_le _, Nat.zero_le _⟩
  have hl := lv_entry ([.ref h, .int (sv), .int (pv), .int (ov)]) (n := 5) (Nat.le_of_ble_eq_true rfl)
  rw [lg_entry_eq]
  generalize (lg_sl ([.ref h, .int (sv), .int (pv), .int (ov)]) ++ List.replicate (5 - (lg_sl ([.ref h, .int (sv), .int (pv), .int (ov)])).length) Slot.unset).toArray = ls at hl ⊢
  have hl : lv_has ls 5 [(0, .ref h), (1, .int (sv)), (2, .int (pv)), (3, .int (ov))] := hl
  refine lv_aload_n hx hb dX4_triple_0 rfl (lv_at hl 0 rfl) ?_
  refine lv_iconst (v := nI 0) hx hb dX4_triple_1 (by decide) ?_
  refine wd_put (ci := 5) (v := .int (nI 0)) (ty := .int) (C := RX4) (T := TX4) (N := 21) hx hb hts iwX4 tyX4 tyX4_ok nmX4 hown hK.1 hP hS (by omega) (mW_0) rfl 0 (by decide) (hts _ (tg_tail _ tw_423)) (fun _ h9 => h9) rfl (by decide +kernel) (rfl) (rfl) (Nat.le_of_ble_eq_true rfl) dX4_triple_2 (fun H locs hP hS hz => ?_)
  have hP : gP g (mW g w h (nI 0) (nI T) np mo gb wr nr su pr ob ki fi se ta nd ii sp qu rF rT rD) H := by have h9 : gP g (wd_up (mW g w h rf (nI T) np mo gb wr nr su pr ob ki fi se ta nd ii sp qu rF rT rD) h (.inr (5, [.int (nI 0), .ref (h + 1), .ref (h + 2), .ref (h + 3), .int (nI T), .ref (h + 4), .ref (h + 5), .ref (h + 6), .int (np), .int (mo), .ref (h + 7), .ref (h + 8), .ref (h + 9), .int (gb), .ref (h + 10), .ref (h + 11), .int (wr), .int (nr), .ref (h + 12), .ref (h + 13), .ref (h + 14)]))) H := hP; rw [mW_s0] at h9; exact h9
  refine lv_iload_n hx hb dX4_triple_5 rfl (lv_at hl 1 rfl) ?_
  refine cr_Si (As := [.int (sv)]) (rest := []) ⟨hx, hb, hml, hown, hts⟩ (c_X4_isNode l g s0 (mW g w h (nI 0) (nI T) np mo gb wr nr su pr ob ki fi se ta nd ii sp qu rF rT rD) sv) (cw_S 1 hts tg_tail tw_496 tw_497 tw_4 tw_498 rfl rfl (by decide +kernel) ⟨Nat.le_trans (by decide) hRm.1, Nat.le_trans (by decide) hRm.2⟩) hK hP h0s hS rfl hl.1 rfl (Nat.le_of_ble_eq_true rfl) dX4_triple_6 hcs (fun r9 w9 H locs hw hP hS => ?_)
  obtain ⟨e_r9, hw9⟩ := hw
  rw [hw9] at hP
  subst e_r9
  refine lv_if_eq (tgt := 29) hx hb dX4_triple_9 (by decide) (fun c_9 => ?_) (fun c_9 => ?_)
  · have c_9 := zB_0.mp c_9
    refine lv_bipush (v := (-2)) hx hb dX4_triple_29 (by decide) ?_
    exact W.iret (v := (-2)) hx hb hr (fun t9 ht hW => ⟨⟨_, (mW g w h (nI 0) (nI T) np mo gb wr nr su pr ob ki fi se ta nd ii sp qu rF rT rD), rfl, Or.inl ⟨by clear hts hP hK hx hb hr hown hS hRm hcs hl hlocks; grind, rfl, rfl⟩, cB_of ht hP⟩, hS.F ht⟩) hS.2.2 dX4_triple_31
  · have c_9 := zB_1.mp c_9
    refine lv_iload_n hx hb dX4_triple_12 rfl (lv_at hl 3 rfl) ?_
    refine cr_Si (As := [.int (ov)]) (rest := []) ⟨hx, hb, hml, hown, hts⟩ (c_X4_isNode l g s0 (mW g w h (nI 0) (nI T) np mo gb wr nr su pr ob ki fi se ta nd ii sp qu rF rT rD) ov) (cw_S 1 hts tg_tail tw_496 tw_497 tw_4 tw_498 rfl rfl (by decide +kernel) ⟨Nat.le_trans (by decide) hRm.1, Nat.le_trans (by decide) hRm.2⟩) hK hP h0s hS rfl hl.1 rfl (Nat.le_of_ble_eq_true rfl) dX4_triple_13 hcs (fun r9 w9 H locs hw hP hS => ?_)
    obtain ⟨e_r9, hw9⟩ := hw
    rw [hw9] at hP
    subst e_r9
    refine lv_if_eq (tgt := 29) hx hb dX4_triple_16 (by decide) (fun c_16 => ?_) (fun c_16 => ?_)
    · have c_16 := zB_0.mp c_16
      refine lv_bipush (v := (-2)) hx hb dX4_triple_29 (by decide) ?_
      exact W.iret (v := (-2)) hx hb hr (fun t9 ht hW => ⟨⟨_, (mW g w h (nI 0) (nI T) np mo gb wr nr su pr ob ki fi se ta nd ii sp qu rF rT rD), rfl, Or.inl ⟨by clear hts hP hK hx hb hr hown hS hRm hcs hl hlocks; grind, rfl, rfl⟩, cB_of ht hP⟩, hS.F ht⟩) hS.2.2 dX4_triple_31
    · have c_16 := zB_1.mp c_16
      refine lv_iload_n hx hb dX4_triple_19 rfl (lv_at hl 2 rfl) ?_
      refine lv_iconst (v := nI 0) hx hb dX4_triple_20 (by decide) ?_
      refine lv_bipush (v := nI 15) hx hb dX4_triple_21 (by decide) ?_
      refine cr_Si (As := [.int (pv), .int (nI 0), .int (nI 15)]) (rest := []) ⟨hx, hb, hml, hown, hts⟩ (c_X4_isBetween l g s0 (mW g w h (nI 0) (nI T) np mo gb wr nr su pr ob ki fi se ta nd ii sp qu rF rT rD) (pv) (nI 0) (nI 15)) (cw_S 3 hts tg_tail tw_499 tw_500 tw_4 tw_501 rfl rfl (by decide +kernel) ⟨Nat.le_trans (by decide) hRm.1, Nat.le_trans (by decide) hRm.2⟩) hK hP h0s hS rfl hl.1 rfl (Nat.le_of_ble_eq_true rfl) dX4_triple_23 hcs (fun r9 w9 H locs hw hP hS => ?_)
      obtain ⟨e_r9, hw9⟩ := hw
      rw [hw9] at hP
      subst e_r9
      refine lv_if_ne (tgt := 32) hx hb dX4_triple_26 (by decide) (fun c_26 => ?_) (fun c_26 => ?_)
      · have c_26 := zB_1.mp c_26
        refine lv_iconst (v := nI 0) hx hb dX4_triple_32 (by decide) ?_
        refine lv_istore (lv' := [(4, .int (nI 0)), (0, .ref h), (1, .int (sv)), (2, .int (pv)), (3, .int (ov))]) hx hb dX4_triple_33 hl (by decide) rfl (fun ls hl => ?_)
        refine lp_triple g s0 w h hs0 np mo gb wr nr su pr ob ki fi se ta nd ii sp qu rF rT rD T hT sv pv ov hx hb hml hown hts hK h0s hRm hcs ?_ ?_ (T + 1) 0 (by omega) (by omega) (fun j hj => absurd hj (Nat.not_lt_zero j)) _ _ ls hP hS (lv_sub hl [1, 2, 3, 4, 0] rfl)
        · intro j H locs ls hj hm hP hS hl
          refine lv_aload_n hx hb dX4_triple_77 rfl (lv_at hl 0 rfl) ?_
          refine wd_get (ci := 5) (v := .int (nI T)) (C := RX4) (T := TX4) (N := 21) hx hb hts iwX4 hown hK.1 hP (mW_0) rfl 4 (by decide) (hts _ (tg_tail _ tw_427)) (fun _ h9 => h9) rfl dX4_triple_78 ?_
          exact W.iret (v := nI T) hx hb hr (fun t9 ht hW => ⟨⟨_, (mW g w h (nI 0) (nI T) np mo gb wr nr su pr ob ki fi se ta nd ii sp qu rF rT rD), rfl, Or.inr (Or.inl ⟨⟨c_9, c_16, c_26⟩, ⟨j, hj, hm⟩, rfl, rfl⟩), cB_of ht hP⟩, hS.F ht⟩) hS.2.2 dX4_triple_81
        · intro H locs ls hex hP hS hl
          refine lv_aload_n hx hb dX4_triple_88 rfl (lv_at hl 0 rfl) ?_
          refine wd_get (ci := 5) (v := .int (nI T)) (C := RX4) (T := TX4) (N := 21) hx hb hts iwX4 hown hK.1 hP (mW_0) rfl 4 (by decide) (hts _ (tg_tail _ tw_427)) (fun _ h9 => h9) rfl dX4_triple_89 ?_
          refine lv_sipush (v := nI 150) hx hb dX4_triple_92 (by decide +kernel) ?_
          refine lv_icmp_ne (tgt := 101) hx hb dX4_triple_95 (by decide) (fun c_95 => ?_) (fun c_95 => ?_)
          · have c_95 := mt (nI_eq (a := T) (b := 150) (by omega) (by omega)).mpr c_95
            refine lv_aload_n hx hb dX4_triple_101 rfl (lv_at hl 0 rfl) ?_
            refine wd_get (ci := 5) (v := .ref (h + 1)) (C := RX4) (T := TX4) (N := 21) hx hb hts iwX4 hown hK.1 hP (mW_0) rfl 1 (by decide) (hts _ (tg_tail _ tw_424)) (fun _ h9 => h9) rfl dX4_triple_102 ?_
            refine lv_aload_n hx hb dX4_triple_105 rfl (lv_at hl 0 rfl) ?_
            refine wd_get (ci := 5) (v := .int (nI T)) (C := RX4) (T := TX4) (N := 21) hx hb hts iwX4 hown hK.1 hP (mW_0) rfl 4 (by decide) (hts _ (tg_tail _ tw_427)) (fun _ h9 => h9) rfl dX4_triple_106 ?_
            refine lv_iload_n hx hb dX4_triple_109 rfl (lv_at hl 1 rfl) ?_
            refine wd_istN hx hb hK.1 hP hS (by omega) 0 (k := T) (mW_1) rfl (by omega) (by decide) dX4_triple_110 (fun H locs hP hS hz => ?_)
            have hP : gP g (mW g w h (nI 0) (nI T) np mo gb wr nr (upd (su) T (sv)) pr ob ki fi se ta nd ii sp qu rF rT rD) H := by have h9 : gP g (wd_up (mW g w h (nI 0) (nI T) np mo gb wr nr su pr ob ki fi se ta nd ii sp qu rF rT rD) (h + 1) (wd_iA (g.2 0) 150 (upd (su) T (sv)))) H := hP; rw [mW_s1] at h9; exact h9
            refine lv_aload_n hx hb dX4_triple_111 rfl (lv_at hl 0 rfl) ?_
            refine wd_get (ci := 5) (v := .ref (h + 2)) (C := RX4) (T := TX4) (N := 21) hx hb hts iwX4 hown hK.1 hP (mW_0) rfl 2 (by decide) (hts _ (tg_tail _ tw_425)) (fun _ h9 => h9) rfl dX4_triple_112 ?_
            refine lv_aload_n hx hb dX4_triple_115 rfl (lv_at hl 0 rfl) ?_
            refine wd_get (ci := 5) (v := .int (nI T)) (C := RX4) (T := TX4) (N := 21) hx hb hts iwX4 hown hK.1 hP (mW_0) rfl 4 (by decide) (hts _ (tg_tail _ tw_427)) (fun _ h9 => h9) rfl dX4_triple_116 ?_
            refine lv_iload_n hx hb dX4_triple_119 rfl (lv_at hl 2 rfl) ?_
            refine wd_istN hx hb hK.1 hP hS (by omega) 0 (k := T) (mW_2) rfl (by omega) (by decide) dX4_triple_120 (fun H locs hP hS hz => ?_)
            have hP : gP g (mW g w h (nI 0) (nI T) np mo gb wr nr (upd (su) T (sv)) (upd (pr) T (pv)) ob ki fi se ta nd ii sp qu rF rT rD) H := by have h9 : gP g (wd_up (mW g w h (nI 0) (nI T) np mo gb wr nr (upd (su) T (sv)) pr ob ki fi se ta nd ii sp qu rF rT rD) (h + 2) (wd_iA (g.2 0) 150 (upd (pr) T (pv)))) H := hP; rw [mW_s2] at h9; exact h9
            refine lv_aload_n hx hb dX4_triple_121 rfl (lv_at hl 0 rfl) ?_
            refine wd_get (ci := 5) (v := .ref (h + 3)) (C := RX4) (T := TX4) (N := 21) hx hb hts iwX4 hown hK.1 hP (mW_0) rfl 3 (by decide) (hts _ (tg_tail _ tw_426)) (fun _ h9 => h9) rfl dX4_triple_122 ?_
            refine lv_aload_n hx hb dX4_triple_125 rfl (lv_at hl 0 rfl) ?_
            refine wd_get (ci := 5) (v := .int (nI T)) (C := RX4) (T := TX4) (N := 21) hx hb hts iwX4 hown hK.1 hP (mW_0) rfl 4 (by decide) (hts _ (tg_tail _ tw_427)) (fun _ h9 => h9) rfl dX4_triple_126 ?_
            refine lv_iload_n hx hb dX4_triple_129 rfl (lv_at hl 3 rfl) ?_
            refine wd_istN hx hb hK.1 hP hS (by omega) 0 (k := T) (mW_3) rfl (by omega) (by decide) dX4_triple_130 (fun H locs hP hS hz => ?_)
            have hP : gP g (mW g w h (nI 0) (nI T) np mo gb wr nr (upd (su) T (sv)) (upd (pr) T (pv)) (upd (ob) T (ov)) ki fi se ta nd ii sp qu rF rT rD) H := by have h9 : gP g (wd_up (mW g w h (nI 0) (nI T) np mo gb wr nr (upd (su) T (sv)) (upd (pr) T (pv)) ob ki fi se ta nd ii sp qu rF rT rD) (h + 3) (wd_iA (g.2 0) 150 (upd (ob) T (ov)))) H := hP; rw [mW_s3] at h9; exact h9
            refine lv_aload_n hx hb dX4_triple_131 rfl (lv_at hl 0 rfl) ?_
            refine lv_dup hx hb dX4_triple_132 rfl ?_
            refine wd_get (ci := 5) (v := .int (nI T)) (C := RX4) (T := TX4) (N := 21) hx hb hts iwX4 hown hK.1 hP (mW_0) rfl 4 (by decide) (hts _ (tg_tail _ tw_427)) (fun _ h9 => h9) rfl dX4_triple_133 ?_
            refine lv_iconst (v := nI 1) hx hb dX4_triple_136 (by decide) ?_
            refine lv_iadd hx hb dX4_triple_137 ?_
            refine wd_ti (x' := nI (T + 1)) (nI_add _ _) ?_
            refine wd_put (ci := 5) (v := .int (nI (T + 1))) (ty := .int) (C := RX4) (T := TX4) (N := 21) hx hb hts iwX4 tyX4 tyX4_ok nmX4 hown hK.1 hP hS (by omega) (mW_0) rfl 4 (by decide) (hts _ (tg_tail _ tw_427)) (fun _ h9 => h9) rfl (by decide +kernel) (rfl) (rfl) (Nat.le_of_ble_eq_true rfl) dX4_triple_138 (fun H locs hP hS hz => ?_)
            have hP : gP g (mW g w h (nI 0) (nI (T + 1)) np mo gb wr nr (upd (su) T (sv)) (upd (pr) T (pv)) (upd (ob) T (ov)) ki fi se ta nd ii sp qu rF rT rD) H := by have h9 : gP g (wd_up (mW g w h (nI 0) (nI T) np mo gb wr nr (upd (su) T (sv)) (upd (pr) T (pv)) (upd (ob) T (ov)) ki fi se ta nd ii sp qu rF rT rD) h (.inr (5, [.int (nI 0), .ref (h + 1), .ref (h + 2), .ref (h + 3), .int (nI (T + 1)), .ref (h + 4), .ref (h + 5), .ref (h + 6), .int (np), .int (mo), .ref (h + 7), .ref (h + 8), .ref (h + 9), .int (gb), .ref (h + 10), .ref (h + 11), .int (wr), .int (nr), .ref (h + 12), .ref (h + 13), .ref (h + 14)]))) H := hP; rw [mW_s0] at h9; exact h9
            refine lv_aload_n hx hb dX4_triple_141 rfl (lv_at hl 0 rfl) ?_
            refine wd_get (ci := 5) (v := .int (nI (T + 1))) (C := RX4) (T := TX4) (N := 21) hx hb hts iwX4 hown hK.1 hP (mW_0) rfl 4 (by decide) (hts _ (tg_tail _ tw_427)) (fun _ h9 => h9) rfl dX4_triple_142 ?_
            exact W.iret (v := nI (T + 1)) hx hb hr (fun t9 ht hW => ⟨⟨_, (mW g w h (nI 0) (nI (T + 1)) np mo gb wr nr (upd (su) T (sv)) (upd (pr) T (pv)) (upd (ob) T (ov)) ki fi se ta nd ii sp qu rF rT rD), rfl, Or.inr (Or.inr (Or.inr ⟨⟨c_9, c_16, c_26⟩, (fun q => q.elim (fun j q => hex j q.1 q.2)), by omega, rfl, rfl⟩)), cB_of ht hP⟩, hS.F ht⟩) hS.2.2 dX4_triple_145
          · have c_95 := (nI_eq (a := T) (b := 150) (by omega) (by omega)).mp c_95
            refine lv_bipush (v := (-4)) hx hb dX4_triple_98 (by decide) ?_
            exact W.iret (v := (-4)) hx hb hr (fun t9 ht hW => ⟨⟨_, (mW g w h (nI 0) (nI T) np mo gb wr nr su pr ob ki fi se ta nd ii sp qu rF rT rD), rfl, Or.inr (Or.inr (Or.inl ⟨⟨c_9, c_16, c_26⟩, (fun q => q.elim (fun j q => hex j q.1 q.2)), c_95, rfl, rfl⟩)), cB_of ht hP⟩, hS.F ht⟩) hS.2.2 dX4_triple_100
      · have c_26 := zB_0.mp c_26
        refine lv_bipush (v := (-2)) hx hb dX4_triple_29 (by decide) ?_
        exact W.iret (v := (-2)) hx hb hr (fun t9 ht hW => ⟨⟨_, (mW g w h (nI 0) (nI T) np mo gb wr nr su pr ob ki fi se ta nd ii sp qu rF rT rD), rfl, Or.inl ⟨by clear hts hP hK hx hb hr hown hS hRm hcs hl hlocks; grind, rfl, rfl⟩, cB_of ht hP⟩, hS.F ht⟩) hS.2.2 dX4_triple_31

def fn1 (nd : Nat → Int32) (u : Nat) : Nat → Nat → Int32
  | 0 => nd
  | k + 1 => upd (fn1 nd u k) (k + 1) (zB (k + 1 = u))
/-- a step down of findNeeded at the PATH q -/
def fn_a (ki : Nat → Int32) (A : Nat → Nat) (N : Nat → Int32) (q : Nat) : Nat → Int32 := if ¬ N q = 0 ∧ (nI 1 ≤ ki q ∧ ki q ≤ nI 6) then upd N (A q) (nI 1) else N
def fn_b (ki : Nat → Int32) (B : Nat → Nat) (N : Nat → Int32) (q : Nat) : Nat → Int32 := if ¬ N q = 0 ∧ (nI 2 ≤ ki q ∧ ki q ≤ nI 3) then upd N (B q) (nI 1) else N
def fn2 (ki : Nat → Int32) (A B : Nat → Nat) (u : Nat) (N : Nat → Int32) : Nat → Nat → Int32
  | 0 => N
  | t + 1 => fn_b ki B (fn_a ki A (fn2 ki A B u N t) (u - t)) (u - t)
set_option maxHeartbeats 4000000 in
set_option maxRecDepth 100000 in
theorem lp_fn1 {p : Program} {l : Launch} {e : Env} {R : Room} {s : State} {m : MethodId} {args : Array Value} {below : List Frame} {meth : Method} {c : Code} {Q : State → Prop} {H0 : Heap} {cells slots : Nat} (g : gX) (s0 : Nat) (w : wd_M) (h : Nat) (hs0 : s0 ≤ h) (rf nt mo gb wr nr : Int32) (su pr ob ki fi se ta nd ii sp qu rF rT rD : Nat → Int32) (P : Nat) (hP4 : P ≤ 40) (u : Nat) (hu : u ≤ P) (hx : p.tables.exec = Jvm.exec) (hb : c.code = cX4_findNeeded) (hml : c.maxLocals = 3) (hown : s.vm.findClass RX4 = some m.cls) (hts : ∀ w ∈ Cond.code yX4_findNeeded cX4_findNeeded 3 (none) :: tg, w.before args s = true) (hK : gK g s) (h0s : s0 ≤ H0.size) (hRm : 1 ≤ R.frames ∧ 22 ≤ R.locals) (hcs : cells + 0 ≤ R.cells ∧ slots + 0 ≤ R.slots)  (kx : ∀ (H : Heap) (locs : List Loc) (ls : Array Slot), gP g (mW g w h rf nt (nI P) mo gb wr nr su pr ob ki fi se ta (fn1 nd u P) ii sp qu rF rT rD) H → gS s0 H0 H locs → lv_has ls 3 [(0, .ref h), (1, .int (nI u)), (2, .int (nI (P + 1)))] → W p l e R s m args below meth c H locs cells slots Q (F0 m 32 ls [])) :
    ∀ (n k : Nat), k ≤ P → P + 1 ≤ k + n → ∀ (H : Heap) (locs : List Loc) (ls : Array Slot), gP g (mW g w h rf nt (nI P) mo gb wr nr su pr ob ki fi se ta (fn1 nd u k) ii sp qu rF rT rD) H → gS s0 H0 H locs → lv_has ls 3 [(0, .ref h), (1, .int (nI u)), (2, .int (nI (k + 1)))] → W p l e R s m args below meth c H locs cells slots Q (F0 m 2 ls []) := by
  intro n
  induction n with
  | zero =>
    intro k h1 h2
    exact absurd h2 (by omega)
  | succ n ih =>
    intro k hi hin H locs ls hP hS hl
    refine lv_iload_n hx hb dX4_findNeeded_2 rfl (lv_at hl 2 rfl) ?_
    refine lv_aload_n hx hb dX4_findNeeded_3 rfl (lv_at hl 0 rfl) ?_
    refine wd_get (ci := 5) (v := .int (nI P)) (C := RX4) (T := TX4) (N := 21) hx hb hts iwX4 hown hK.1 hP (mW_0) rfl 8 (by decide) (hts _ (tg_tail _ tw_431)) (fun _ h9 => h9) rfl dX4_findNeeded_4 ?_
    refine lv_icmp_gt (tgt := 32) hx hb dX4_findNeeded_7 (by decide) (fun c_7 => ?_) (fun c_7 => ?_)
    · have c_7 := (nI_ltI (a := P) (b := (k + 1)) (by omega) (by omega)).mp c_7
      have e9 : k = P := by omega
      try rw [e9] at hP
      try rw [e9] at hl
      exact kx H locs ls hP hS (lv_sub hl [0, 1, 2] rfl)
    · have c_7 := mt (nI_ltI (a := P) (b := (k + 1)) (by omega) (by omega)).mpr c_7
      refine lv_aload_n hx hb dX4_findNeeded_10 rfl (lv_at hl 0 rfl) ?_
      refine wd_get (ci := 5) (v := .ref (h + 8)) (C := RX4) (T := TX4) (N := 21) hx hb hts iwX4 hown hK.1 hP (mW_0) rfl 11 (by decide) (hts _ (tg_tail _ tw_434)) (fun _ h9 => h9) rfl dX4_findNeeded_11 ?_
      refine lv_iload_n hx hb dX4_findNeeded_14 rfl (lv_at hl 2 rfl) ?_
      refine lv_iload_n hx hb dX4_findNeeded_15 rfl (lv_at hl 2 rfl) ?_
      refine lv_iload_n hx hb dX4_findNeeded_16 rfl (lv_at hl 1 rfl) ?_
      refine lv_icmp_ne (tgt := 24) hx hb dX4_findNeeded_17 (by decide) (fun c_17 => ?_) (fun c_17 => ?_)
      · have c_17 := mt (nI_eq (a := (k + 1)) (b := u) (by omega) (by omega)).mpr c_17
        refine lv_iconst (v := nI 0) hx hb dX4_findNeeded_24 (by decide) ?_
        refine wd_zstN hx hb hK.1 hP hS (by omega) 1 (k := (k + 1)) (mW_8) rfl (by decide) (by omega) (by decide) dX4_findNeeded_25 (fun H locs hP hS hz => ?_)
        have hP : gP g (mW g w h rf nt (nI P) mo gb wr nr su pr ob ki fi se ta (upd (fn1 nd u k) (k + 1) (nI 0)) ii sp qu rF rT rD) H := by have h9 : gP g (wd_up (mW g w h rf nt (nI P) mo gb wr nr su pr ob ki fi se ta (fn1 nd u k) ii sp qu rF rT rD) (h + 8) (wd_iA (g.2 1) 41 (upd (fn1 nd u k) (k + 1) (nI 0)))) H := hP; rw [mW_s8] at h9; exact h9
        refine lv_iinc (v := nI (k + 1 + 1)) (lv' := [(2, .int (nI (k + 1 + 1))), (0, .ref h), (1, .int (nI u))]) hx hb dX4_findNeeded_26 hl (k := 2) rfl (nI_1 _) (by decide) rfl (fun ls hl => ?_)
        refine lv_goto (tgt := 2) hx hb dX4_findNeeded_29 (by decide) ?_
        have e8 : (mW g w h rf nt (nI P) mo gb wr nr su pr ob ki fi se ta (upd (fn1 nd u k) (k + 1) (nI 0)) ii sp qu rF rT rD) = (mW g w h rf nt (nI P) mo gb wr nr su pr ob ki fi se ta (fn1 nd u (k + 1)) ii sp qu rF rT rD) := by rw [fn1, zB_f c_17]
        rw [e8] at hP
        have hl : lv_has ls 3 [(0, .ref h), (1, .int (nI u)), (2, .int (nI (k + 1 + 1)))] := lv_sub hl [1, 2, 0] rfl
        have e8 : ([(0, .ref h), (1, .int (nI u)), (2, .int (nI (k + 1 + 1)))] : List (Nat × Value)) = [(0, .ref h), (1, .int (nI u)), (2, .int (nI ((k + 1) + 1)))] := by rfl
        rw [e8] at hl
        exact ih (k + 1) (by omega) (by omega) _ _ ls hP hS hl
      · have c_17 := (nI_eq (a := (k + 1)) (b := u) (by omega) (by omega)).mp c_17
        refine lv_iconst (v := nI 1) hx hb dX4_findNeeded_20 (by decide) ?_
        refine lv_goto (tgt := 25) hx hb dX4_findNeeded_21 (by decide) ?_
        refine wd_zstN hx hb hK.1 hP hS (by omega) 1 (k := (k + 1)) (mW_8) rfl (by decide) (by omega) (by decide) dX4_findNeeded_25 (fun H locs hP hS hz => ?_)
        have hP : gP g (mW g w h rf nt (nI P) mo gb wr nr su pr ob ki fi se ta (upd (fn1 nd u k) (k + 1) (nI 1)) ii sp qu rF rT rD) H := by have h9 : gP g (wd_up (mW g w h rf nt (nI P) mo gb wr nr su pr ob ki fi se ta (fn1 nd u k) ii sp qu rF rT rD) (h + 8) (wd_iA (g.2 1) 41 (upd (fn1 nd u k) (k + 1) (nI 1)))) H := hP; rw [mW_s8] at h9; exact h9
        refine lv_iinc (v := nI (k + 1 + 1)) (lv' := [(2, .int (nI (k + 1 + 1))), (0, .ref h), (1, .int (nI u))]) hx hb dX4_findNeeded_26 hl (k := 2) rfl (nI_1 _) (by decide) rfl (fun ls hl => ?_)
        refine lv_goto (tgt := 2) hx hb dX4_findNeeded_29 (by decide) ?_
        have e8 : (mW g w h rf nt (nI P) mo gb wr nr su pr ob ki fi se ta (upd (fn1 nd u k) (k + 1) (nI 1)) ii sp qu rF rT rD) = (mW g w h rf nt (nI P) mo gb wr nr su pr ob ki fi se ta (fn1 nd u (k + 1)) ii sp qu rF rT rD) := by rw [fn1, zB_t c_17]
        rw [e8] at hP
        have hl : lv_has ls 3 [(0, .ref h), (1, .int (nI u)), (2, .int (nI (k + 1 + 1)))] := lv_sub hl [1, 2, 0] rfl
        have e8 : ([(0, .ref h), (1, .int (nI u)), (2, .int (nI (k + 1 + 1)))] : List (Nat × Value)) = [(0, .ref h), (1, .int (nI u)), (2, .int (nI ((k + 1) + 1)))] := by rfl
        rw [e8] at hl
        exact ih (k + 1) (by omega) (by omega) _ _ ls hP hS hl

set_option maxHeartbeats 4000000 in
set_option maxRecDepth 100000 in
theorem lp_fn2 {p : Program} {l : Launch} {e : Env} {R : Room} {s : State} {m : MethodId} {args : Array Value} {below : List Frame} {meth : Method} {c : Code} {Q : State → Prop} {H0 : Heap} {cells slots : Nat} (g : gX) (s0 : Nat) (w : wd_M) (h : Nat) (hs0 : s0 ≤ h) (rf nt mo gb wr nr : Int32) (su pr ob ki fi se ta nd ii sp qu rF rT rD : Nat → Int32) (P : Nat) (hP4 : P ≤ 40) (u : Nat) (hu : u ≤ P) (A B : Nat → Nat) (hA9 : ∀ q, 1 ≤ q → q ≤ P → (nI 1 ≤ ki q ∧ ki q ≤ nI 6) → fi q = nI (A q) ∧ A q ≤ 40) (hB9 : ∀ q, 1 ≤ q → q ≤ P → (nI 2 ≤ ki q ∧ ki q ≤ nI 3) → se q = nI (B q) ∧ B q ≤ 40)  (hx : p.tables.exec = Jvm.exec) (hb : c.code = cX4_findNeeded) (hml : c.maxLocals = 3) (hown : s.vm.findClass RX4 = some m.cls) (hts : ∀ w ∈ Cond.code yX4_findNeeded cX4_findNeeded 3 (none) :: tg, w.before args s = true) (hK : gK g s) (h0s : s0 ≤ H0.size) (hRm : 1 ≤ R.frames ∧ 22 ≤ R.locals) (hcs : cells + 0 ≤ R.cells ∧ slots + 0 ≤ R.slots)  (kx : ∀ (H : Heap) (locs : List Loc) (ls : Array Slot), gP g (mW g w h rf nt (nI P) mo gb wr nr su pr ob ki fi se ta (fn2 ki A B u nd u) ii sp qu rF rT rD) H → gS s0 H0 H locs → lv_has ls 3 [(0, .ref h), (1, .int (nI u)), (2, .int (nI (u - u)))] → W p l e R s m args below meth c H locs cells slots Q (F0 m 115 ls [])) :
    ∀ (n t : Nat), t ≤ u → u + 1 ≤ t + n → ∀ (H : Heap) (locs : List Loc) (ls : Array Slot), gP g (mW g w h rf nt (nI P) mo gb wr nr su pr ob ki fi se ta (fn2 ki A B u nd t) ii sp qu rF rT rD) H → gS s0 H0 H locs → lv_has ls 3 [(0, .ref h), (1, .int (nI u)), (2, .int (nI (u - t)))] → W p l e R s m args below meth c H locs cells slots Q (F0 m 34 ls []) := by
  intro n
  induction n with
  | zero =>
    intro t h1 h2
    exact absurd h2 (by omega)
  | succ n ih =>
    intro t hi hin H locs ls hP hS hl
    refine lv_iload_n hx hb dX4_findNeeded_34 rfl (lv_at hl 2 rfl) ?_
    refine lv_if_le (tgt := 115) hx hb dX4_findNeeded_35 (by decide) (fun c_35 => ?_) (fun c_35 => ?_)
    · have c_35 := (nI_leI (a := (u - t)) (b := 0) (by omega) (by omega)).mp (show nI (u - t) ≤ nI 0 from c_35)
      have e9 : t = u := by omega
      try rw [e9] at hP
      try rw [e9] at hl
      exact kx H locs ls hP hS (lv_sub hl [0, 1, 2] rfl)
    · have c_35 := mt (nI_leI (a := (u - t)) (b := 0) (by omega) (by omega)).mpr (show ¬ (nI (u - t) ≤ nI 0) from c_35)
      refine lv_aload_n hx hb dX4_findNeeded_38 rfl (lv_at hl 0 rfl) ?_
      refine wd_get (ci := 5) (v := .ref (h + 8)) (C := RX4) (T := TX4) (N := 21) hx hb hts iwX4 hown hK.1 hP (mW_0) rfl 11 (by decide) (hts _ (tg_tail _ tw_434)) (fun _ h9 => h9) rfl dX4_findNeeded_39 ?_
      refine lv_iload_n hx hb dX4_findNeeded_42 rfl (lv_at hl 2 rfl) ?_
      refine wd_zldN hx hb hK.1 hP 1 (k := (u - t)) (mW_8) rfl (by omega) (by decide) dX4_findNeeded_43 ?_
      refine lv_if_eq (tgt := 74) hx hb dX4_findNeeded_44 (by decide) (fun c_44 => ?_) (fun c_44 => ?_)
      · have f1 : fn_a ki A (fn2 ki A B u nd t) (u - t) = fn2 ki A B u nd t := by rw [fn_a, if_neg (fun q => q.1 c_44)]
        rw [← f1] at hP
        refine lv_aload_n hx hb dX4_findNeeded_74 rfl (lv_at hl 0 rfl) ?_
        refine wd_get (ci := 5) (v := .ref (h + 8)) (C := RX4) (T := TX4) (N := 21) hx hb hts iwX4 hown hK.1 hP (mW_0) rfl 11 (by decide) (hts _ (tg_tail _ tw_434)) (fun _ h9 => h9) rfl dX4_findNeeded_75 ?_
        refine lv_iload_n hx hb dX4_findNeeded_78 rfl (lv_at hl 2 rfl) ?_
        refine wd_zldN hx hb hK.1 hP 1 (k := (u - t)) (mW_8) rfl (by omega) (by decide) dX4_findNeeded_79 ?_
        refine lv_if_eq (tgt := 109) hx hb dX4_findNeeded_80 (by decide) (fun c_80 => ?_) (fun c_80 => ?_)
        · refine lv_iinc (v := nI (u - (t + 1))) (lv' := [(2, .int (nI (u - (t + 1)))), (0, .ref h), (1, .int (nI u))]) hx hb dX4_findNeeded_109 hl (k := 2) rfl (by rw [show u - t = (u - (t + 1)) + 1 by omega]; exact pk_m1 _) (by decide) rfl (fun ls hl => ?_)
          refine lv_goto (tgt := 34) hx hb dX4_findNeeded_112 (by decide) ?_
          have e8 : (mW g w h rf nt (nI P) mo gb wr nr su pr ob ki fi se ta (fn_a ki A (fn2 ki A B u nd t) (u - t)) ii sp qu rF rT rD) = (mW g w h rf nt (nI P) mo gb wr nr su pr ob ki fi se ta (fn2 ki A B u nd (t + 1)) ii sp qu rF rT rD) := by rw [fn2, fn_b, if_neg (fun q => q.1 c_80)]
          rw [e8] at hP
          have hl : lv_has ls 3 [(0, .ref h), (1, .int (nI u)), (2, .int (nI (u - (t + 1))))] := lv_sub hl [1, 2, 0] rfl
          exact ih (t + 1) (by omega) (by omega) _ _ ls hP hS hl
        · refine lv_aload_n hx hb dX4_findNeeded_83 rfl (lv_at hl 0 rfl) ?_
          refine wd_get (ci := 5) (v := .ref (h + 4)) (C := RX4) (T := TX4) (N := 21) hx hb hts iwX4 hown hK.1 hP (mW_0) rfl 5 (by decide) (hts _ (tg_tail _ tw_428)) (fun _ h9 => h9) rfl dX4_findNeeded_84 ?_
          refine lv_iload_n hx hb dX4_findNeeded_87 rfl (lv_at hl 2 rfl) ?_
          refine wd_ildN hx hb hK.1 hP 0 (k := (u - t)) (mW_4) rfl (by omega) (by decide) dX4_findNeeded_88 ?_
          refine lv_iconst (v := nI 2) hx hb dX4_findNeeded_89 (by decide) ?_
          refine lv_iconst (v := nI 3) hx hb dX4_findNeeded_90 (by decide) ?_
          refine cr_Si (As := [.int (ki (u - t)), .int (nI 2), .int (nI 3)]) (rest := []) ⟨hx, hb, hml, hown, hts⟩ (c_X4_isBetween l g s0 (mW g w h rf nt (nI P) mo gb wr nr su pr ob ki fi se ta (fn_a ki A (fn2 ki A B u nd t) (u - t)) ii sp qu rF rT rD) (ki (u - t)) (nI 2) (nI 3)) (cw_S 3 hts tg_tail tw_499 tw_500 tw_4 tw_501 rfl rfl (by decide +kernel) ⟨Nat.le_trans (by decide) hRm.1, Nat.le_trans (by decide) hRm.2⟩) hK hP h0s hS rfl hl.1 rfl (Nat.le_of_ble_eq_true rfl) dX4_findNeeded_91 hcs (fun r9 w9 H locs hw hP hS => ?_)
          obtain ⟨e_r9, hw9⟩ := hw
          rw [hw9] at hP
          subst e_r9
          refine lv_if_eq (tgt := 109) hx hb dX4_findNeeded_94 (by decide) (fun c_94 => ?_) (fun c_94 => ?_)
          · have c_94 := zB_0.mp c_94
            refine lv_iinc (v := nI (u - (t + 1))) (lv' := [(2, .int (nI (u - (t + 1)))), (0, .ref h), (1, .int (nI u))]) hx hb dX4_findNeeded_109 hl (k := 2) rfl (by rw [show u - t = (u - (t + 1)) + 1 by omega]; exact pk_m1 _) (by decide) rfl (fun ls hl => ?_)
            refine lv_goto (tgt := 34) hx hb dX4_findNeeded_112 (by decide) ?_
            have e8 : (mW g w h rf nt (nI P) mo gb wr nr su pr ob ki fi se ta (fn_a ki A (fn2 ki A B u nd t) (u - t)) ii sp qu rF rT rD) = (mW g w h rf nt (nI P) mo gb wr nr su pr ob ki fi se ta (fn2 ki A B u nd (t + 1)) ii sp qu rF rT rD) := by rw [fn2, fn_b, if_neg (fun q => c_94 q.2)]
            rw [e8] at hP
            have hl : lv_has ls 3 [(0, .ref h), (1, .int (nI u)), (2, .int (nI (u - (t + 1))))] := lv_sub hl [1, 2, 0] rfl
            exact ih (t + 1) (by omega) (by omega) _ _ ls hP hS hl
          · have c_94 := zB_1.mp c_94
            refine lv_aload_n hx hb dX4_findNeeded_97 rfl (lv_at hl 0 rfl) ?_
            refine wd_get (ci := 5) (v := .ref (h + 8)) (C := RX4) (T := TX4) (N := 21) hx hb hts iwX4 hown hK.1 hP (mW_0) rfl 11 (by decide) (hts _ (tg_tail _ tw_434)) (fun _ h9 => h9) rfl dX4_findNeeded_98 ?_
            refine lv_aload_n hx hb dX4_findNeeded_101 rfl (lv_at hl 0 rfl) ?_
            refine wd_get (ci := 5) (v := .ref (h + 6)) (C := RX4) (T := TX4) (N := 21) hx hb hts iwX4 hown hK.1 hP (mW_0) rfl 7 (by decide) (hts _ (tg_tail _ tw_430)) (fun _ h9 => h9) rfl dX4_findNeeded_102 ?_
            refine lv_iload_n hx hb dX4_findNeeded_105 rfl (lv_at hl 2 rfl) ?_
            refine wd_ildN hx hb hK.1 hP 0 (k := (u - t)) (mW_6) rfl (by omega) (by decide) dX4_findNeeded_106 ?_
            refine wd_ti (x' := nI (B (u - t))) ((hB9 (u - t) (by omega) (by omega) c_94).1) ?_
            refine lv_iconst (v := nI 1) hx hb dX4_findNeeded_107 (by decide) ?_
            refine wd_zstN hx hb hK.1 hP hS (by omega) 1 (k := (B (u - t))) (mW_8) rfl (by decide) (by have := (hB9 (u - t) (by omega) (by omega) c_94).2; omega) (by decide) dX4_findNeeded_108 (fun H locs hP hS hz => ?_)
            have hP : gP g (mW g w h rf nt (nI P) mo gb wr nr su pr ob ki fi se ta (upd (fn_a ki A (fn2 ki A B u nd t) (u - t)) (B (u - t)) (nI 1)) ii sp qu rF rT rD) H := by have h9 : gP g (wd_up (mW g w h rf nt (nI P) mo gb wr nr su pr ob ki fi se ta (fn_a ki A (fn2 ki A B u nd t) (u - t)) ii sp qu rF rT rD) (h + 8) (wd_iA (g.2 1) 41 (upd (fn_a ki A (fn2 ki A B u nd t) (u - t)) (B (u - t)) (nI 1)))) H := hP; rw [mW_s8] at h9; exact h9
            refine lv_iinc (v := nI (u - (t + 1))) (lv' := [(2, .int (nI (u - (t + 1)))), (0, .ref h), (1, .int (nI u))]) hx hb dX4_findNeeded_109 hl (k := 2) rfl (by rw [show u - t = (u - (t + 1)) + 1 by omega]; exact pk_m1 _) (by decide) rfl (fun ls hl => ?_)
            refine lv_goto (tgt := 34) hx hb dX4_findNeeded_112 (by decide) ?_
            have e8 : (mW g w h rf nt (nI P) mo gb wr nr su pr ob ki fi se ta (upd (fn_a ki A (fn2 ki A B u nd t) (u - t)) (B (u - t)) (nI 1)) ii sp qu rF rT rD) = (mW g w h rf nt (nI P) mo gb wr nr su pr ob ki fi se ta (fn2 ki A B u nd (t + 1)) ii sp qu rF rT rD) := by rw [fn2, fn_b, if_pos ⟨c_80, c_94⟩]
            rw [e8] at hP
            have hl : lv_has ls 3 [(0, .ref h), (1, .int (nI u)), (2, .int (nI (u - (t + 1))))] := lv_sub hl [1, 2, 0] rfl
            exact ih (t + 1) (by omega) (by omega) _ _ ls hP hS hl
      · refine lv_aload_n hx hb dX4_findNeeded_47 rfl (lv_at hl 0 rfl) ?_
        refine wd_get (ci := 5) (v := .ref (h + 4)) (C := RX4) (T := TX4) (N := 21) hx hb hts iwX4 hown hK.1 hP (mW_0) rfl 5 (by decide) (hts _ (tg_tail _ tw_428)) (fun _ h9 => h9) rfl dX4_findNeeded_48 ?_
        refine lv_iload_n hx hb dX4_findNeeded_51 rfl (lv_at hl 2 rfl) ?_
        refine wd_ildN hx hb hK.1 hP 0 (k := (u - t)) (mW_4) rfl (by omega) (by decide) dX4_findNeeded_52 ?_
        refine lv_iconst (v := nI 1) hx hb dX4_findNeeded_53 (by decide) ?_
        refine lv_bipush (v := nI 6) hx hb dX4_findNeeded_54 (by decide) ?_
        refine cr_Si (As := [.int (ki (u - t)), .int (nI 1), .int (nI 6)]) (rest := []) ⟨hx, hb, hml, hown, hts⟩ (c_X4_isBetween l g s0 (mW g w h rf nt (nI P) mo gb wr nr su pr ob ki fi se ta (fn2 ki A B u nd t) ii sp qu rF rT rD) (ki (u - t)) (nI 1) (nI 6)) (cw_S 3 hts tg_tail tw_499 tw_500 tw_4 tw_501 rfl rfl (by decide +kernel) ⟨Nat.le_trans (by decide) hRm.1, Nat.le_trans (by decide) hRm.2⟩) hK hP h0s hS rfl hl.1 rfl (Nat.le_of_ble_eq_true rfl) dX4_findNeeded_56 hcs (fun r9 w9 H locs hw hP hS => ?_)
        obtain ⟨e_r9, hw9⟩ := hw
        rw [hw9] at hP
        subst e_r9
        refine lv_if_eq (tgt := 74) hx hb dX4_findNeeded_59 (by decide) (fun c_59 => ?_) (fun c_59 => ?_)
        · have c_59 := zB_0.mp c_59
          have f1 : fn_a ki A (fn2 ki A B u nd t) (u - t) = fn2 ki A B u nd t := by rw [fn_a, if_neg (fun q => c_59 q.2)]
          rw [← f1] at hP
          refine lv_aload_n hx hb dX4_findNeeded_74 rfl (lv_at hl 0 rfl) ?_
          refine wd_get (ci := 5) (v := .ref (h + 8)) (C := RX4) (T := TX4) (N := 21) hx hb hts iwX4 hown hK.1 hP (mW_0) rfl 11 (by decide) (hts _ (tg_tail _ tw_434)) (fun _ h9 => h9) rfl dX4_findNeeded_75 ?_
          refine lv_iload_n hx hb dX4_findNeeded_78 rfl (lv_at hl 2 rfl) ?_
          refine wd_zldN hx hb hK.1 hP 1 (k := (u - t)) (mW_8) rfl (by omega) (by decide) dX4_findNeeded_79 ?_
          refine lv_if_eq (tgt := 109) hx hb dX4_findNeeded_80 (by decide) (fun c_80 => ?_) (fun c_80 => ?_)
          · refine lv_iinc (v := nI (u - (t + 1))) (lv' := [(2, .int (nI (u - (t + 1)))), (0, .ref h), (1, .int (nI u))]) hx hb dX4_findNeeded_109 hl (k := 2) rfl (by rw [show u - t = (u - (t + 1)) + 1 by omega]; exact pk_m1 _) (by decide) rfl (fun ls hl => ?_)
            refine lv_goto (tgt := 34) hx hb dX4_findNeeded_112 (by decide) ?_
            have e8 : (mW g w h rf nt (nI P) mo gb wr nr su pr ob ki fi se ta (fn_a ki A (fn2 ki A B u nd t) (u - t)) ii sp qu rF rT rD) = (mW g w h rf nt (nI P) mo gb wr nr su pr ob ki fi se ta (fn2 ki A B u nd (t + 1)) ii sp qu rF rT rD) := by rw [fn2, fn_b, if_neg (fun q => q.1 c_80)]
            rw [e8] at hP
            have hl : lv_has ls 3 [(0, .ref h), (1, .int (nI u)), (2, .int (nI (u - (t + 1))))] := lv_sub hl [1, 2, 0] rfl
            exact ih (t + 1) (by omega) (by omega) _ _ ls hP hS hl
          · refine lv_aload_n hx hb dX4_findNeeded_83 rfl (lv_at hl 0 rfl) ?_
            refine wd_get (ci := 5) (v := .ref (h + 4)) (C := RX4) (T := TX4) (N := 21) hx hb hts iwX4 hown hK.1 hP (mW_0) rfl 5 (by decide) (hts _ (tg_tail _ tw_428)) (fun _ h9 => h9) rfl dX4_findNeeded_84 ?_
            refine lv_iload_n hx hb dX4_findNeeded_87 rfl (lv_at hl 2 rfl) ?_
            refine wd_ildN hx hb hK.1 hP 0 (k := (u - t)) (mW_4) rfl (by omega) (by decide) dX4_findNeeded_88 ?_
            refine lv_iconst (v := nI 2) hx hb dX4_findNeeded_89 (by decide) ?_
            refine lv_iconst (v := nI 3) hx hb dX4_findNeeded_90 (by decide) ?_
            refine cr_Si (As := [.int (ki (u - t)), .int (nI 2), .int (nI 3)]) (rest := []) ⟨hx, hb, hml, hown, hts⟩ (c_X4_isBetween l g s0 (mW g w h rf nt (nI P) mo gb wr nr su pr ob ki fi se ta (fn_a ki A (fn2 ki A B u nd t) (u - t)) ii sp qu rF rT rD) (ki (u - t)) (nI 2) (nI 3)) (cw_S 3 hts tg_tail tw_499 tw_500 tw_4 tw_501 rfl rfl (by decide +kernel) ⟨Nat.le_trans (by decide) hRm.1, Nat.le_trans (by decide) hRm.2⟩) hK hP h0s hS rfl hl.1 rfl (Nat.le_of_ble_eq_true rfl) dX4_findNeeded_91 hcs (fun r9 w9 H locs hw hP hS => ?_)
            obtain ⟨e_r9, hw9⟩ := hw
            rw [hw9] at hP
            subst e_r9
            refine lv_if_eq (tgt := 109) hx hb dX4_findNeeded_94 (by decide) (fun c_94 => ?_) (fun c_94 => ?_)
            · have c_94 := zB_0.mp c_94
              refine lv_iinc (v := nI (u - (t + 1))) (lv' := [(2, .int (nI (u - (t + 1)))), (0, .ref h), (1, .int (nI u))]) hx hb dX4_findNeeded_109 hl (k := 2) rfl (by rw [show u - t = (u - (t + 1)) + 1 by omega]; exact pk_m1 _) (by decide) rfl (fun ls hl => ?_)
              refine lv_goto (tgt := 34) hx hb dX4_findNeeded_112 (by decide) ?_
              have e8 : (mW g w h rf nt (nI P) mo gb wr nr su pr ob ki fi se ta (fn_a ki A (fn2 ki A B u nd t) (u - t)) ii sp qu rF rT rD) = (mW g w h rf nt (nI P) mo gb wr nr su pr ob ki fi se ta (fn2 ki A B u nd (t + 1)) ii sp qu rF rT rD) := by rw [fn2, fn_b, if_neg (fun q => c_94 q.2)]
              rw [e8] at hP
              have hl : lv_has ls 3 [(0, .ref h), (1, .int (nI u)), (2, .int (nI (u - (t + 1))))] := lv_sub hl [1, 2, 0] rfl
              exact ih (t + 1) (by omega) (by omega) _ _ ls hP hS hl
            · have c_94 := zB_1.mp c_94
              refine lv_aload_n hx hb dX4_findNeeded_97 rfl (lv_at hl 0 rfl) ?_
              refine wd_get (ci := 5) (v := .ref (h + 8)) (C := RX4) (T := TX4) (N := 21) hx hb hts iwX4 hown hK.1 hP (mW_0) rfl 11 (by decide) (hts _ (tg_tail _ tw_434)) (fun _ h9 => h9) rfl dX4_findNeeded_98 ?_
              refine lv_aload_n hx hb dX4_findNeeded_101 rfl (lv_at hl 0 rfl) ?_
              refine wd_get (ci := 5) (v := .ref (h + 6)) (C := RX4) (T := TX4) (N := 21) hx hb hts iwX4 hown hK.1 hP (mW_0) rfl 7 (by decide) (hts _ (tg_tail _ tw_430)) (fun _ h9 => h9) rfl dX4_findNeeded_102 ?_
              refine lv_iload_n hx hb dX4_findNeeded_105 rfl (lv_at hl 2 rfl) ?_
              refine wd_ildN hx hb hK.1 hP 0 (k := (u - t)) (mW_6) rfl (by omega) (by decide) dX4_findNeeded_106 ?_
              refine wd_ti (x' := nI (B (u - t))) ((hB9 (u - t) (by omega) (by omega) c_94).1) ?_
              refine lv_iconst (v := nI 1) hx hb dX4_findNeeded_107 (by decide) ?_
              refine wd_zstN hx hb hK.1 hP hS (by omega) 1 (k := (B (u - t))) (mW_8) rfl (by decide) (by have := (hB9 (u - t) (by omega) (by omega) c_94).2; omega) (by decide) dX4_findNeeded_108 (fun H locs hP hS hz => ?_)
              have hP : gP g (mW g w h rf nt (nI P) mo gb wr nr su pr ob ki fi se ta (upd (fn_a ki A (fn2 ki A B u nd t) (u - t)) (B (u - t)) (nI 1)) ii sp qu rF rT rD) H := by have h9 : gP g (wd_up (mW g w h rf nt (nI P) mo gb wr nr su pr ob ki fi se ta (fn_a ki A (fn2 ki A B u nd t) (u - t)) ii sp qu rF rT rD) (h + 8) (wd_iA (g.2 1) 41 (upd (fn_a ki A (fn2 ki A B u nd t) (u - t)) (B (u - t)) (nI 1)))) H := hP; rw [mW_s8] at h9; exact h9
              refine lv_iinc (v := nI (u - (t + 1))) (lv' := [(2, .int (nI (u - (t + 1)))), (0, .ref h), (1, .int (nI u))]) hx hb dX4_findNeeded_109 hl (k := 2) rfl (by rw [show u - t = (u - (t + 1)) + 1 by omega]; exact pk_m1 _) (by decide) rfl (fun ls hl => ?_)
              refine lv_goto (tgt := 34) hx hb dX4_findNeeded_112 (by decide) ?_
              have e8 : (mW g w h rf nt (nI P) mo gb wr nr su pr ob ki fi se ta (upd (fn_a ki A (fn2 ki A B u nd t) (u - t)) (B (u - t)) (nI 1)) ii sp qu rF rT rD) = (mW g w h rf nt (nI P) mo gb wr nr su pr ob ki fi se ta (fn2 ki A B u nd (t + 1)) ii sp qu rF rT rD) := by rw [fn2, fn_b, if_pos ⟨c_80, c_94⟩]
              rw [e8] at hP
              have hl : lv_has ls 3 [(0, .ref h), (1, .int (nI u)), (2, .int (nI (u - (t + 1))))] := lv_sub hl [1, 2, 0] rfl
              exact ih (t + 1) (by omega) (by omega) _ _ ls hP hS hl
        · have c_59 := zB_1.mp c_59
          refine lv_aload_n hx hb dX4_findNeeded_62 rfl (lv_at hl 0 rfl) ?_
          refine wd_get (ci := 5) (v := .ref (h + 8)) (C := RX4) (T := TX4) (N := 21) hx hb hts iwX4 hown hK.1 hP (mW_0) rfl 11 (by decide) (hts _ (tg_tail _ tw_434)) (fun _ h9 => h9) rfl dX4_findNeeded_63 ?_
          refine lv_aload_n hx hb dX4_findNeeded_66 rfl (lv_at hl 0 rfl) ?_
          refine wd_get (ci := 5) (v := .ref (h + 5)) (C := RX4) (T := TX4) (N := 21) hx hb hts iwX4 hown hK.1 hP (mW_0) rfl 6 (by decide) (hts _ (tg_tail _ tw_429)) (fun _ h9 => h9) rfl dX4_findNeeded_67 ?_
          refine lv_iload_n hx hb dX4_findNeeded_70 rfl (lv_at hl 2 rfl) ?_
          refine wd_ildN hx hb hK.1 hP 0 (k := (u - t)) (mW_5) rfl (by omega) (by decide) dX4_findNeeded_71 ?_
          refine wd_ti (x' := nI (A (u - t))) ((hA9 (u - t) (by omega) (by omega) c_59).1) ?_
          refine lv_iconst (v := nI 1) hx hb dX4_findNeeded_72 (by decide) ?_
          refine wd_zstN hx hb hK.1 hP hS (by omega) 1 (k := (A (u - t))) (mW_8) rfl (by decide) (by have := (hA9 (u - t) (by omega) (by omega) c_59).2; omega) (by decide) dX4_findNeeded_73 (fun H locs hP hS hz => ?_)
          have hP : gP g (mW g w h rf nt (nI P) mo gb wr nr su pr ob ki fi se ta (upd (fn2 ki A B u nd t) (A (u - t)) (nI 1)) ii sp qu rF rT rD) H := by have h9 : gP g (wd_up (mW g w h rf nt (nI P) mo gb wr nr su pr ob ki fi se ta (fn2 ki A B u nd t) ii sp qu rF rT rD) (h + 8) (wd_iA (g.2 1) 41 (upd (fn2 ki A B u nd t) (A (u - t)) (nI 1)))) H := hP; rw [mW_s8] at h9; exact h9
          have f1 : fn_a ki A (fn2 ki A B u nd t) (u - t) = upd (fn2 ki A B u nd t) (A (u - t)) (nI 1) := by rw [fn_a, if_pos ⟨c_44, c_59⟩]
          rw [← f1] at hP
          refine lv_aload_n hx hb dX4_findNeeded_74 rfl (lv_at hl 0 rfl) ?_
          refine wd_get (ci := 5) (v := .ref (h + 8)) (C := RX4) (T := TX4) (N := 21) hx hb hts iwX4 hown hK.1 hP (mW_0) rfl 11 (by decide) (hts _ (tg_tail _ tw_434)) (fun _ h9 => h9) rfl dX4_findNeeded_75 ?_
          refine lv_iload_n hx hb dX4_findNeeded_78 rfl (lv_at hl 2 rfl) ?_
          refine wd_zldN hx hb hK.1 hP 1 (k := (u - t)) (mW_8) rfl (by omega) (by decide) dX4_findNeeded_79 ?_
          refine lv_if_eq (tgt := 109) hx hb dX4_findNeeded_80 (by decide) (fun c_80 => ?_) (fun c_80 => ?_)
          · refine lv_iinc (v := nI (u - (t + 1))) (lv' := [(2, .int (nI (u - (t + 1)))), (0, .ref h), (1, .int (nI u))]) hx hb dX4_findNeeded_109 hl (k := 2) rfl (by rw [show u - t = (u - (t + 1)) + 1 by omega]; exact pk_m1 _) (by decide) rfl (fun ls hl => ?_)
            refine lv_goto (tgt := 34) hx hb dX4_findNeeded_112 (by decide) ?_
            have e8 : (mW g w h rf nt (nI P) mo gb wr nr su pr ob ki fi se ta (fn_a ki A (fn2 ki A B u nd t) (u - t)) ii sp qu rF rT rD) = (mW g w h rf nt (nI P) mo gb wr nr su pr ob ki fi se ta (fn2 ki A B u nd (t + 1)) ii sp qu rF rT rD) := by rw [fn2, fn_b, if_neg (fun q => q.1 c_80)]
            rw [e8] at hP
            have hl : lv_has ls 3 [(0, .ref h), (1, .int (nI u)), (2, .int (nI (u - (t + 1))))] := lv_sub hl [1, 2, 0] rfl
            exact ih (t + 1) (by omega) (by omega) _ _ ls hP hS hl
          · refine lv_aload_n hx hb dX4_findNeeded_83 rfl (lv_at hl 0 rfl) ?_
            refine wd_get (ci := 5) (v := .ref (h + 4)) (C := RX4) (T := TX4) (N := 21) hx hb hts iwX4 hown hK.1 hP (mW_0) rfl 5 (by decide) (hts _ (tg_tail _ tw_428)) (fun _ h9 => h9) rfl dX4_findNeeded_84 ?_
            refine lv_iload_n hx hb dX4_findNeeded_87 rfl (lv_at hl 2 rfl) ?_
            refine wd_ildN hx hb hK.1 hP 0 (k := (u - t)) (mW_4) rfl (by omega) (by decide) dX4_findNeeded_88 ?_
            refine lv_iconst (v := nI 2) hx hb dX4_findNeeded_89 (by decide) ?_
            refine lv_iconst (v := nI 3) hx hb dX4_findNeeded_90 (by decide) ?_
            refine cr_Si (As := [.int (ki (u - t)), .int (nI 2), .int (nI 3)]) (rest := []) ⟨hx, hb, hml, hown, hts⟩ (c_X4_isBetween l g s0 (mW g w h rf nt (nI P) mo gb wr nr su pr ob ki fi se ta (fn_a ki A (fn2 ki A B u nd t) (u - t)) ii sp qu rF rT rD) (ki (u - t)) (nI 2) (nI 3)) (cw_S 3 hts tg_tail tw_499 tw_500 tw_4 tw_501 rfl rfl (by decide +kernel) ⟨Nat.le_trans (by decide) hRm.1, Nat.le_trans (by decide) hRm.2⟩) hK hP h0s hS rfl hl.1 rfl (Nat.le_of_ble_eq_true rfl) dX4_findNeeded_91 hcs (fun r9 w9 H locs hw hP hS => ?_)
            obtain ⟨e_r9, hw9⟩ := hw
            rw [hw9] at hP
            subst e_r9
            refine lv_if_eq (tgt := 109) hx hb dX4_findNeeded_94 (by decide) (fun c_94 => ?_) (fun c_94 => ?_)
            · have c_94 := zB_0.mp c_94
              refine lv_iinc (v := nI (u - (t + 1))) (lv' := [(2, .int (nI (u - (t + 1)))), (0, .ref h), (1, .int (nI u))]) hx hb dX4_findNeeded_109 hl (k := 2) rfl (by rw [show u - t = (u - (t + 1)) + 1 by omega]; exact pk_m1 _) (by decide) rfl (fun ls hl => ?_)
              refine lv_goto (tgt := 34) hx hb dX4_findNeeded_112 (by decide) ?_
              have e8 : (mW g w h rf nt (nI P) mo gb wr nr su pr ob ki fi se ta (fn_a ki A (fn2 ki A B u nd t) (u - t)) ii sp qu rF rT rD) = (mW g w h rf nt (nI P) mo gb wr nr su pr ob ki fi se ta (fn2 ki A B u nd (t + 1)) ii sp qu rF rT rD) := by rw [fn2, fn_b, if_neg (fun q => c_94 q.2)]
              rw [e8] at hP
              have hl : lv_has ls 3 [(0, .ref h), (1, .int (nI u)), (2, .int (nI (u - (t + 1))))] := lv_sub hl [1, 2, 0] rfl
              exact ih (t + 1) (by omega) (by omega) _ _ ls hP hS hl
            · have c_94 := zB_1.mp c_94
              refine lv_aload_n hx hb dX4_findNeeded_97 rfl (lv_at hl 0 rfl) ?_
              refine wd_get (ci := 5) (v := .ref (h + 8)) (C := RX4) (T := TX4) (N := 21) hx hb hts iwX4 hown hK.1 hP (mW_0) rfl 11 (by decide) (hts _ (tg_tail _ tw_434)) (fun _ h9 => h9) rfl dX4_findNeeded_98 ?_
              refine lv_aload_n hx hb dX4_findNeeded_101 rfl (lv_at hl 0 rfl) ?_
              refine wd_get (ci := 5) (v := .ref (h + 6)) (C := RX4) (T := TX4) (N := 21) hx hb hts iwX4 hown hK.1 hP (mW_0) rfl 7 (by decide) (hts _ (tg_tail _ tw_430)) (fun _ h9 => h9) rfl dX4_findNeeded_102 ?_
              refine lv_iload_n hx hb dX4_findNeeded_105 rfl (lv_at hl 2 rfl) ?_
              refine wd_ildN hx hb hK.1 hP 0 (k := (u - t)) (mW_6) rfl (by omega) (by decide) dX4_findNeeded_106 ?_
              refine wd_ti (x' := nI (B (u - t))) ((hB9 (u - t) (by omega) (by omega) c_94).1) ?_
              refine lv_iconst (v := nI 1) hx hb dX4_findNeeded_107 (by decide) ?_
              refine wd_zstN hx hb hK.1 hP hS (by omega) 1 (k := (B (u - t))) (mW_8) rfl (by decide) (by have := (hB9 (u - t) (by omega) (by omega) c_94).2; omega) (by decide) dX4_findNeeded_108 (fun H locs hP hS hz => ?_)
              have hP : gP g (mW g w h rf nt (nI P) mo gb wr nr su pr ob ki fi se ta (upd (fn_a ki A (fn2 ki A B u nd t) (u - t)) (B (u - t)) (nI 1)) ii sp qu rF rT rD) H := by have h9 : gP g (wd_up (mW g w h rf nt (nI P) mo gb wr nr su pr ob ki fi se ta (fn_a ki A (fn2 ki A B u nd t) (u - t)) ii sp qu rF rT rD) (h + 8) (wd_iA (g.2 1) 41 (upd (fn_a ki A (fn2 ki A B u nd t) (u - t)) (B (u - t)) (nI 1)))) H := hP; rw [mW_s8] at h9; exact h9
              refine lv_iinc (v := nI (u - (t + 1))) (lv' := [(2, .int (nI (u - (t + 1)))), (0, .ref h), (1, .int (nI u))]) hx hb dX4_findNeeded_109 hl (k := 2) rfl (by rw [show u - t = (u - (t + 1)) + 1 by omega]; exact pk_m1 _) (by decide) rfl (fun ls hl => ?_)
              refine lv_goto (tgt := 34) hx hb dX4_findNeeded_112 (by decide) ?_
              have e8 : (mW g w h rf nt (nI P) mo gb wr nr su pr ob ki fi se ta (upd (fn_a ki A (fn2 ki A B u nd t) (u - t)) (B (u - t)) (nI 1)) ii sp qu rF rT rD) = (mW g w h rf nt (nI P) mo gb wr nr su pr ob ki fi se ta (fn2 ki A B u nd (t + 1)) ii sp qu rF rT rD) := by rw [fn2, fn_b, if_pos ⟨c_80, c_94⟩]
              rw [e8] at hP
              have hl : lv_has ls 3 [(0, .ref h), (1, .int (nI u)), (2, .int (nI (u - (t + 1))))] := lv_sub hl [1, 2, 0] rfl
              exact ih (t + 1) (by omega) (by omega) _ _ ls hP hS hl

set_option maxHeartbeats 4000000 in
set_option maxRecDepth 100000 in
theorem c_X4_findNeeded (l : Launch) (g : gX) (s0 : Nat) (w : wd_M) (h : Nat) (hs0 : s0 ≤ h) (rf nt mo gb wr nr : Int32) (su pr ob ki fi se ta nd ii sp qu rF rT rD : Nat → Int32) (P : Nat) (hP4 : P ≤ 40) (u : Nat) (hu : u ≤ P) (A B : Nat → Nat) (hA9 : ∀ q, 1 ≤ q → q ≤ P → (nI 1 ≤ ki q ∧ ki q ≤ nI 6) → fi q = nI (A q) ∧ A q ≤ 40) (hB9 : ∀ q, 1 ≤ q → q ≤ P → (nI 2 ≤ ki q ∧ ki q ≤ nI 3) → se q = nI (B q) ∧ B q ≤ 40)  : Met l yX4_findNeeded (Cond.code yX4_findNeeded cX4_findNeeded 3 (none) :: tg) ({ frames := 1, cells := 0, slots := 0, locals := 22 }) (cP g s0 (mW g w h rf nt (nI P) mo gb wr nr su pr ob ki fi se ta nd ii sp qu rF rT rD) [.ref h, .int (nI u)]) (cV g s0 (fun w' => w' = (mW g w h rf nt (nI P) mo gb wr nr su pr ob ki fi se ta (fn2 ki A B u (fn1 nd u P) u) ii sp qu rF rT rD))) 0 0 (cA s0) := by
  refine Met.ofW (cc := cX4_findNeeded) (maxL := 3) (ret := none) (by decide) rfl ?_
  intro p e s m args below meth c s₁ B9 hml hv
  obtain ⟨rfl, h0s, hP, hK⟩ := hv
  have hx := B9.exec
  have hb := B9.bytes
  have hr := B9.returns
  have hts := atoms_spec (ws := Cond.code yX4_findNeeded cX4_findNeeded 3 (none) :: tg) B9.pre
  have hown : s.vm.findClass RX4 = some m.cls := findClass_of_methodNamed B9.named
  have hlocks := B9.notSynchronized
  have hS : gS s0 s.heap s.heap [] := va_S.rf
  have hRm : 1 ≤ (headSpec (Cond.code yX4_findNeeded cX4_findNeeded 3 (none) :: tg) ({ frames := 1, cells := 0, slots := 0, locals := 22 })).room.frames ∧ 22 ≤ (headSpec (Cond.code yX4_findNeeded cX4_findNeeded 3 (none) :: tg) ({ frames := 1, cells := 0, slots := 0, locals := 22 })).room.locals := ⟨Nat.le_refl _, Nat.le_refl _⟩
  have hcs : 0 + 0 ≤ (headSpec (Cond.code yX4_findNeeded cX4_findNeeded 3 (none) :: tg) ({ frames := 1, cells := 0, slots := 0, locals := 22 })).room.cells ∧ 0 + 0 ≤ (headSpec (Cond.code yX4_findNeeded cX4_findNeeded 3 (none) :: tg) ({ frames := 1, cells := 0, slots := 0, locals := 22 })).room.slots := ⟨Nat.zero_le _, Nat.zero_le _⟩
  have hl := lv_entry ([.ref h, .int (nI u)]) (n := 3) (Nat.le_of_ble_eq_true rfl)
  rw [lg_entry_eq]
  generalize (lg_sl ([.ref h, .int (nI u)]) ++ List.replicate (3 - (lg_sl ([.ref h, .int (nI u)])).length) Slot.unset).toArray = ls at hl ⊢
  have hl : lv_has ls 3 [(0, .ref h), (1, .int (nI u))] := hl
  refine lv_iconst (v := nI 1) hx hb dX4_findNeeded_0 (by decide) ?_
  refine lv_istore_n (lv' := [(2, .int (nI 1)), (0, .ref h), (1, .int (nI u))]) hx hb dX4_findNeeded_1 rfl hl (by decide) rfl (fun ls hl => ?_)
  have e8 : (mW g w h rf nt (nI P) mo gb wr nr su pr ob ki fi se ta nd ii sp qu rF rT rD) = (mW g w h rf nt (nI P) mo gb wr nr su pr ob ki fi se ta (fn1 nd u 0) ii sp qu rF rT rD) := by rfl
  rw [e8] at hP
  have hl : lv_has ls 3 [(0, .ref h), (1, .int (nI u)), (2, .int (nI 1))] := lv_sub hl [1, 2, 0] rfl
  have e8 : ([(0, .ref h), (1, .int (nI u)), (2, .int (nI 1))] : List (Nat × Value)) = [(0, .ref h), (1, .int (nI u)), (2, .int (nI (0 + 1)))] := by rfl
  rw [e8] at hl
  refine lp_fn1 g s0 w h hs0 rf nt mo gb wr nr su pr ob ki fi se ta nd ii sp qu rF rT rD P hP4 u hu hx hb hml hown hts hK h0s hRm hcs  ?_ (P + 1) 0 (by omega) (by omega) _ _ ls hP hS hl
  intro H locs ls hP hS hl
  refine lv_iload_n hx hb dX4_findNeeded_32 rfl (lv_at hl 1 rfl) ?_
  refine lv_istore_n (lv' := [(2, .int (nI u)), (0, .ref h), (1, .int (nI u))]) hx hb dX4_findNeeded_33 rfl hl (by decide) rfl (fun ls hl => ?_)
  have e8 : (mW g w h rf nt (nI P) mo gb wr nr su pr ob ki fi se ta (fn1 nd u P) ii sp qu rF rT rD) = (mW g w h rf nt (nI P) mo gb wr nr su pr ob ki fi se ta (fn2 ki A B u (fn1 nd u P) 0) ii sp qu rF rT rD) := by rfl
  rw [e8] at hP
  have hl : lv_has ls 3 [(0, .ref h), (1, .int (nI u)), (2, .int (nI u))] := lv_sub hl [1, 2, 0] rfl
  have e8 : ([(0, .ref h), (1, .int (nI u)), (2, .int (nI u))] : List (Nat × Value)) = [(0, .ref h), (1, .int (nI u)), (2, .int (nI (u - 0)))] := by rfl
  rw [e8] at hl
  refine lp_fn2 g s0 w h hs0 rf nt mo gb wr nr su pr ob ki fi se ta (fn1 nd u P) ii sp qu rF rT rD P hP4 u hu A B hA9 hB9 hx hb hml hown hts hK h0s hRm hcs  ?_ (u + 1) 0 (by omega) (by omega) _ _ ls hP hS hl
  intro H locs ls hP hS hl
  exact W.vret hx hb hr (fun t9 ht hW => ⟨⟨(mW g w h rf nt (nI P) mo gb wr nr su pr ob ki fi se ta (fn2 ki A B u (fn1 nd u P) u) ii sp qu rF rT rD), rfl, rfl, cB_of ht hP⟩, hS.F ht⟩) hS.2.2 dX4_findNeeded_115

