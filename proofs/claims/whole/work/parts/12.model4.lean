/-! THE REFERENCE: from, findGraph -/
theorem zB_t {P : Prop} [Decidable P] (h : P) : zB P = nI 1 := by rw [zB, if_pos h]; rfl
theorem zB_f {P : Prop} [Decidable P] (h : ¬ P) : zB P = nI 0 := by rw [zB, if_neg h]; rfl
def fg1 (ii : Nat → Int32) (a b : Int32) : Nat → Nat → Int32
  | 0 => ii
  | k + 1 => upd (fg1 ii a b k) k (zB (nI k = a ∨ nI k = b))
def fg2 (ii : Nat → Int32) (S O : Nat → Nat) : Nat → Nat → Int32
  | 0 => ii
  | k + 1 => upd (upd (fg2 ii S O k) (S k) (nI 1)) (O k) (nI 1)
set_option maxHeartbeats 4000000 in
set_option maxRecDepth 100000 in
theorem lp_from {p : Program} {l : Launch} {e : Env} {R : Room} {s : State} {m : MethodId} {args : Array Value} {below : List Frame} {meth : Method} {c : Code} {Q : State → Prop} {H0 : Heap} {cells slots : Nat} (g : gX) (s0 : Nat) (w : wd_M) (h : Nat) (hs0 : s0 ≤ h) (np mo gb wr nr : Int32) (su pr ob ki fi se ta nd ii sp qu rF rT rD : Nat → Int32) (T : Nat) (hT : T ≤ 150) (nd9 : Int32) (hx : p.tables.exec = Jvm.exec) (hb : c.code = cX4_from) (hml : c.maxLocals = 4) (hown : s.vm.findClass RX4 = some m.cls) (hts : ∀ w ∈ Cond.code yX4_from cX4_from 4 (some .int) :: tg, w.before args s = true) (hK : gK g s) (h0s : s0 ≤ H0.size) (hRm : 2 ≤ R.frames ∧ 42 ≤ R.locals) (hcs : cells + 0 ≤ R.cells ∧ slots + 0 ≤ R.slots)  (kx : ∀ (H : Heap) (locs : List Loc) (ls : Array Slot), gP g (mW g w h (nI 0) (nI T) np mo gb wr nr su pr ob ki fi se ta nd ii sp qu rF rT rD) H → gS s0 H0 H locs → lv_has ls 4 [(0, .ref h), (1, .int (nd9)), (2, .int (nI (ct_from su nd9 T))), (3, .int (nI T))] → W p l e R s m args below meth c H locs cells slots Q (F0 m 51 ls [])) :
    ∀ (n k : Nat), k ≤ T → T + 1 ≤ k + n → ∀ (H : Heap) (locs : List Loc) (ls : Array Slot), gP g (mW g w h (nI 0) (nI T) np mo gb wr nr su pr ob ki fi se ta nd ii sp qu rF rT rD) H → gS s0 H0 H locs → lv_has ls 4 [(0, .ref h), (1, .int (nd9)), (2, .int (nI (ct_from su nd9 k))), (3, .int (nI k))] → W p l e R s m args below meth c H locs cells slots Q (F0 m 19 ls []) := by
  intro n
  induction n with
  | zero =>
    intro k h1 h2
    exact absurd h2 (by omega)
  | succ n ih =>
    intro k hi hin H locs ls hP hS hl
    refine lv_iload_n hx hb dX4_from_19 rfl (lv_at hl 3 rfl) ?_
    refine lv_aload_n hx hb dX4_from_20 rfl (lv_at hl 0 rfl) ?_
    refine wd_get (ci := 5) (v := .int (nI T)) (C := RX4) (T := TX4) (N := 21) hx hb hts iwX4 hown hK.1 hP (mW_0) rfl 4 (by decide) (hts _ (tg_tail _ tw_427)) (fun _ h9 => h9) rfl dX4_from_21 ?_
    refine lv_icmp_ge (tgt := 51) hx hb dX4_from_24 (by decide) (fun c_24 => ?_) (fun c_24 => ?_)
    · have c_24 := (nI_leI (a := T) (b := k) (by omega) (by omega)).mp c_24
      have e9 : k = T := by omega
      try rw [e9] at hP
      try rw [e9] at hl
      exact kx H locs ls hP hS (lv_sub hl [0, 1, 2, 3] rfl)
    · have c_24 := mt (nI_leI (a := T) (b := k) (by omega) (by omega)).mpr c_24
      refine lv_aload_n hx hb dX4_from_27 rfl (lv_at hl 0 rfl) ?_
      refine wd_get (ci := 5) (v := .ref (h + 1)) (C := RX4) (T := TX4) (N := 21) hx hb hts iwX4 hown hK.1 hP (mW_0) rfl 1 (by decide) (hts _ (tg_tail _ tw_424)) (fun _ h9 => h9) rfl dX4_from_28 ?_
      refine lv_iload_n hx hb dX4_from_31 rfl (lv_at hl 3 rfl) ?_
      refine wd_ildN hx hb hK.1 hP 0 (k := k) (mW_1) rfl (by omega) (by decide) dX4_from_32 ?_
      refine lv_iload_n hx hb dX4_from_33 rfl (lv_at hl 1 rfl) ?_
      refine lv_icmp_ne (tgt := 43) hx hb dX4_from_34 (by decide) (fun c_34 => ?_) (fun c_34 => ?_)
      · refine lv_iload_n hx hb dX4_from_43 rfl (lv_at hl 2 rfl) ?_
        refine lv_istore_n (lv' := [(2, .int (nI (ct_from su nd9 k))), (0, .ref h), (1, .int (nd9)), (3, .int (nI k))]) hx hb dX4_from_44 rfl hl (by decide) rfl (fun ls hl => ?_)
        refine lv_iinc (v := nI (k + 1)) (lv' := [(3, .int (nI (k + 1))), (2, .int (nI (ct_from su nd9 k))), (0, .ref h), (1, .int (nd9))]) hx hb dX4_from_45 hl (k := 3) rfl (nI_1 _) (by decide) rfl (fun ls hl => ?_)
        refine lv_goto (tgt := 19) hx hb dX4_from_48 (by decide) ?_
        have hl : lv_has ls 4 [(0, .ref h), (1, .int (nd9)), (2, .int (nI (ct_from su nd9 k))), (3, .int (nI (k + 1)))] := lv_sub hl [2, 3, 1, 0] rfl
        have e8 : ([(0, .ref h), (1, .int (nd9)), (2, .int (nI (ct_from su nd9 k))), (3, .int (nI (k + 1)))] : List (Nat × Value)) = [(0, .ref h), (1, .int (nd9)), (2, .int (nI (ct_from su nd9 (k + 1)))), (3, .int (nI (k + 1)))] := by rw [ct_from, if_neg c_34]
        rw [e8] at hl
        exact ih (k + 1) (by omega) (by omega) _ _ ls hP hS hl
      · refine lv_iload_n hx hb dX4_from_37 rfl (lv_at hl 2 rfl) ?_
        refine lv_iconst (v := nI 1) hx hb dX4_from_38 (by decide) ?_
        refine lv_iadd hx hb dX4_from_39 ?_
        refine wd_ti (x' := nI ((ct_from su nd9 k) + 1)) (nI_add _ _) ?_
        refine lv_goto (tgt := 44) hx hb dX4_from_40 (by decide) ?_
        refine lv_istore_n (lv' := [(2, .int (nI ((ct_from su nd9 k) + 1))), (0, .ref h), (1, .int (nd9)), (3, .int (nI k))]) hx hb dX4_from_44 rfl hl (by decide) rfl (fun ls hl => ?_)
        refine lv_iinc (v := nI (k + 1)) (lv' := [(3, .int (nI (k + 1))), (2, .int (nI ((ct_from su nd9 k) + 1))), (0, .ref h), (1, .int (nd9))]) hx hb dX4_from_45 hl (k := 3) rfl (nI_1 _) (by decide) rfl (fun ls hl => ?_)
        refine lv_goto (tgt := 19) hx hb dX4_from_48 (by decide) ?_
        have hl : lv_has ls 4 [(0, .ref h), (1, .int (nd9)), (2, .int (nI ((ct_from su nd9 k) + 1))), (3, .int (nI (k + 1)))] := lv_sub hl [2, 3, 1, 0] rfl
        have e8 : ([(0, .ref h), (1, .int (nd9)), (2, .int (nI ((ct_from su nd9 k) + 1))), (3, .int (nI (k + 1)))] : List (Nat × Value)) = [(0, .ref h), (1, .int (nd9)), (2, .int (nI (ct_from su nd9 (k + 1)))), (3, .int (nI (k + 1)))] := by rw [ct_from, if_pos c_34]
        rw [e8] at hl
        exact ih (k + 1) (by omega) (by omega) _ _ ls hP hS hl

set_option maxHeartbeats 4000000 in
set_option maxRecDepth 100000 in
theorem c_X4_from (l : Launch) (g : gX) (s0 : Nat) (w : wd_M) (h : Nat) (hs0 : s0 ≤ h) (rf np mo gb wr nr : Int32) (su pr ob ki fi se ta nd ii sp qu rF rT rD : Nat → Int32) (T : Nat) (hT : T ≤ 150) (nd9 : Int32) : Met l yX4_from (Cond.code yX4_from cX4_from 4 (some .int) :: tg) ({ frames := 2, cells := 0, slots := 0, locals := 42 }) (cP g s0 (mW g w h rf (nI T) np mo gb wr nr su pr ob ki fi se ta nd ii sp qu rF rT rD) [.ref h, .int (nd9)]) (cI g s0 (fun r w' => (¬ (nI 0 ≤ nd9 ∧ nd9 ≤ nI 31) ∧ r = -2 ∧ w' = (mW g w h (nI 0) (nI T) np mo gb wr nr su pr ob ki fi se ta nd ii sp qu rF rT rD)) ∨ ((nI 0 ≤ nd9 ∧ nd9 ≤ nI 31) ∧ r = nI (ct_from su nd9 T) ∧ w' = (mW g w h (nI 0) (nI T) np mo gb wr nr su pr ob ki fi se ta nd ii sp qu rF rT rD)))) 0 0 (cA s0) := by
  refine Met.ofW (cc := cX4_from) (maxL := 4) (ret := some .int) (by decide) rfl ?_
  intro p e s m args below meth c s₁ B9 hml hv
  obtain ⟨rfl, h0s, hP, hK⟩ := hv
  have hx := B9.exec
  have hb := B9.bytes
  have hr := B9.returns
  have hts := atoms_spec (ws := Cond.code yX4_from cX4_from 4 (some .int) :: tg) B9.pre
  have hown : s.vm.findClass RX4 = some m.cls := findClass_of_methodNamed B9.named
  have hlocks := B9.notSynchronized
  have hS : gS s0 s.heap s.heap [] := va_S.rf
  have hRm : 2 ≤ (headSpec (Cond.code yX4_from cX4_from 4 (some .int) :: tg) ({ frames := 2, cells := 0, slots := 0, locals := 42 })).room.frames ∧ 42 ≤ (headSpec (Cond.code yX4_from cX4_from 4 (some .int) :: tg) ({ frames := 2, cells := 0, slots := 0, locals := 42 })).room.locals := ⟨Nat.le_refl _, Nat.le_refl _⟩
  have hcs : 0 + 0 ≤ (headSpec (Cond.code yX4_from cX4_from 4 (some .int) :: tg) ({ frames := 2, cells := 0, slots := 0, locals := 42 })).room.cells ∧ 0 + 0 ≤ (headSpec (Cond.code yX4_from cX4_from 4 (some .int) :: tg) ({ frames := 2, cells := 0, slots := 0, locals := 42 })).room.slots := ⟨Nat.zero_le _, Nat.zero_le _⟩
  have hl := lv_entry ([.ref h, .int (nd9)]) (n := 4) (Nat.le_of_ble_eq_true rfl)
  rw [lg_entry_eq]
  generalize (lg_sl ([.ref h, .int (nd9)]) ++ List.replicate (4 - (lg_sl ([.ref h, .int (nd9)])).length) Slot.unset).toArray = ls at hl ⊢
  have hl : lv_has ls 4 [(0, .ref h), (1, .int (nd9))] := hl
  refine lv_aload_n hx hb dX4_from_0 rfl (lv_at hl 0 rfl) ?_
  refine lv_iconst (v := nI 0) hx hb dX4_from_1 (by decide) ?_
  refine wd_put (ci := 5) (v := .int (nI 0)) (ty := .int) (C := RX4) (T := TX4) (N := 21) hx hb hts iwX4 tyX4 tyX4_ok nmX4 hown hK.1 hP hS (by omega) (mW_0) rfl 0 (by decide) (hts _ (tg_tail _ tw_423)) (fun _ h9 => h9) rfl (by decide +kernel) (rfl) (rfl) (Nat.le_of_ble_eq_true rfl) dX4_from_2 (fun H locs hP hS hz => ?_)
  have hP : gP g (mW g w h (nI 0) (nI T) np mo gb wr nr su pr ob ki fi se ta nd ii sp qu rF rT rD) H := by have h9 : gP g (wd_up (mW g w h rf (nI T) np mo gb wr nr su pr ob ki fi se ta nd ii sp qu rF rT rD) h (.inr (5, [.int (nI 0), .ref (h + 1), .ref (h + 2), .ref (h + 3), .int (nI T), .ref (h + 4), .ref (h + 5), .ref (h + 6), .int (np), .int (mo), .ref (h + 7), .ref (h + 8), .ref (h + 9), .int (gb), .ref (h + 10), .ref (h + 11), .int (wr), .int (nr), .ref (h + 12), .ref (h + 13), .ref (h + 14)]))) H := hP; rw [mW_s0] at h9; exact h9
  refine lv_iload_n hx hb dX4_from_5 rfl (lv_at hl 1 rfl) ?_
  refine cr_Si (As := [.int (nd9)]) (rest := []) ⟨hx, hb, hml, hown, hts⟩ (c_X4_isNode l g s0 (mW g w h (nI 0) (nI T) np mo gb wr nr su pr ob ki fi se ta nd ii sp qu rF rT rD) nd9) (cw_S 1 hts tg_tail tw_496 tw_497 tw_4 tw_498 rfl rfl (by decide +kernel) ⟨Nat.le_trans (by decide) hRm.1, Nat.le_trans (by decide) hRm.2⟩) hK hP h0s hS rfl hl.1 rfl (Nat.le_of_ble_eq_true rfl) dX4_from_6 hcs (fun r9 w9 H locs hw hP hS => ?_)
  obtain ⟨e_r9, hw9⟩ := hw
  rw [hw9] at hP
  subst e_r9
  refine lv_if_ne (tgt := 15) hx hb dX4_from_9 (by decide) (fun c_9 => ?_) (fun c_9 => ?_)
  · have c_9 := zB_1.mp c_9
    refine lv_iconst (v := nI 0) hx hb dX4_from_15 (by decide) ?_
    refine lv_istore_n (lv' := [(2, .int (nI 0)), (0, .ref h), (1, .int (nd9))]) hx hb dX4_from_16 rfl hl (by decide) rfl (fun ls hl => ?_)
    refine lv_iconst (v := nI 0) hx hb dX4_from_17 (by decide) ?_
    refine lv_istore_n (lv' := [(3, .int (nI 0)), (2, .int (nI 0)), (0, .ref h), (1, .int (nd9))]) hx hb dX4_from_18 rfl hl (by decide) rfl (fun ls hl => ?_)
    have hl : lv_has ls 4 [(0, .ref h), (1, .int (nd9)), (2, .int (nI 0)), (3, .int (nI 0))] := lv_sub hl [2, 3, 1, 0] rfl
    have e8 : ([(0, .ref h), (1, .int (nd9)), (2, .int (nI 0)), (3, .int (nI 0))] : List (Nat × Value)) = [(0, .ref h), (1, .int (nd9)), (2, .int (nI (ct_from su nd9 0))), (3, .int (nI 0))] := by rfl
    rw [e8] at hl
    refine lp_from g s0 w h hs0 np mo gb wr nr su pr ob ki fi se ta nd ii sp qu rF rT rD T hT nd9 hx hb hml hown hts hK h0s hRm hcs  ?_ (T + 1) 0 (by omega) (by omega) _ _ ls hP hS hl
    intro H locs ls hP hS hl
    refine lv_iload_n hx hb dX4_from_51 rfl (lv_at hl 2 rfl) ?_
    exact W.iret (v := nI (ct_from su nd9 T)) hx hb hr (fun t9 ht hW => ⟨⟨_, (mW g w h (nI 0) (nI T) np mo gb wr nr su pr ob ki fi se ta nd ii sp qu rF rT rD), rfl, Or.inr ⟨c_9, rfl, rfl⟩, cB_of ht hP⟩, hS.F ht⟩) hS.2.2 dX4_from_52
  · have c_9 := zB_0.mp c_9
    refine lv_bipush (v := (-2)) hx hb dX4_from_12 (by decide) ?_
    exact W.iret (v := (-2)) hx hb hr (fun t9 ht hW => ⟨⟨_, (mW g w h (nI 0) (nI T) np mo gb wr nr su pr ob ki fi se ta nd ii sp qu rF rT rD), rfl, Or.inl ⟨c_9, rfl, rfl⟩, cB_of ht hP⟩, hS.F ht⟩) hS.2.2 dX4_from_14

set_option maxHeartbeats 4000000 in
set_option maxRecDepth 100000 in
theorem lp_fg1 {p : Program} {l : Launch} {e : Env} {R : Room} {s : State} {m : MethodId} {args : Array Value} {below : List Frame} {meth : Method} {c : Code} {Q : State → Prop} {H0 : Heap} {cells slots : Nat} (g : gX) (s0 : Nat) (w : wd_M) (h : Nat) (hs0 : s0 ≤ h) (rf np mo gb wr nr : Int32) (su pr ob ki fi se ta nd ii sp qu rF rT rD : Nat → Int32) (T : Nat) (a b : Int32) (hx : p.tables.exec = Jvm.exec) (hb : c.code = cX4_findGraph) (hml : c.maxLocals = 4) (hown : s.vm.findClass RX4 = some m.cls) (hts : ∀ w ∈ Cond.code yX4_findGraph cX4_findGraph 4 (none) :: tg, w.before args s = true) (hK : gK g s) (h0s : s0 ≤ H0.size) (hRm : 0 ≤ R.frames ∧ 0 ≤ R.locals) (hcs : cells + 0 ≤ R.cells ∧ slots + 0 ≤ R.slots)  (kx : ∀ (H : Heap) (locs : List Loc) (ls : Array Slot), gP g (mW g w h rf (nI T) np mo gb wr nr su pr ob ki fi se ta nd (fg1 ii a b 32) sp qu rF rT rD) H → gS s0 H0 H locs → lv_has ls 4 [(0, .ref h), (1, .int (a)), (2, .int (b)), (3, .int (nI 32))] → W p l e R s m args below meth c H locs cells slots Q (F0 m 35 ls [])) :
    ∀ (n k : Nat), k ≤ 32 → 32 + 1 ≤ k + n → ∀ (H : Heap) (locs : List Loc) (ls : Array Slot), gP g (mW g w h rf (nI T) np mo gb wr nr su pr ob ki fi se ta nd (fg1 ii a b k) sp qu rF rT rD) H → gS s0 H0 H locs → lv_has ls 4 [(0, .ref h), (1, .int (a)), (2, .int (b)), (3, .int (nI k))] → W p l e R s m args below meth c H locs cells slots Q (F0 m 2 ls []) := by
  intro n
  induction n with
  | zero =>
    intro k h1 h2
    exact absurd h2 (by omega)
  | succ n ih =>
    intro k hi hin H locs ls hP hS hl
    refine lv_iload_n hx hb dX4_findGraph_2 rfl (lv_at hl 3 rfl) ?_
    refine lv_bipush (v := nI 32) hx hb dX4_findGraph_3 (by decide) ?_
    refine lv_icmp_ge (tgt := 35) hx hb dX4_findGraph_5 (by decide) (fun c_5 => ?_) (fun c_5 => ?_)
    · have c_5 := (nI_leI (a := 32) (b := k) (by omega) (by omega)).mp c_5
      have e9 : k = 32 := by omega
      try rw [e9] at hP
      try rw [e9] at hl
      exact kx H locs ls hP hS (lv_sub hl [0, 1, 2, 3] rfl)
    · have c_5 := mt (nI_leI (a := 32) (b := k) (by omega) (by omega)).mpr c_5
      refine lv_aload_n hx hb dX4_findGraph_8 rfl (lv_at hl 0 rfl) ?_
      refine wd_get (ci := 5) (v := .ref (h + 9)) (C := RX4) (T := TX4) (N := 21) hx hb hts iwX4 hown hK.1 hP (mW_0) rfl 12 (by decide) (hts _ (tg_tail _ tw_435)) (fun _ h9 => h9) rfl dX4_findGraph_9 ?_
      refine lv_iload_n hx hb dX4_findGraph_12 rfl (lv_at hl 3 rfl) ?_
      refine lv_iload_n hx hb dX4_findGraph_13 rfl (lv_at hl 3 rfl) ?_
      refine lv_iload_n hx hb dX4_findGraph_14 rfl (lv_at hl 1 rfl) ?_
      refine lv_icmp_eq (tgt := 23) hx hb dX4_findGraph_15 (by decide) (fun c_15 => ?_) (fun c_15 => ?_)
      · refine lv_iconst (v := nI 1) hx hb dX4_findGraph_23 (by decide) ?_
        refine lv_goto (tgt := 28) hx hb dX4_findGraph_24 (by decide) ?_
        refine wd_zstN hx hb hK.1 hP hS (by omega) 1 (k := k) (mW_9) rfl (by decide) (by omega) (by decide) dX4_findGraph_28 (fun H locs hP hS hz => ?_)
        have hP : gP g (mW g w h rf (nI T) np mo gb wr nr su pr ob ki fi se ta nd (upd (fg1 ii a b k) k (nI 1)) sp qu rF rT rD) H := by have h9 : gP g (wd_up (mW g w h rf (nI T) np mo gb wr nr su pr ob ki fi se ta nd (fg1 ii a b k) sp qu rF rT rD) (h + 9) (wd_iA (g.2 1) 32 (upd (fg1 ii a b k) k (nI 1)))) H := hP; rw [mW_s9] at h9; exact h9
        refine lv_iinc (v := nI (k + 1)) (lv' := [(3, .int (nI (k + 1))), (0, .ref h), (1, .int (a)), (2, .int (b))]) hx hb dX4_findGraph_29 hl (k := 3) rfl (nI_1 _) (by decide) rfl (fun ls hl => ?_)
        refine lv_goto (tgt := 2) hx hb dX4_findGraph_32 (by decide) ?_
        have e8 : (mW g w h rf (nI T) np mo gb wr nr su pr ob ki fi se ta nd (upd (fg1 ii a b k) k (nI 1)) sp qu rF rT rD) = (mW g w h rf (nI T) np mo gb wr nr su pr ob ki fi se ta nd (fg1 ii a b (k + 1)) sp qu rF rT rD) := by rw [fg1, zB_t (Or.inl c_15)]
        rw [e8] at hP
        have hl : lv_has ls 4 [(0, .ref h), (1, .int (a)), (2, .int (b)), (3, .int (nI (k + 1)))] := lv_sub hl [1, 2, 3, 0] rfl
        exact ih (k + 1) (by omega) (by omega) _ _ ls hP hS hl
      · refine lv_iload_n hx hb dX4_findGraph_18 rfl (lv_at hl 3 rfl) ?_
        refine lv_iload_n hx hb dX4_findGraph_19 rfl (lv_at hl 2 rfl) ?_
        refine lv_icmp_ne (tgt := 27) hx hb dX4_findGraph_20 (by decide) (fun c_20 => ?_) (fun c_20 => ?_)
        · refine lv_iconst (v := nI 0) hx hb dX4_findGraph_27 (by decide) ?_
          refine wd_zstN hx hb hK.1 hP hS (by omega) 1 (k := k) (mW_9) rfl (by decide) (by omega) (by decide) dX4_findGraph_28 (fun H locs hP hS hz => ?_)
          have hP : gP g (mW g w h rf (nI T) np mo gb wr nr su pr ob ki fi se ta nd (upd (fg1 ii a b k) k (nI 0)) sp qu rF rT rD) H := by have h9 : gP g (wd_up (mW g w h rf (nI T) np mo gb wr nr su pr ob ki fi se ta nd (fg1 ii a b k) sp qu rF rT rD) (h + 9) (wd_iA (g.2 1) 32 (upd (fg1 ii a b k) k (nI 0)))) H := hP; rw [mW_s9] at h9; exact h9
          refine lv_iinc (v := nI (k + 1)) (lv' := [(3, .int (nI (k + 1))), (0, .ref h), (1, .int (a)), (2, .int (b))]) hx hb dX4_findGraph_29 hl (k := 3) rfl (nI_1 _) (by decide) rfl (fun ls hl => ?_)
          refine lv_goto (tgt := 2) hx hb dX4_findGraph_32 (by decide) ?_
          have e8 : (mW g w h rf (nI T) np mo gb wr nr su pr ob ki fi se ta nd (upd (fg1 ii a b k) k (nI 0)) sp qu rF rT rD) = (mW g w h rf (nI T) np mo gb wr nr su pr ob ki fi se ta nd (fg1 ii a b (k + 1)) sp qu rF rT rD) := by rw [fg1, zB_f (fun h => h.elim c_15 c_20)]
          rw [e8] at hP
          have hl : lv_has ls 4 [(0, .ref h), (1, .int (a)), (2, .int (b)), (3, .int (nI (k + 1)))] := lv_sub hl [1, 2, 3, 0] rfl
          exact ih (k + 1) (by omega) (by omega) _ _ ls hP hS hl
        · refine lv_iconst (v := nI 1) hx hb dX4_findGraph_23 (by decide) ?_
          refine lv_goto (tgt := 28) hx hb dX4_findGraph_24 (by decide) ?_
          refine wd_zstN hx hb hK.1 hP hS (by omega) 1 (k := k) (mW_9) rfl (by decide) (by omega) (by decide) dX4_findGraph_28 (fun H locs hP hS hz => ?_)
          have hP : gP g (mW g w h rf (nI T) np mo gb wr nr su pr ob ki fi se ta nd (upd (fg1 ii a b k) k (nI 1)) sp qu rF rT rD) H := by have h9 : gP g (wd_up (mW g w h rf (nI T) np mo gb wr nr su pr ob ki fi se ta nd (fg1 ii a b k) sp qu rF rT rD) (h + 9) (wd_iA (g.2 1) 32 (upd (fg1 ii a b k) k (nI 1)))) H := hP; rw [mW_s9] at h9; exact h9
          refine lv_iinc (v := nI (k + 1)) (lv' := [(3, .int (nI (k + 1))), (0, .ref h), (1, .int (a)), (2, .int (b))]) hx hb dX4_findGraph_29 hl (k := 3) rfl (nI_1 _) (by decide) rfl (fun ls hl => ?_)
          refine lv_goto (tgt := 2) hx hb dX4_findGraph_32 (by decide) ?_
          have e8 : (mW g w h rf (nI T) np mo gb wr nr su pr ob ki fi se ta nd (upd (fg1 ii a b k) k (nI 1)) sp qu rF rT rD) = (mW g w h rf (nI T) np mo gb wr nr su pr ob ki fi se ta nd (fg1 ii a b (k + 1)) sp qu rF rT rD) := by rw [fg1, zB_t (Or.inr c_20)]
          rw [e8] at hP
          have hl : lv_has ls 4 [(0, .ref h), (1, .int (a)), (2, .int (b)), (3, .int (nI (k + 1)))] := lv_sub hl [1, 2, 3, 0] rfl
          exact ih (k + 1) (by omega) (by omega) _ _ ls hP hS hl

set_option maxHeartbeats 4000000 in
set_option maxRecDepth 100000 in
theorem lp_fg2 {p : Program} {l : Launch} {e : Env} {R : Room} {s : State} {m : MethodId} {args : Array Value} {below : List Frame} {meth : Method} {c : Code} {Q : State → Prop} {H0 : Heap} {cells slots : Nat} (g : gX) (s0 : Nat) (w : wd_M) (h : Nat) (hs0 : s0 ≤ h) (rf np mo gb wr nr : Int32) (su pr ob ki fi se ta nd ii sp qu rF rT rD : Nat → Int32) (T : Nat) (hT : T ≤ 150) (S O : Nat → Nat) (hS9 : ∀ k, k < T → su k = nI (S k) ∧ S k < 32) (hO9 : ∀ k, k < T → ob k = nI (O k) ∧ O k < 32) (a b : Int32) (hx : p.tables.exec = Jvm.exec) (hb : c.code = cX4_findGraph) (hml : c.maxLocals = 4) (hown : s.vm.findClass RX4 = some m.cls) (hts : ∀ w ∈ Cond.code yX4_findGraph cX4_findGraph 4 (none) :: tg, w.before args s = true) (hK : gK g s) (h0s : s0 ≤ H0.size) (hRm : 0 ≤ R.frames ∧ 0 ≤ R.locals) (hcs : cells + 0 ≤ R.cells ∧ slots + 0 ≤ R.slots)  (kx : ∀ (H : Heap) (locs : List Loc) (ls : Array Slot), gP g (mW g w h rf (nI T) np mo gb wr nr su pr ob ki fi se ta nd (fg2 ii S O T) sp qu rF rT rD) H → gS s0 H0 H locs → lv_has ls 4 [(0, .ref h), (1, .int (a)), (2, .int (b)), (3, .int (nI T))] → W p l e R s m args below meth c H locs cells slots Q (F0 m 75 ls [])) :
    ∀ (n k : Nat), k ≤ T → T + 1 ≤ k + n → ∀ (H : Heap) (locs : List Loc) (ls : Array Slot), gP g (mW g w h rf (nI T) np mo gb wr nr su pr ob ki fi se ta nd (fg2 ii S O k) sp qu rF rT rD) H → gS s0 H0 H locs → lv_has ls 4 [(0, .ref h), (1, .int (a)), (2, .int (b)), (3, .int (nI k))] → W p l e R s m args below meth c H locs cells slots Q (F0 m 37 ls []) := by
  intro n
  induction n with
  | zero =>
    intro k h1 h2
    exact absurd h2 (by omega)
  | succ n ih =>
    intro k hi hin H locs ls hP hS hl
    refine lv_iload_n hx hb dX4_findGraph_37 rfl (lv_at hl 3 rfl) ?_
    refine lv_aload_n hx hb dX4_findGraph_38 rfl (lv_at hl 0 rfl) ?_
    refine wd_get (ci := 5) (v := .int (nI T)) (C := RX4) (T := TX4) (N := 21) hx hb hts iwX4 hown hK.1 hP (mW_0) rfl 4 (by decide) (hts _ (tg_tail _ tw_427)) (fun _ h9 => h9) rfl dX4_findGraph_39 ?_
    refine lv_icmp_ge (tgt := 75) hx hb dX4_findGraph_42 (by decide) (fun c_42 => ?_) (fun c_42 => ?_)
    · have c_42 := (nI_leI (a := T) (b := k) (by omega) (by omega)).mp c_42
      have e9 : k = T := by omega
      try rw [e9] at hP
      try rw [e9] at hl
      exact kx H locs ls hP hS (lv_sub hl [0, 1, 2, 3] rfl)
    · have c_42 := mt (nI_leI (a := T) (b := k) (by omega) (by omega)).mpr c_42
      refine lv_aload_n hx hb dX4_findGraph_45 rfl (lv_at hl 0 rfl) ?_
      refine wd_get (ci := 5) (v := .ref (h + 9)) (C := RX4) (T := TX4) (N := 21) hx hb hts iwX4 hown hK.1 hP (mW_0) rfl 12 (by decide) (hts _ (tg_tail _ tw_435)) (fun _ h9 => h9) rfl dX4_findGraph_46 ?_
      refine lv_aload_n hx hb dX4_findGraph_49 rfl (lv_at hl 0 rfl) ?_
      refine wd_get (ci := 5) (v := .ref (h + 1)) (C := RX4) (T := TX4) (N := 21) hx hb hts iwX4 hown hK.1 hP (mW_0) rfl 1 (by decide) (hts _ (tg_tail _ tw_424)) (fun _ h9 => h9) rfl dX4_findGraph_50 ?_
      refine lv_iload_n hx hb dX4_findGraph_53 rfl (lv_at hl 3 rfl) ?_
      refine wd_ildN hx hb hK.1 hP 0 (k := k) (mW_1) rfl (by omega) (by decide) dX4_findGraph_54 ?_
      refine wd_ti (x' := nI (S k)) ((hS9 k (by omega)).1) ?_
      refine lv_iconst (v := nI 1) hx hb dX4_findGraph_55 (by decide) ?_
      refine wd_zstN hx hb hK.1 hP hS (by omega) 1 (k := (S k)) (mW_9) rfl (by decide) ((hS9 k (by omega)).2) (by decide) dX4_findGraph_56 (fun H locs hP hS hz => ?_)
      have hP : gP g (mW g w h rf (nI T) np mo gb wr nr su pr ob ki fi se ta nd (upd (fg2 ii S O k) (S k) (nI 1)) sp qu rF rT rD) H := by have h9 : gP g (wd_up (mW g w h rf (nI T) np mo gb wr nr su pr ob ki fi se ta nd (fg2 ii S O k) sp qu rF rT rD) (h + 9) (wd_iA (g.2 1) 32 (upd (fg2 ii S O k) (S k) (nI 1)))) H := hP; rw [mW_s9] at h9; exact h9
      refine lv_aload_n hx hb dX4_findGraph_57 rfl (lv_at hl 0 rfl) ?_
      refine wd_get (ci := 5) (v := .ref (h + 9)) (C := RX4) (T := TX4) (N := 21) hx hb hts iwX4 hown hK.1 hP (mW_0) rfl 12 (by decide) (hts _ (tg_tail _ tw_435)) (fun _ h9 => h9) rfl dX4_findGraph_58 ?_
      refine lv_aload_n hx hb dX4_findGraph_61 rfl (lv_at hl 0 rfl) ?_
      refine wd_get (ci := 5) (v := .ref (h + 3)) (C := RX4) (T := TX4) (N := 21) hx hb hts iwX4 hown hK.1 hP (mW_0) rfl 3 (by decide) (hts _ (tg_tail _ tw_426)) (fun _ h9 => h9) rfl dX4_findGraph_62 ?_
      refine lv_iload_n hx hb dX4_findGraph_65 rfl (lv_at hl 3 rfl) ?_
      refine wd_ildN hx hb hK.1 hP 0 (k := k) (mW_3) rfl (by omega) (by decide) dX4_findGraph_66 ?_
      refine wd_ti (x' := nI (O k)) ((hO9 k (by omega)).1) ?_
      refine lv_iconst (v := nI 1) hx hb dX4_findGraph_67 (by decide) ?_
      refine wd_zstN hx hb hK.1 hP hS (by omega) 1 (k := (O k)) (mW_9) rfl (by decide) ((hO9 k (by omega)).2) (by decide) dX4_findGraph_68 (fun H locs hP hS hz => ?_)
      have hP : gP g (mW g w h rf (nI T) np mo gb wr nr su pr ob ki fi se ta nd (upd (upd (fg2 ii S O k) (S k) (nI 1)) (O k) (nI 1)) sp qu rF rT rD) H := by have h9 : gP g (wd_up (mW g w h rf (nI T) np mo gb wr nr su pr ob ki fi se ta nd (upd (fg2 ii S O k) (S k) (nI 1)) sp qu rF rT rD) (h + 9) (wd_iA (g.2 1) 32 (upd (upd (fg2 ii S O k) (S k) (nI 1)) (O k) (nI 1)))) H := hP; rw [mW_s9] at h9; exact h9
      refine lv_iinc (v := nI (k + 1)) (lv' := [(3, .int (nI (k + 1))), (0, .ref h), (1, .int (a)), (2, .int (b))]) hx hb dX4_findGraph_69 hl (k := 3) rfl (nI_1 _) (by decide) rfl (fun ls hl => ?_)
      refine lv_goto (tgt := 37) hx hb dX4_findGraph_72 (by decide) ?_
      have e8 : (mW g w h rf (nI T) np mo gb wr nr su pr ob ki fi se ta nd (upd (upd (fg2 ii S O k) (S k) (nI 1)) (O k) (nI 1)) sp qu rF rT rD) = (mW g w h rf (nI T) np mo gb wr nr su pr ob ki fi se ta nd (fg2 ii S O (k + 1)) sp qu rF rT rD) := by rfl
      rw [e8] at hP
      have hl : lv_has ls 4 [(0, .ref h), (1, .int (a)), (2, .int (b)), (3, .int (nI (k + 1)))] := lv_sub hl [1, 2, 3, 0] rfl
      exact ih (k + 1) (by omega) (by omega) _ _ ls hP hS hl

set_option maxHeartbeats 4000000 in
set_option maxRecDepth 100000 in
theorem c_X4_findGraph (l : Launch) (g : gX) (s0 : Nat) (w : wd_M) (h : Nat) (hs0 : s0 ≤ h) (rf np mo gb wr nr : Int32) (su pr ob ki fi se ta nd ii sp qu rF rT rD : Nat → Int32) (T : Nat) (hT : T ≤ 150) (S O : Nat → Nat) (hS9 : ∀ k, k < T → su k = nI (S k) ∧ S k < 32) (hO9 : ∀ k, k < T → ob k = nI (O k) ∧ O k < 32) (a b : Int32) : Met l yX4_findGraph (Cond.code yX4_findGraph cX4_findGraph 4 (none) :: tg) ({ frames := 0, cells := 0, slots := 0, locals := 0 }) (cP g s0 (mW g w h rf (nI T) np mo gb wr nr su pr ob ki fi se ta nd ii sp qu rF rT rD) [.ref h, .int (a), .int (b)]) (cV g s0 (fun w' => w' = (mW g w h rf (nI T) np mo gb wr nr su pr ob ki fi se ta nd (fg2 (fg1 ii a b 32) S O T) sp qu rF rT rD))) 0 0 (cA s0) := by
  refine Met.ofW (cc := cX4_findGraph) (maxL := 4) (ret := none) (by decide) rfl ?_
  intro p e s m args below meth c s₁ B9 hml hv
  obtain ⟨rfl, h0s, hP, hK⟩ := hv
  have hx := B9.exec
  have hb := B9.bytes
  have hr := B9.returns
  have hts := atoms_spec (ws := Cond.code yX4_findGraph cX4_findGraph 4 (none) :: tg) B9.pre
  have hown : s.vm.findClass RX4 = some m.cls := findClass_of_methodNamed B9.named
  have hlocks := B9.notSynchronized
  have hS : gS s0 s.heap s.heap [] := va_S.rf
  have hRm : 0 ≤ (headSpec (Cond.code yX4_findGraph cX4_findGraph 4 (none) :: tg) ({ frames := 0, cells := 0, slots := 0, locals := 0 })).room.frames ∧ 0 ≤ (headSpec (Cond.code yX4_findGraph cX4_findGraph 4 (none) :: tg) ({ frames := 0, cells := 0, slots := 0, locals := 0 })).room.locals := ⟨Nat.le_refl _, Nat.le_refl _⟩
  have hcs : 0 + 0 ≤ (headSpec (Cond.code yX4_findGraph cX4_findGraph 4 (none) :: tg) ({ frames := 0, cells := 0, slots := 0, locals := 0 })).room.cells ∧ 0 + 0 ≤ (headSpec (Cond.code yX4_findGraph cX4_findGraph 4 (none) :: tg) ({ frames := 0, cells := 0, slots := 0, locals := 0 })).room.slots := ⟨Nat.zero_le _, Nat.zero_le _⟩
  have hl := lv_entry ([.ref h, .int (a), .int (b)]) (n := 4) (Nat.le_of_ble_eq_true rfl)
  rw [lg_entry_eq]
  generalize (lg_sl ([.ref h, .int (a), .int (b)]) ++ List.replicate (4 - (lg_sl ([.ref h, .int (a), .int (b)])).length) Slot.unset).toArray = ls at hl ⊢
  have hl : lv_has ls 4 [(0, .ref h), (1, .int (a)), (2, .int (b))] := hl
  refine lv_iconst (v := nI 0) hx hb dX4_findGraph_0 (by decide) ?_
  refine lv_istore_n (lv' := [(3, .int (nI 0)), (0, .ref h), (1, .int (a)), (2, .int (b))]) hx hb dX4_findGraph_1 rfl hl (by decide) rfl (fun ls hl => ?_)
  have e8 : (mW g w h rf (nI T) np mo gb wr nr su pr ob ki fi se ta nd ii sp qu rF rT rD) = (mW g w h rf (nI T) np mo gb wr nr su pr ob ki fi se ta nd (fg1 ii a b 0) sp qu rF rT rD) := by rfl
  rw [e8] at hP
  have hl : lv_has ls 4 [(0, .ref h), (1, .int (a)), (2, .int (b)), (3, .int (nI 0))] := lv_sub hl [1, 2, 3, 0] rfl
  refine lp_fg1 g s0 w h hs0 rf np mo gb wr nr su pr ob ki fi se ta nd ii sp qu rF rT rD T a b hx hb hml hown hts hK h0s hRm hcs  ?_ (32 + 1) 0 (by omega) (by omega) _ _ ls hP hS hl
  intro H locs ls hP hS hl
  refine lv_iconst (v := nI 0) hx hb dX4_findGraph_35 (by decide) ?_
  refine lv_istore_n (lv' := [(3, .int (nI 0)), (0, .ref h), (1, .int (a)), (2, .int (b))]) hx hb dX4_findGraph_36 rfl hl (by decide) rfl (fun ls hl => ?_)
  have e8 : (mW g w h rf (nI T) np mo gb wr nr su pr ob ki fi se ta nd (fg1 ii a b 32) sp qu rF rT rD) = (mW g w h rf (nI T) np mo gb wr nr su pr ob ki fi se ta nd (fg2 (fg1 ii a b 32) S O 0) sp qu rF rT rD) := by rfl
  rw [e8] at hP
  have hl : lv_has ls 4 [(0, .ref h), (1, .int (a)), (2, .int (b)), (3, .int (nI 0))] := lv_sub hl [1, 2, 3, 0] rfl
  refine lp_fg2 g s0 w h hs0 rf np mo gb wr nr su pr ob ki fi se ta nd (fg1 ii a b 32) sp qu rF rT rD T hT S O hS9 hO9 a b hx hb hml hown hts hK h0s hRm hcs  ?_ (T + 1) 0 (by omega) (by omega) _ _ ls hP hS hl
  intro H locs ls hP hS hl
  exact W.vret hx hb hr (fun t9 ht hW => ⟨⟨(mW g w h rf (nI T) np mo gb wr nr su pr ob ki fi se ta nd (fg2 (fg1 ii a b 32) S O T) sp qu rF rT rD), rfl, rfl, cB_of ht hP⟩, hS.F ht⟩) hS.2.2 dX4_findGraph_75

