/-! THE REFERENCE: plain, run -/
theorem ix_path {v : Int32} {P : Nat} (hP : P ≤ 40) (h : nI 1 ≤ v ∧ v ≤ nI P) : ∃ u, 1 ≤ u ∧ u ≤ P ∧ v = nI u := by
  have h1 : ¬ v < 0 := by
    have := h.1
    simp only [Int32.lt_iff_toInt_lt, Int32.le_iff_toInt_le, nI_toInt (n := 1) (by decide), Int32.toInt_zero] at *
    omega
  obtain ⟨j, hj, rfl⟩ := nI_of h1
  rw [nI_leI (by decide) hj, nI_leI hj (by omega)] at h
  exact ⟨j, h.1, h.2, rfl⟩
abbrev rT : Type := (Nat → Int32) × (Nat → Int32) × (Nat → Int32) × Nat
def rk (x y : Nat) (dp : Int32) (t : rT) : Nat → rT
  | 0 => t
  | k + 1 => (upd (rk x y dp t k).1 (rk x y dp t k).2.2.2 (nI x), upd (rk x y dp t k).2.1 (rk x y dp t k).2.2.2 (nI y), upd (rk x y dp t k).2.2.1 (rk x y dp t k).2.2.2 dp, (rk x y dp t k).2.2.2 + 1)
termination_by k => k
theorem rk_n {x y : Nat} {dp : Int32} {t : rT} : ∀ k, (rk x y dp t k).2.2.2 = t.2.2.2 + k := by
  intro k
  induction k with
  | zero => rw [rk]; rfl
  | succ k ih =>
    rw [rk]
    show (rk x y dp t k).2.2.2 + 1 = _
    rw [ih]
    rfl
def dpf (ki ii sp : Nat → Int32) (u wf x y : Nat) : Int32 := if x = y ∧ (ki u = nI 4 ∨ (ki u = nI 6 ∧ ¬ ii x = 0)) then nI 0 else if wf = 0 then nI 1 else sp y
def mny (M : Nat → Nat) (u : Nat) (sv ov : Int32) (x y : Nat) : Nat := if (sv < 0 ∨ sv = nI x) ∧ (ov < 0 ∨ ov = nI y) then M (1024 * u + 32 * x + y) else 0
def ry (ki ii sp : Nat → Int32) (M : Nat → Nat) (u : Nat) (sv ov : Int32) (wf x : Nat) (t : rT) : Nat → rT
  | 0 => t
  | y + 1 => rk x y (dpf ki ii sp u wf x y) (ry ki ii sp M u sv ov wf x t y) (mny M u sv ov x y)
termination_by y => y
theorem ry_n {ki ii sp : Nat → Int32} {M : Nat → Nat} {u : Nat} {sv ov : Int32} {wf x : Nat} {t : rT} : ∀ y, (ry ki ii sp M u sv ov wf x t y).2.2.2 = sm2 M u sv ov x t.2.2.2 y := by
  intro y
  induction y with
  | zero => rw [ry, sm2]
  | succ y ih =>
    rw [ry, rk_n, ih, sm2, mny]
    by_cases c9 : (sv < 0 ∨ sv = nI x) ∧ (ov < 0 ∨ ov = nI y)
    · rw [if_pos c9, if_pos c9]
    · rw [if_neg c9, if_neg c9]
      rfl
abbrev xT : Type := rT × (Nat → Int32) × (Nat → Int32)
def rxS (ki ii : Nat → Int32) (M : Nat → Nat) (u a : Nat) (sv ov : Int32) (wf : Nat) (t : xT) (x : Nat) : xT :=
  if wf = 0 then (ry ki ii t.2.1 M u sv ov wf x t.1 32, t.2.1, t.2.2) else (ry ki ii (wkF M a x t.2.1 t.2.2).1 M u sv ov wf x t.1 32, (wkF M a x t.2.1 t.2.2).1, (wkF M a x t.2.1 t.2.2).2.1)
def rx (ki ii : Nat → Int32) (M : Nat → Nat) (u a : Nat) (sv ov : Int32) (wf : Nat) (t : xT) : Nat → xT
  | 0 => t
  | x + 1 => rxS ki ii M u a sv ov wf (rx ki ii M u a sv ov wf t x) x
termination_by x => x
theorem rxS_n {ki ii : Nat → Int32} {M : Nat → Nat} {u a : Nat} {sv ov : Int32} {wf : Nat} {t : xT} {x : Nat} : (rxS ki ii M u a sv ov wf t x).1.2.2.2 = sm2 M u sv ov x t.1.2.2.2 32 := by
  rw [rxS]
  by_cases c9 : wf = 0
  · rw [if_pos c9]
    exact ry_n 32
  · rw [if_neg c9]
    exact ry_n 32
theorem rx_n {ki ii : Nat → Int32} {M : Nat → Nat} {u a : Nat} {sv ov : Int32} {wf : Nat} {t : xT} (h : t.1.2.2.2 = 0) : ∀ x, (rx ki ii M u a sv ov wf t x).1.2.2.2 = sm1 M u sv ov x := by
  intro x
  induction x with
  | zero => rw [rx, sm1]; exact h
  | succ x ih => rw [rx, rxS_n, ih, sm1]
set_option maxHeartbeats 4000000 in
set_option maxRecDepth 100000 in
theorem c_X4_plain (l : Launch) (g : gX) (s0 : Nat) (w : wd_M) (h : Nat) (hs0 : s0 ≤ h) (rf mo gb wr nr : Int32) (su pr ob ki fi se nd ii sp qu rF rT rD : Nat → Int32) (P : Nat) (hP4 : P ≤ 40) (T : Nat) (hT : T ≤ 150) (S O : Nat → Nat) (hS9 : ∀ k, k < T → su k = nI (S k) ∧ S k < 32) (hO9 : ∀ k, k < T → ob k = nI (O k) ∧ O k < 32) (M : Nat → Nat) (hM9 : mB M) (K A B : Nat → Nat) (hKK : hK9 P ki fi se K A B) (pv sv ov : Int32)  : Met l yX4_plain (Cond.code yX4_plain cX4_plain 4 (some .int) :: tg) ({ frames := 5, cells := 0, slots := 0, locals := 123 }) (cP g s0 (mW g w h rf (nI T) (nI P) mo gb wr nr su pr ob ki fi se (tN M) nd ii sp qu rF rT rD) [.ref h, .int (pv), .int (sv), .int (ov)]) (cI g s0 (fun r w' => (¬ (nI 1 ≤ pv ∧ pv ≤ nI P) ∧ r = -1 ∧ w' = (mW g w h (nI 0) (nI T) (nI P) mo gb wr nr su pr ob ki fi se (tN M) nd ii sp qu rF rT rD)) ∨ ((nI 1 ≤ pv ∧ pv ≤ nI P) ∧ ¬ ((-1 ≤ sv ∧ sv < nI 32) ∧ (-1 ≤ ov ∧ ov < nI 32)) ∧ r = -2 ∧ w' = (mW g w h (nI 0) (nI T) (nI P) mo gb wr nr su pr ob ki fi se (tN M) nd ii sp qu rF rT rD)) ∨ (∃ u, 1 ≤ u ∧ u ≤ P ∧ pv = nI u ∧ ((-1 ≤ sv ∧ sv < nI 32) ∧ (-1 ≤ ov ∧ ov < nI 32)) ∧ r = nI (sm1 (pp1 ki fi se pr (fg2 (fg1 ii sv ov 32) S O T) S O K A B T mo (fn2 ki A B u (fn1 nd u P) u) (M, sp, qu, nI 0) u).1 u sv ov 32) ∧ w' = (mW g w h (nI 0) (nI T) (nI P) mo ((pp1 ki fi se pr (fg2 (fg1 ii sv ov 32) S O T) S O K A B T mo (fn2 ki A B u (fn1 nd u P) u) (M, sp, qu, nI 0) u).2.2.2) wr nr su pr ob ki fi se (tN (pp1 ki fi se pr (fg2 (fg1 ii sv ov 32) S O T) S O K A B T mo (fn2 ki A B u (fn1 nd u P) u) (M, sp, qu, nI 0) u).1) (fn2 ki A B u (fn1 nd u P) u) (fg2 (fg1 ii sv ov 32) S O T) ((pp1 ki fi se pr (fg2 (fg1 ii sv ov 32) S O T) S O K A B T mo (fn2 ki A B u (fn1 nd u P) u) (M, sp, qu, nI 0) u).2.1) ((pp1 ki fi se pr (fg2 (fg1 ii sv ov 32) S O T) S O K A B T mo (fn2 ki A B u (fn1 nd u P) u) (M, sp, qu, nI 0) u).2.2.1) rF rT rD)))) 0 0 (cA s0) := by
  refine Met.ofW (cc := cX4_plain) (maxL := 4) (ret := some .int) (by decide) rfl ?_
  intro p e s m args below meth c s₁ B9 hml hv
  obtain ⟨rfl, h0s, hP, hK⟩ := hv
  have hx := B9.exec
  have hb := B9.bytes
  have hr := B9.returns
  have hts := atoms_spec (ws := Cond.code yX4_plain cX4_plain 4 (some .int) :: tg) B9.pre
  have hown : s.vm.findClass RX4 = some m.cls := findClass_of_methodNamed B9.named
  have hlocks := B9.notSynchronized
  have hS : gS s0 s.heap s.heap [] := va_S.rf
  have hRm : 5 ≤ (headSpec (Cond.code yX4_plain cX4_plain 4 (some .int) :: tg) ({ frames := 5, cells := 0, slots := 0, locals := 123 })).room.frames ∧ 123 ≤ (headSpec (Cond.code yX4_plain cX4_plain 4 (some .int) :: tg) ({ frames := 5, cells := 0, slots := 0, locals := 123 })).room.locals := ⟨Nat.le_refl _, Nat.le_refl _⟩
  have hcs : 0 + 0 ≤ (headSpec (Cond.code yX4_plain cX4_plain 4 (some .int) :: tg) ({ frames := 5, cells := 0, slots := 0, locals := 123 })).room.cells ∧ 0 + 0 ≤ (headSpec (Cond.code yX4_plain cX4_plain 4 (some .int) :: tg) ({ frames := 5, cells := 0, slots := 0, locals := 123 })).room.slots := ⟨Nat.zero_le _, Nat.zero_le _⟩
  have hl := lv_entry ([.ref h, .int (pv), .int (sv), .int (ov)]) (n := 4) (Nat.le_of_ble_eq_true rfl)
  rw [lg_entry_eq]
  generalize (lg_sl ([.ref h, .int (pv), .int (sv), .int (ov)]) ++ List.replicate (4 - (lg_sl ([.ref h, .int (pv), .int (sv), .int (ov)])).length) Slot.unset).toArray = ls at hl ⊢
  have hl : lv_has ls 4 [(0, .ref h), (1, .int (pv)), (2, .int (sv)), (3, .int (ov))] := hl
  refine lv_aload_n hx hb dX4_plain_0 rfl (lv_at hl 0 rfl) ?_
  refine lv_iconst (v := nI 0) hx hb dX4_plain_1 (by decide) ?_
  refine wd_put (ci := 5) (v := .int (nI 0)) (ty := .int) (C := RX4) (T := TX4) (N := 21) hx hb hts iwX4 tyX4 tyX4_ok nmX4 hown hK.1 hP hS (by omega) (mW_0) rfl 0 (by decide) (hts _ (tg_tail _ tw_423)) (fun _ h9 => h9) rfl (by decide +kernel) (rfl) (rfl) (Nat.le_of_ble_eq_true rfl) dX4_plain_2 (fun H locs hP hS hz => ?_)
  have hP : gP g (mW g w h (nI 0) (nI T) (nI P) mo gb wr nr su pr ob ki fi se (tN M) nd ii sp qu rF rT rD) H := by have h9 : gP g (wd_up (mW g w h rf (nI T) (nI P) mo gb wr nr su pr ob ki fi se (tN M) nd ii sp qu rF rT rD) h (.inr (5, [.int (nI 0), .ref (h + 1), .ref (h + 2), .ref (h + 3), .int (nI T), .ref (h + 4), .ref (h + 5), .ref (h + 6), .int (nI P), .int (mo), .ref (h + 7), .ref (h + 8), .ref (h + 9), .int (gb), .ref (h + 10), .ref (h + 11), .int (wr), .int (nr), .ref (h + 12), .ref (h + 13), .ref (h + 14)]))) H := hP; rw [mW_s0] at h9; exact h9
  refine lv_aload_n hx hb dX4_plain_5 rfl (lv_at hl 0 rfl) ?_
  refine lv_iload_n hx hb dX4_plain_6 rfl (lv_at hl 1 rfl) ?_
  refine cr_Vi (As := [.int (pv)]) (rest := []) ⟨hx, hb, hml, hown, hts⟩ (c_X4_isPath l g s0  w h hs0 (nI 0) (nI T) (nI P) mo gb wr nr su pr ob ki fi se (tN M) nd ii sp qu rF rT rD pv) (cw_V 1 hts tg_tail tw_506 tw_508 tp_21 tw_4 tw_509 rfl rfl (by decide +kernel) ⟨Nat.le_trans (by decide) hRm.1, Nat.le_trans (by decide) hRm.2⟩) hK hP h0s hS (mW_0) rfl rfl rfl hl.1 rfl (Nat.le_of_ble_eq_true rfl) dX4_plain_7 hcs (fun r9 w9 H locs hw hP hS => ?_)
  obtain ⟨e_r9, hw9⟩ := hw
  rw [hw9] at hP
  subst e_r9
  refine lv_if_ne (tgt := 15) hx hb dX4_plain_10 (by decide) (fun c_10 => ?_) (fun c_10 => ?_)
  · have c_10 := zB_1.mp c_10
    obtain ⟨u, hu1, hu, hpv⟩ := ix_path hP4 c_10
    subst hpv
    refine lv_iload_n hx hb dX4_plain_15 rfl (lv_at hl 2 rfl) ?_
    refine cr_Si (As := [.int (sv)]) (rest := []) ⟨hx, hb, hml, hown, hts⟩ (c_X4_isEnd l g s0 (mW g w h (nI 0) (nI T) (nI P) mo gb wr nr su pr ob ki fi se (tN M) nd ii sp qu rF rT rD) sv) (cw_S 1 hts tg_tail tw_534 tw_535 tw_4 tw_536 rfl rfl (by decide +kernel) ⟨Nat.le_trans (by decide) hRm.1, Nat.le_trans (by decide) hRm.2⟩) hK hP h0s hS rfl hl.1 rfl (Nat.le_of_ble_eq_true rfl) dX4_plain_16 hcs (fun r9 w9 H locs hw hP hS => ?_)
    obtain ⟨e_r9, hw9⟩ := hw
    rw [hw9] at hP
    subst e_r9
    refine lv_if_eq (tgt := 39) hx hb dX4_plain_19 (by decide) (fun c_19 => ?_) (fun c_19 => ?_)
    · have c_19 := zB_0.mp c_19
      refine lv_bipush (v := (-2)) hx hb dX4_plain_39 (by decide) ?_
      exact W.iret (v := (-2)) hx hb hr (fun t9 ht hW => ⟨⟨_, (mW g w h (nI 0) (nI T) (nI P) mo gb wr nr su pr ob ki fi se (tN M) nd ii sp qu rF rT rD), rfl, Or.inr (Or.inl ⟨c_10, fun q => c_19 q.1, rfl, rfl⟩), cB_of ht hP⟩, hS.F ht⟩) hS.2.2 dX4_plain_41
    · have c_19 := zB_1.mp c_19
      refine lv_iload_n hx hb dX4_plain_22 rfl (lv_at hl 3 rfl) ?_
      refine cr_Si (As := [.int (ov)]) (rest := []) ⟨hx, hb, hml, hown, hts⟩ (c_X4_isEnd l g s0 (mW g w h (nI 0) (nI T) (nI P) mo gb wr nr su pr ob ki fi se (tN M) nd ii sp qu rF rT rD) ov) (cw_S 1 hts tg_tail tw_534 tw_535 tw_4 tw_536 rfl rfl (by decide +kernel) ⟨Nat.le_trans (by decide) hRm.1, Nat.le_trans (by decide) hRm.2⟩) hK hP h0s hS rfl hl.1 rfl (Nat.le_of_ble_eq_true rfl) dX4_plain_23 hcs (fun r9 w9 H locs hw hP hS => ?_)
      obtain ⟨e_r9, hw9⟩ := hw
      rw [hw9] at hP
      subst e_r9
      refine lv_if_eq (tgt := 39) hx hb dX4_plain_26 (by decide) (fun c_26 => ?_) (fun c_26 => ?_)
      · have c_26 := zB_0.mp c_26
        refine lv_bipush (v := (-2)) hx hb dX4_plain_39 (by decide) ?_
        exact W.iret (v := (-2)) hx hb hr (fun t9 ht hW => ⟨⟨_, (mW g w h (nI 0) (nI T) (nI P) mo gb wr nr su pr ob ki fi se (tN M) nd ii sp qu rF rT rD), rfl, Or.inr (Or.inl ⟨c_10, fun q => c_26 q.2, rfl, rfl⟩), cB_of ht hP⟩, hS.F ht⟩) hS.2.2 dX4_plain_41
      · have c_26 := zB_1.mp c_26
        refine lv_aload_n hx hb dX4_plain_29 rfl (lv_at hl 0 rfl) ?_
        refine lv_iload_n hx hb dX4_plain_30 rfl (lv_at hl 1 rfl) ?_
        refine lv_iload_n hx hb dX4_plain_31 rfl (lv_at hl 2 rfl) ?_
        refine lv_iload_n hx hb dX4_plain_32 rfl (lv_at hl 3 rfl) ?_
        refine cr_Vi (As := [.int (nI u), .int (sv), .int (ov)]) (rest := []) ⟨hx, hb, hml, hown, hts⟩ (c_X4_prepare l g s0  w h hs0 (nI 0) mo gb wr nr su pr ob ki fi se nd ii sp qu rF rT rD P hP4 T hT S O hS9 hO9 M hM9 K A B hKK u hu1 hu sv ov) (cw_V 3 hts tg_tail tw_537 tw_539 tp_23 tw_4 tw_540 rfl rfl (by decide +kernel) ⟨Nat.le_trans (by decide) hRm.1, Nat.le_trans (by decide) hRm.2⟩) hK hP h0s hS (mW_0) rfl rfl rfl hl.1 rfl (Nat.le_of_ble_eq_true rfl) dX4_plain_33 hcs (fun r9 w9 H locs hw hP hS => ?_)
        obtain ⟨e_r9, hw9⟩ := hw
        rw [hw9] at hP
        subst e_r9
        refine lv_goto (tgt := 41) hx hb dX4_plain_36 (by decide) ?_
        exact W.iret (v := nI (sm1 (pp1 ki fi se pr (fg2 (fg1 ii sv ov 32) S O T) S O K A B T mo (fn2 ki A B u (fn1 nd u P) u) (M, sp, qu, nI 0) u).1 u sv ov 32)) hx hb hr (fun t9 ht hW => ⟨⟨_, (mW g w h (nI 0) (nI T) (nI P) mo ((pp1 ki fi se pr (fg2 (fg1 ii sv ov 32) S O T) S O K A B T mo (fn2 ki A B u (fn1 nd u P) u) (M, sp, qu, nI 0) u).2.2.2) wr nr su pr ob ki fi se (tN (pp1 ki fi se pr (fg2 (fg1 ii sv ov 32) S O T) S O K A B T mo (fn2 ki A B u (fn1 nd u P) u) (M, sp, qu, nI 0) u).1) (fn2 ki A B u (fn1 nd u P) u) (fg2 (fg1 ii sv ov 32) S O T) ((pp1 ki fi se pr (fg2 (fg1 ii sv ov 32) S O T) S O K A B T mo (fn2 ki A B u (fn1 nd u P) u) (M, sp, qu, nI 0) u).2.1) ((pp1 ki fi se pr (fg2 (fg1 ii sv ov 32) S O T) S O K A B T mo (fn2 ki A B u (fn1 nd u P) u) (M, sp, qu, nI 0) u).2.2.1) rF rT rD), rfl, Or.inr (Or.inr ⟨u, hu1, hu, rfl, ⟨c_19, c_26⟩, rfl, rfl⟩), cB_of ht hP⟩, hS.F ht⟩) hS.2.2 dX4_plain_41
  · have c_10 := zB_0.mp c_10
    refine lv_iconst (v := (-1)) hx hb dX4_plain_13 (by decide) ?_
    exact W.iret (v := (-1)) hx hb hr (fun t9 ht hW => ⟨⟨_, (mW g w h (nI 0) (nI T) (nI P) mo gb wr nr su pr ob ki fi se (tN M) nd ii sp qu rF rT rD), rfl, Or.inl ⟨c_10, rfl, rfl⟩, cB_of ht hP⟩, hS.F ht⟩) hS.2.2 dX4_plain_14

set_option maxHeartbeats 4000000 in
set_option maxRecDepth 100000 in
theorem lp_rk {p : Program} {l : Launch} {e : Env} {R : Room} {s : State} {m : MethodId} {args : Array Value} {below : List Frame} {meth : Method} {c : Code} {Q : State → Prop} {H0 : Heap} {cells slots : Nat} (g : gX) (s0 : Nat) (w : wd_M) (h : Nat) (hs0 : s0 ≤ h) (rf nt np mo gb wr : Int32) (su pr ob ki fi se ta nd ii sp qu : Nat → Int32) (u x y n9 wf mn : Nat) (sv ov dp : Int32) (t : rT) (hmn : t.2.2.2 + mn ≤ 2000) (hx : p.tables.exec = Jvm.exec) (hb : c.code = cX4_run) (hml : c.maxLocals = 11) (hown : s.vm.findClass RX4 = some m.cls) (hts : ∀ w ∈ Cond.code yX4_run cX4_run 11 (some .int) :: tg, w.before args s = true) (hK : gK g s) (h0s : s0 ≤ H0.size) (hRm : 5 ≤ R.frames ∧ 123 ≤ R.locals) (hcs : cells + 0 ≤ R.cells ∧ slots + 0 ≤ R.slots)  (kx : ∀ (H : Heap) (locs : List Loc) (ls : Array Slot), gP g (mW g w h rf nt np mo gb wr (nI ((rk x y dp t mn).2.2.2)) su pr ob ki fi se ta nd ii sp qu ((rk x y dp t mn).1) ((rk x y dp t mn).2.1) ((rk x y dp t mn).2.2.1)) H → gS s0 H0 H locs → lv_has ls 11 [(0, .ref h), (1, .int (nI u)), (2, .int (sv)), (3, .int (ov)), (4, .int (nI n9)), (5, .int (nI x)), (6, .int (nI wf)), (7, .int (nI y))] → W p l e R s m args below meth c H locs cells slots Q (F0 m 282 ls [])) :
    ∀ (n k : Nat), k ≤ mn → mn + 1 ≤ k + n → ∀ (H : Heap) (locs : List Loc) (ls : Array Slot), gP g (mW g w h rf nt np mo gb wr (nI ((rk x y dp t k).2.2.2)) su pr ob ki fi se ta nd ii sp qu ((rk x y dp t k).1) ((rk x y dp t k).2.1) ((rk x y dp t k).2.2.1)) H → gS s0 H0 H locs → lv_has ls 11 [(0, .ref h), (1, .int (nI u)), (2, .int (sv)), (3, .int (ov)), (4, .int (nI n9)), (5, .int (nI x)), (6, .int (nI wf)), (7, .int (nI y)), (8, .int (nI mn)), (9, .int (dp)), (10, .int (nI k))] → W p l e R s m args below meth c H locs cells slots Q (F0 m 226 ls []) := by
  intro n
  induction n with
  | zero =>
    intro k h1 h2
    exact absurd h2 (by omega)
  | succ n ih =>
    intro k hi hin H locs ls hP hS hl
    refine lv_iload hx hb dX4_run_226 (lv_at hl 10 rfl) ?_
    refine lv_iload hx hb dX4_run_228 (lv_at hl 8 rfl) ?_
    refine lv_icmp_ge (tgt := 282) hx hb dX4_run_230 (by decide) (fun c_230 => ?_) (fun c_230 => ?_)
    · have c_230 := (nI_leI (a := mn) (b := k) (by omega) (by omega)).mp c_230
      have e9 : k = mn := by omega
      try rw [e9] at hP
      try rw [e9] at hl
      exact kx H locs ls hP hS (lv_sub hl [0, 1, 2, 3, 4, 5, 6, 7] rfl)
    · have c_230 := mt (nI_leI (a := mn) (b := k) (by omega) (by omega)).mpr c_230
      refine lv_aload_n hx hb dX4_run_233 rfl (lv_at hl 0 rfl) ?_
      refine wd_get (ci := 5) (v := .ref (h + 12)) (C := RX4) (T := TX4) (N := 21) hx hb hts iwX4 hown hK.1 hP (mW_0) rfl 18 (by decide) (hts _ (tg_tail _ tw_441)) (fun _ h9 => h9) rfl dX4_run_234 ?_
      refine lv_aload_n hx hb dX4_run_237 rfl (lv_at hl 0 rfl) ?_
      refine wd_get (ci := 5) (v := .int (nI ((rk x y dp t k).2.2.2))) (C := RX4) (T := TX4) (N := 21) hx hb hts iwX4 hown hK.1 hP (mW_0) rfl 17 (by decide) (hts _ (tg_tail _ tw_440)) (fun _ h9 => h9) rfl dX4_run_238 ?_
      refine lv_iload hx hb dX4_run_241 (lv_at hl 5 rfl) ?_
      refine wd_istN hx hb hK.1 hP hS (by omega) 0 (k := ((rk x y dp t k).2.2.2)) (mW_12) rfl (by rw [rk_n]; omega) (by decide) dX4_run_243 (fun H locs hP hS hz => ?_)
      have hP : gP g (mW g w h rf nt np mo gb wr (nI ((rk x y dp t k).2.2.2)) su pr ob ki fi se ta nd ii sp qu (upd ((rk x y dp t k).1) ((rk x y dp t k).2.2.2) (nI x)) ((rk x y dp t k).2.1) ((rk x y dp t k).2.2.1)) H := by have h9 : gP g (wd_up (mW g w h rf nt np mo gb wr (nI ((rk x y dp t k).2.2.2)) su pr ob ki fi se ta nd ii sp qu ((rk x y dp t k).1) ((rk x y dp t k).2.1) ((rk x y dp t k).2.2.1)) (h + 12) (wd_iA (g.2 0) 2000 (upd ((rk x y dp t k).1) ((rk x y dp t k).2.2.2) (nI x)))) H := hP; rw [mW_s12] at h9; exact h9
      refine lv_aload_n hx hb dX4_run_244 rfl (lv_at hl 0 rfl) ?_
      refine wd_get (ci := 5) (v := .ref (h + 13)) (C := RX4) (T := TX4) (N := 21) hx hb hts iwX4 hown hK.1 hP (mW_0) rfl 19 (by decide) (hts _ (tg_tail _ tw_442)) (fun _ h9 => h9) rfl dX4_run_245 ?_
      refine lv_aload_n hx hb dX4_run_248 rfl (lv_at hl 0 rfl) ?_
      refine wd_get (ci := 5) (v := .int (nI ((rk x y dp t k).2.2.2))) (C := RX4) (T := TX4) (N := 21) hx hb hts iwX4 hown hK.1 hP (mW_0) rfl 17 (by decide) (hts _ (tg_tail _ tw_440)) (fun _ h9 => h9) rfl dX4_run_249 ?_
      refine lv_iload hx hb dX4_run_252 (lv_at hl 7 rfl) ?_
      refine wd_istN hx hb hK.1 hP hS (by omega) 0 (k := ((rk x y dp t k).2.2.2)) (mW_13) rfl (by rw [rk_n]; omega) (by decide) dX4_run_254 (fun H locs hP hS hz => ?_)
      have hP : gP g (mW g w h rf nt np mo gb wr (nI ((rk x y dp t k).2.2.2)) su pr ob ki fi se ta nd ii sp qu (upd ((rk x y dp t k).1) ((rk x y dp t k).2.2.2) (nI x)) (upd ((rk x y dp t k).2.1) ((rk x y dp t k).2.2.2) (nI y)) ((rk x y dp t k).2.2.1)) H := by have h9 : gP g (wd_up (mW g w h rf nt np mo gb wr (nI ((rk x y dp t k).2.2.2)) su pr ob ki fi se ta nd ii sp qu (upd ((rk x y dp t k).1) ((rk x y dp t k).2.2.2) (nI x)) ((rk x y dp t k).2.1) ((rk x y dp t k).2.2.1)) (h + 13) (wd_iA (g.2 0) 2000 (upd ((rk x y dp t k).2.1) ((rk x y dp t k).2.2.2) (nI y)))) H := hP; rw [mW_s13] at h9; exact h9
      refine lv_aload_n hx hb dX4_run_255 rfl (lv_at hl 0 rfl) ?_
      refine wd_get (ci := 5) (v := .ref (h + 14)) (C := RX4) (T := TX4) (N := 21) hx hb hts iwX4 hown hK.1 hP (mW_0) rfl 20 (by decide) (hts _ (tg_tail _ tw_443)) (fun _ h9 => h9) rfl dX4_run_256 ?_
      refine lv_aload_n hx hb dX4_run_259 rfl (lv_at hl 0 rfl) ?_
      refine wd_get (ci := 5) (v := .int (nI ((rk x y dp t k).2.2.2))) (C := RX4) (T := TX4) (N := 21) hx hb hts iwX4 hown hK.1 hP (mW_0) rfl 17 (by decide) (hts _ (tg_tail _ tw_440)) (fun _ h9 => h9) rfl dX4_run_260 ?_
      refine lv_iload hx hb dX4_run_263 (lv_at hl 9 rfl) ?_
      refine wd_istN hx hb hK.1 hP hS (by omega) 0 (k := ((rk x y dp t k).2.2.2)) (mW_14) rfl (by rw [rk_n]; omega) (by decide) dX4_run_265 (fun H locs hP hS hz => ?_)
      have hP : gP g (mW g w h rf nt np mo gb wr (nI ((rk x y dp t k).2.2.2)) su pr ob ki fi se ta nd ii sp qu (upd ((rk x y dp t k).1) ((rk x y dp t k).2.2.2) (nI x)) (upd ((rk x y dp t k).2.1) ((rk x y dp t k).2.2.2) (nI y)) (upd ((rk x y dp t k).2.2.1) ((rk x y dp t k).2.2.2) (dp))) H := by have h9 : gP g (wd_up (mW g w h rf nt np mo gb wr (nI ((rk x y dp t k).2.2.2)) su pr ob ki fi se ta nd ii sp qu (upd ((rk x y dp t k).1) ((rk x y dp t k).2.2.2) (nI x)) (upd ((rk x y dp t k).2.1) ((rk x y dp t k).2.2.2) (nI y)) ((rk x y dp t k).2.2.1)) (h + 14) (wd_iA (g.2 0) 2000 (upd ((rk x y dp t k).2.2.1) ((rk x y dp t k).2.2.2) (dp)))) H := hP; rw [mW_s14] at h9; exact h9
      refine lv_aload_n hx hb dX4_run_266 rfl (lv_at hl 0 rfl) ?_
      refine lv_dup hx hb dX4_run_267 rfl ?_
      refine wd_get (ci := 5) (v := .int (nI ((rk x y dp t k).2.2.2))) (C := RX4) (T := TX4) (N := 21) hx hb hts iwX4 hown hK.1 hP (mW_0) rfl 17 (by decide) (hts _ (tg_tail _ tw_440)) (fun _ h9 => h9) rfl dX4_run_268 ?_
      refine lv_iconst (v := nI 1) hx hb dX4_run_271 (by decide) ?_
      refine lv_iadd hx hb dX4_run_272 ?_
      refine wd_ti (x' := nI (((rk x y dp t k).2.2.2) + 1)) (nI_add _ _) ?_
      refine wd_put (ci := 5) (v := .int (nI (((rk x y dp t k).2.2.2) + 1))) (ty := .int) (C := RX4) (T := TX4) (N := 21) hx hb hts iwX4 tyX4 tyX4_ok nmX4 hown hK.1 hP hS (by omega) (mW_0) rfl 17 (by decide) (hts _ (tg_tail _ tw_440)) (fun _ h9 => h9) rfl (by decide +kernel) (rfl) (rfl) (Nat.le_of_ble_eq_true rfl) dX4_run_273 (fun H locs hP hS hz => ?_)
      have hP : gP g (mW g w h rf nt np mo gb wr (nI (((rk x y dp t k).2.2.2) + 1)) su pr ob ki fi se ta nd ii sp qu (upd ((rk x y dp t k).1) ((rk x y dp t k).2.2.2) (nI x)) (upd ((rk x y dp t k).2.1) ((rk x y dp t k).2.2.2) (nI y)) (upd ((rk x y dp t k).2.2.1) ((rk x y dp t k).2.2.2) (dp))) H := by have h9 : gP g (wd_up (mW g w h rf nt np mo gb wr (nI ((rk x y dp t k).2.2.2)) su pr ob ki fi se ta nd ii sp qu (upd ((rk x y dp t k).1) ((rk x y dp t k).2.2.2) (nI x)) (upd ((rk x y dp t k).2.1) ((rk x y dp t k).2.2.2) (nI y)) (upd ((rk x y dp t k).2.2.1) ((rk x y dp t k).2.2.2) (dp))) h (.inr (5, [.int (rf), .ref (h + 1), .ref (h + 2), .ref (h + 3), .int (nt), .ref (h + 4), .ref (h + 5), .ref (h + 6), .int (np), .int (mo), .ref (h + 7), .ref (h + 8), .ref (h + 9), .int (gb), .ref (h + 10), .ref (h + 11), .int (wr), .int (nI (((rk x y dp t k).2.2.2) + 1)), .ref (h + 12), .ref (h + 13), .ref (h + 14)]))) H := hP; rw [mW_s0] at h9; exact h9
      refine lv_iinc (v := nI (k + 1)) (lv' := [(10, .int (nI (k + 1))), (0, .ref h), (1, .int (nI u)), (2, .int (sv)), (3, .int (ov)), (4, .int (nI n9)), (5, .int (nI x)), (6, .int (nI wf)), (7, .int (nI y)), (8, .int (nI mn)), (9, .int (dp))]) hx hb dX4_run_276 hl (k := 10) rfl (nI_1 _) (by decide) rfl (fun ls hl => ?_)
      refine lv_goto (tgt := 226) hx hb dX4_run_279 (by decide) ?_
      have e8 : (mW g w h rf nt np mo gb wr (nI (((rk x y dp t k).2.2.2) + 1)) su pr ob ki fi se ta nd ii sp qu (upd ((rk x y dp t k).1) ((rk x y dp t k).2.2.2) (nI x)) (upd ((rk x y dp t k).2.1) ((rk x y dp t k).2.2.2) (nI y)) (upd ((rk x y dp t k).2.2.1) ((rk x y dp t k).2.2.2) (dp))) = (mW g w h rf nt np mo gb wr (nI ((rk x y dp t (k + 1)).2.2.2)) su pr ob ki fi se ta nd ii sp qu ((rk x y dp t (k + 1)).1) ((rk x y dp t (k + 1)).2.1) ((rk x y dp t (k + 1)).2.2.1)) := by rw [rk]
      rw [e8] at hP
      have hl : lv_has ls 11 [(0, .ref h), (1, .int (nI u)), (2, .int (sv)), (3, .int (ov)), (4, .int (nI n9)), (5, .int (nI x)), (6, .int (nI wf)), (7, .int (nI y)), (8, .int (nI mn)), (9, .int (dp)), (10, .int (nI (k + 1)))] := lv_sub hl [1, 2, 3, 4, 5, 6, 7, 8, 9, 10, 0] rfl
      exact ih (k + 1) (by omega) (by omega) _ _ ls hP hS hl

set_option maxHeartbeats 4000000 in
set_option maxRecDepth 100000 in
theorem lp_ry {p : Program} {l : Launch} {e : Env} {R : Room} {s : State} {m : MethodId} {args : Array Value} {below : List Frame} {meth : Method} {c : Code} {Q : State → Prop} {H0 : Heap} {cells slots : Nat} (g : gX) (s0 : Nat) (w : wd_M) (h : Nat) (hs0 : s0 ≤ h) (rf nt np mo gb wr : Int32) (su pr ob ki fi se nd ii sp qu : Nat → Int32) (M : Nat → Nat) (hM9 : mB M) (u x n9 wf : Nat) (hu : u ≤ 40) (hx1 : x < 32) (sv ov : Int32) (t : rT) (hwf : wf ≤ 1) (hmn : sm2 M u sv ov x t.2.2.2 32 ≤ 2000) (hx : p.tables.exec = Jvm.exec) (hb : c.code = cX4_run) (hml : c.maxLocals = 11) (hown : s.vm.findClass RX4 = some m.cls) (hts : ∀ w ∈ Cond.code yX4_run cX4_run 11 (some .int) :: tg, w.before args s = true) (hK : gK g s) (h0s : s0 ≤ H0.size) (hRm : 5 ≤ R.frames ∧ 123 ≤ R.locals) (hcs : cells + 0 ≤ R.cells ∧ slots + 0 ≤ R.slots)  (kx : ∀ (H : Heap) (locs : List Loc) (ls : Array Slot), gP g (mW g w h rf nt np mo gb wr (nI ((ry ki ii sp M u sv ov wf x t 32).2.2.2)) su pr ob ki fi se (tN M) nd ii sp qu ((ry ki ii sp M u sv ov wf x t 32).1) ((ry ki ii sp M u sv ov wf x t 32).2.1) ((ry ki ii sp M u sv ov wf x t 32).2.2.1)) H → gS s0 H0 H locs → lv_has ls 11 [(0, .ref h), (1, .int (nI u)), (2, .int (sv)), (3, .int (ov)), (4, .int (nI n9)), (5, .int (nI x))] → W p l e R s m args below meth c H locs cells slots Q (F0 m 288 ls [])) :
    ∀ (n y : Nat), y ≤ 32 → 32 + 1 ≤ y + n → ∀ (H : Heap) (locs : List Loc) (ls : Array Slot), gP g (mW g w h rf nt np mo gb wr (nI ((ry ki ii sp M u sv ov wf x t y).2.2.2)) su pr ob ki fi se (tN M) nd ii sp qu ((ry ki ii sp M u sv ov wf x t y).1) ((ry ki ii sp M u sv ov wf x t y).2.1) ((ry ki ii sp M u sv ov wf x t y).2.2.1)) H → gS s0 H0 H locs → lv_has ls 11 [(0, .ref h), (1, .int (nI u)), (2, .int (sv)), (3, .int (ov)), (4, .int (nI n9)), (5, .int (nI x)), (6, .int (nI wf)), (7, .int (nI y))] → W p l e R s m args below meth c H locs cells slots Q (F0 m 129 ls []) := by
  intro n
  induction n with
  | zero =>
    intro y h1 h2
    exact absurd h2 (by omega)
  | succ n ih =>
    intro y hi hin H locs ls hP hS hl
    refine lv_iload hx hb dX4_run_129 (lv_at hl 7 rfl) ?_
    refine lv_bipush (v := nI 32) hx hb dX4_run_131 (by decide) ?_
    refine lv_icmp_ge (tgt := 288) hx hb dX4_run_133 (by decide) (fun c_133 => ?_) (fun c_133 => ?_)
    · have c_133 := (nI_leI (a := 32) (b := y) (by omega) (by omega)).mp c_133
      have e9 : y = 32 := by omega
      try rw [e9] at hP
      try rw [e9] at hl
      exact kx H locs ls hP hS (lv_sub hl [0, 1, 2, 3, 4, 5] rfl)
    · have c_133 := mt (nI_leI (a := 32) (b := y) (by omega) (by omega)).mpr c_133
      refine lv_iload hx hb dX4_run_136 (lv_at hl 5 rfl) ?_
      refine lv_iload hx hb dX4_run_138 (lv_at hl 7 rfl) ?_
      refine lv_iload_n hx hb dX4_run_140 rfl (lv_at hl 2 rfl) ?_
      refine lv_iload_n hx hb dX4_run_141 rfl (lv_at hl 3 rfl) ?_
      refine cr_Si (As := [.int (nI x), .int (nI y), .int (sv), .int (ov)]) (rest := []) ⟨hx, hb, hml, hown, hts⟩ (c_X4_fits l g s0 (mW g w h rf nt np mo gb wr (nI ((ry ki ii sp M u sv ov wf x t y).2.2.2)) su pr ob ki fi se (tN M) nd ii sp qu ((ry ki ii sp M u sv ov wf x t y).1) ((ry ki ii sp M u sv ov wf x t y).2.1) ((ry ki ii sp M u sv ov wf x t y).2.2.1)) (nI x) (nI y) sv ov) (cw_S 4 hts tg_tail tw_578 tw_579 tw_4 tw_580 rfl rfl (by decide +kernel) ⟨Nat.le_trans (by decide) hRm.1, Nat.le_trans (by decide) hRm.2⟩) hK hP h0s hS rfl hl.1 rfl (Nat.le_of_ble_eq_true rfl) dX4_run_142 hcs (fun r9 w9 H locs hw hP hS => ?_)
      obtain ⟨e_r9, hw9⟩ := hw
      rw [hw9] at hP
      subst e_r9
      refine lv_if_eq (tgt := 160) hx hb dX4_run_145 (by decide) (fun c_145 => ?_) (fun c_145 => ?_)
      · have c_145 := zB_0.mp c_145
        refine lv_iconst (v := nI 0) hx hb dX4_run_160 (by decide) ?_
        refine lv_istore (lv' := [(8, .int (nI 0)), (0, .ref h), (1, .int (nI u)), (2, .int (sv)), (3, .int (ov)), (4, .int (nI n9)), (5, .int (nI x)), (6, .int (nI wf)), (7, .int (nI y))]) hx hb dX4_run_161 hl (by decide) rfl (fun ls hl => ?_)
        refine lv_iload hx hb dX4_run_163 (lv_at hl 6 rfl) ?_
        refine lv_iload hx hb dX4_run_165 (lv_at hl 8 rfl) ?_
        refine lv_icmp_ne (tgt := 205) hx hb dX4_run_167 (by decide) (fun c_167 => ?_) (fun c_167 => ?_)
        · have c_167 := mt (nI_eq (a := x) (b := y) (by omega) (by omega)).mpr c_167
          refine lv_iload hx hb dX4_run_205 (lv_at hl 7 rfl) ?_
          refine lv_if_eq (tgt := 220) hx hb dX4_run_207 (by decide) (fun c_207 => ?_) (fun c_207 => ?_)
          · have c_207 := (nI_eq (a := wf) (b := 0) (by omega) (by omega)).mp (show nI wf = nI 0 from c_207)
            refine lv_iconst (v := nI 1) hx hb dX4_run_220 (by decide) ?_
            refine lv_istore (lv' := [(9, .int (nI 1)), (8, .int (nI 0)), (0, .ref h), (1, .int (nI u)), (2, .int (sv)), (3, .int (ov)), (4, .int (nI n9)), (5, .int (nI x)), (6, .int (nI wf)), (7, .int (nI y))]) hx hb dX4_run_221 hl (by decide) rfl (fun ls hl => ?_)
            refine lv_iconst (v := nI 0) hx hb dX4_run_223 (by decide) ?_
            refine lv_istore (lv' := [(10, .int (nI 0)), (9, .int (nI 1)), (8, .int (nI 0)), (0, .ref h), (1, .int (nI u)), (2, .int (sv)), (3, .int (ov)), (4, .int (nI n9)), (5, .int (nI x)), (6, .int (nI wf)), (7, .int (nI y))]) hx hb dX4_run_224 hl (by decide) rfl (fun ls hl => ?_)
            have m9 : mny M u sv ov x y = 0 := by rw [mny, if_neg c_145]
            have hm9 := hM9 (1024 * u + 32 * x + y)
            have b9 : (ry ki ii sp M u sv ov wf x t y).2.2.2 + 0 ≤ 2000 := by have h7 := ry_n (ki := ki) (ii := ii) (sp := sp) (M := M) (u := u) (sv := sv) (ov := ov) (wf := wf) (x := x) (t := t) (y + 1); have h8 := sm2_mono (M := M) (u := u) (sv := sv) (ov := ov) (x := x) (n0 := t.2.2.2) (32 - (y + 1)) (y + 1); rw [ry, rk_n, m9] at h7; rw [show y + 1 + (32 - (y + 1)) = 32 by omega] at h8; omega
            have e8 : (mW g w h rf nt np mo gb wr (nI ((ry ki ii sp M u sv ov wf x t y).2.2.2)) su pr ob ki fi se (tN M) nd ii sp qu ((ry ki ii sp M u sv ov wf x t y).1) ((ry ki ii sp M u sv ov wf x t y).2.1) ((ry ki ii sp M u sv ov wf x t y).2.2.1)) = (mW g w h rf nt np mo gb wr (nI ((rk x y (nI 1) ((ry ki ii sp M u sv ov wf x t y)) 0).2.2.2)) su pr ob ki fi se (tN M) nd ii sp qu ((rk x y (nI 1) ((ry ki ii sp M u sv ov wf x t y)) 0).1) ((rk x y (nI 1) ((ry ki ii sp M u sv ov wf x t y)) 0).2.1) ((rk x y (nI 1) ((ry ki ii sp M u sv ov wf x t y)) 0).2.2.1)) := by rw [rk]
            rw [e8] at hP
            have hl : lv_has ls 11 [(0, .ref h), (1, .int (nI u)), (2, .int (sv)), (3, .int (ov)), (4, .int (nI n9)), (5, .int (nI x)), (6, .int (nI wf)), (7, .int (nI y)), (8, .int (nI 0)), (9, .int (nI 1)), (10, .int (nI 0))] := lv_sub hl [3, 4, 5, 6, 7, 8, 9, 10, 2, 1, 0] rfl
            refine lp_rk g s0 w h hs0 rf nt np mo gb wr su pr ob ki fi se (tN M) nd ii sp qu u x y n9 wf 0 sv ov (nI 1) (ry ki ii sp M u sv ov wf x t y) b9 hx hb hml hown hts hK h0s hRm hcs  ?_ (0 + 1) 0 (by omega) (by omega) _ _ ls hP hS hl
            intro H locs ls hP hS hl
            refine lv_iinc (v := nI (y + 1)) (lv' := [(7, .int (nI (y + 1))), (0, .ref h), (1, .int (nI u)), (2, .int (sv)), (3, .int (ov)), (4, .int (nI n9)), (5, .int (nI x)), (6, .int (nI wf))]) hx hb dX4_run_282 hl (k := 7) rfl (nI_1 _) (by decide) rfl (fun ls hl => ?_)
            refine lv_goto (tgt := 129) hx hb dX4_run_285 (by decide) ?_
            have d9 : dpf ki ii sp u wf x y = nI 1 := by clear hts hP hK hx hb hown hS hRm hcs hl ih; unfold dpf; grind
            have f9 : ry ki ii sp M u sv ov wf x t (y + 1) = rk x y (nI 1) (ry ki ii sp M u sv ov wf x t y) 0 := by rw [ry, m9, d9]
            have e8 : (mW g w h rf nt np mo gb wr (nI ((rk x y (nI 1) ((ry ki ii sp M u sv ov wf x t y)) 0).2.2.2)) su pr ob ki fi se (tN M) nd ii sp qu ((rk x y (nI 1) ((ry ki ii sp M u sv ov wf x t y)) 0).1) ((rk x y (nI 1) ((ry ki ii sp M u sv ov wf x t y)) 0).2.1) ((rk x y (nI 1) ((ry ki ii sp M u sv ov wf x t y)) 0).2.2.1)) = (mW g w h rf nt np mo gb wr (nI ((ry ki ii sp M u sv ov wf x t (y + 1)).2.2.2)) su pr ob ki fi se (tN M) nd ii sp qu ((ry ki ii sp M u sv ov wf x t (y + 1)).1) ((ry ki ii sp M u sv ov wf x t (y + 1)).2.1) ((ry ki ii sp M u sv ov wf x t (y + 1)).2.2.1)) := by rw [f9]
            rw [e8] at hP
            have hl : lv_has ls 11 [(0, .ref h), (1, .int (nI u)), (2, .int (sv)), (3, .int (ov)), (4, .int (nI n9)), (5, .int (nI x)), (6, .int (nI wf)), (7, .int (nI (y + 1)))] := lv_sub hl [1, 2, 3, 4, 5, 6, 7, 0] rfl
            exact ih (y + 1) (by omega) (by omega) _ _ ls hP hS hl
          · have c_207 := mt (nI_eq (a := wf) (b := 0) (by omega) (by omega)).mpr (show ¬ (nI wf = nI 0) from c_207)
            refine lv_aload_n hx hb dX4_run_210 rfl (lv_at hl 1 rfl) ?_
            refine wd_get (ci := 5) (v := .ref (h + 10)) (C := RX4) (T := TX4) (N := 21) hx hb hts iwX4 hown hK.1 hP (mW_0) rfl 14 (by decide) (hts _ (tg_tail _ tw_437)) (fun _ h9 => h9) rfl dX4_run_211 ?_
            refine lv_iload hx hb dX4_run_214 (lv_at hl 8 rfl) ?_
            refine wd_ildN hx hb hK.1 hP 0 (k := y) (mW_10) rfl (by omega) (by decide) dX4_run_216 ?_
            refine lv_goto (tgt := 221) hx hb dX4_run_217 (by decide) ?_
            refine lv_istore (lv' := [(9, .int (sp y)), (8, .int (nI 0)), (0, .ref h), (1, .int (nI u)), (2, .int (sv)), (3, .int (ov)), (4, .int (nI n9)), (5, .int (nI x)), (6, .int (nI wf)), (7, .int (nI y))]) hx hb dX4_run_221 hl (by decide) rfl (fun ls hl => ?_)
            refine lv_iconst (v := nI 0) hx hb dX4_run_223 (by decide) ?_
            refine lv_istore (lv' := [(10, .int (nI 0)), (9, .int (sp y)), (8, .int (nI 0)), (0, .ref h), (1, .int (nI u)), (2, .int (sv)), (3, .int (ov)), (4, .int (nI n9)), (5, .int (nI x)), (6, .int (nI wf)), (7, .int (nI y))]) hx hb dX4_run_224 hl (by decide) rfl (fun ls hl => ?_)
            have m9 : mny M u sv ov x y = 0 := by rw [mny, if_neg c_145]
            have hm9 := hM9 (1024 * u + 32 * x + y)
            have b9 : (ry ki ii sp M u sv ov wf x t y).2.2.2 + 0 ≤ 2000 := by have h7 := ry_n (ki := ki) (ii := ii) (sp := sp) (M := M) (u := u) (sv := sv) (ov := ov) (wf := wf) (x := x) (t := t) (y + 1); have h8 := sm2_mono (M := M) (u := u) (sv := sv) (ov := ov) (x := x) (n0 := t.2.2.2) (32 - (y + 1)) (y + 1); rw [ry, rk_n, m9] at h7; rw [show y + 1 + (32 - (y + 1)) = 32 by omega] at h8; omega
            have e8 : (mW g w h rf nt np mo gb wr (nI ((ry ki ii sp M u sv ov wf x t y).2.2.2)) su pr ob ki fi se (tN M) nd ii sp qu ((ry ki ii sp M u sv ov wf x t y).1) ((ry ki ii sp M u sv ov wf x t y).2.1) ((ry ki ii sp M u sv ov wf x t y).2.2.1)) = (mW g w h rf nt np mo gb wr (nI ((rk x y (sp y) ((ry ki ii sp M u sv ov wf x t y)) 0).2.2.2)) su pr ob ki fi se (tN M) nd ii sp qu ((rk x y (sp y) ((ry ki ii sp M u sv ov wf x t y)) 0).1) ((rk x y (sp y) ((ry ki ii sp M u sv ov wf x t y)) 0).2.1) ((rk x y (sp y) ((ry ki ii sp M u sv ov wf x t y)) 0).2.2.1)) := by rw [rk]
            rw [e8] at hP
            have hl : lv_has ls 11 [(0, .ref h), (1, .int (nI u)), (2, .int (sv)), (3, .int (ov)), (4, .int (nI n9)), (5, .int (nI x)), (6, .int (nI wf)), (7, .int (nI y)), (8, .int (nI 0)), (9, .int (sp y)), (10, .int (nI 0))] := lv_sub hl [3, 4, 5, 6, 7, 8, 9, 10, 2, 1, 0] rfl
            refine lp_rk g s0 w h hs0 rf nt np mo gb wr su pr ob ki fi se (tN M) nd ii sp qu u x y n9 wf 0 sv ov (sp y) (ry ki ii sp M u sv ov wf x t y) b9 hx hb hml hown hts hK h0s hRm hcs  ?_ (0 + 1) 0 (by omega) (by omega) _ _ ls hP hS hl
            intro H locs ls hP hS hl
            refine lv_iinc (v := nI (y + 1)) (lv' := [(7, .int (nI (y + 1))), (0, .ref h), (1, .int (nI u)), (2, .int (sv)), (3, .int (ov)), (4, .int (nI n9)), (5, .int (nI x)), (6, .int (nI wf))]) hx hb dX4_run_282 hl (k := 7) rfl (nI_1 _) (by decide) rfl (fun ls hl => ?_)
            refine lv_goto (tgt := 129) hx hb dX4_run_285 (by decide) ?_
            have d9 : dpf ki ii sp u wf x y = sp y := by clear hts hP hK hx hb hown hS hRm hcs hl ih; unfold dpf; grind
            have f9 : ry ki ii sp M u sv ov wf x t (y + 1) = rk x y (sp y) (ry ki ii sp M u sv ov wf x t y) 0 := by rw [ry, m9, d9]
            have e8 : (mW g w h rf nt np mo gb wr (nI ((rk x y (sp y) ((ry ki ii sp M u sv ov wf x t y)) 0).2.2.2)) su pr ob ki fi se (tN M) nd ii sp qu ((rk x y (sp y) ((ry ki ii sp M u sv ov wf x t y)) 0).1) ((rk x y (sp y) ((ry ki ii sp M u sv ov wf x t y)) 0).2.1) ((rk x y (sp y) ((ry ki ii sp M u sv ov wf x t y)) 0).2.2.1)) = (mW g w h rf nt np mo gb wr (nI ((ry ki ii sp M u sv ov wf x t (y + 1)).2.2.2)) su pr ob ki fi se (tN M) nd ii sp qu ((ry ki ii sp M u sv ov wf x t (y + 1)).1) ((ry ki ii sp M u sv ov wf x t (y + 1)).2.1) ((ry ki ii sp M u sv ov wf x t (y + 1)).2.2.1)) := by rw [f9]
            rw [e8] at hP
            have hl : lv_has ls 11 [(0, .ref h), (1, .int (nI u)), (2, .int (sv)), (3, .int (ov)), (4, .int (nI n9)), (5, .int (nI x)), (6, .int (nI wf)), (7, .int (nI (y + 1)))] := lv_sub hl [1, 2, 3, 4, 5, 6, 7, 0] rfl
            exact ih (y + 1) (by omega) (by omega) _ _ ls hP hS hl
        · have c_167 := (nI_eq (a := x) (b := y) (by omega) (by omega)).mp c_167
          refine lv_aload_n hx hb dX4_run_170 rfl (lv_at hl 1 rfl) ?_
          refine wd_get (ci := 5) (v := .ref (h + 4)) (C := RX4) (T := TX4) (N := 21) hx hb hts iwX4 hown hK.1 hP (mW_0) rfl 5 (by decide) (hts _ (tg_tail _ tw_428)) (fun _ h9 => h9) rfl dX4_run_171 ?_
          refine lv_iload_n hx hb dX4_run_174 rfl (lv_at hl 2 rfl) ?_
          refine wd_ildN hx hb hK.1 hP 0 (k := u) (mW_4) rfl (by omega) (by decide) dX4_run_175 ?_
          refine lv_iconst (v := nI 4) hx hb dX4_run_176 (by decide) ?_
          refine lv_icmp_eq (tgt := 201) hx hb dX4_run_177 (by decide) (fun c_177 => ?_) (fun c_177 => ?_)
          · refine lv_iconst (v := nI 0) hx hb dX4_run_201 (by decide) ?_
            refine lv_goto (tgt := 221) hx hb dX4_run_202 (by decide) ?_
            refine lv_istore (lv' := [(9, .int (nI 0)), (8, .int (nI 0)), (0, .ref h), (1, .int (nI u)), (2, .int (sv)), (3, .int (ov)), (4, .int (nI n9)), (5, .int (nI x)), (6, .int (nI wf)), (7, .int (nI y))]) hx hb dX4_run_221 hl (by decide) rfl (fun ls hl => ?_)
            refine lv_iconst (v := nI 0) hx hb dX4_run_223 (by decide) ?_
            refine lv_istore (lv' := [(10, .int (nI 0)), (9, .int (nI 0)), (8, .int (nI 0)), (0, .ref h), (1, .int (nI u)), (2, .int (sv)), (3, .int (ov)), (4, .int (nI n9)), (5, .int (nI x)), (6, .int (nI wf)), (7, .int (nI y))]) hx hb dX4_run_224 hl (by decide) rfl (fun ls hl => ?_)
            have m9 : mny M u sv ov x y = 0 := by rw [mny, if_neg c_145]
            have hm9 := hM9 (1024 * u + 32 * x + y)
            have b9 : (ry ki ii sp M u sv ov wf x t y).2.2.2 + 0 ≤ 2000 := by have h7 := ry_n (ki := ki) (ii := ii) (sp := sp) (M := M) (u := u) (sv := sv) (ov := ov) (wf := wf) (x := x) (t := t) (y + 1); have h8 := sm2_mono (M := M) (u := u) (sv := sv) (ov := ov) (x := x) (n0 := t.2.2.2) (32 - (y + 1)) (y + 1); rw [ry, rk_n, m9] at h7; rw [show y + 1 + (32 - (y + 1)) = 32 by omega] at h8; omega
            have e8 : (mW g w h rf nt np mo gb wr (nI ((ry ki ii sp M u sv ov wf x t y).2.2.2)) su pr ob ki fi se (tN M) nd ii sp qu ((ry ki ii sp M u sv ov wf x t y).1) ((ry ki ii sp M u sv ov wf x t y).2.1) ((ry ki ii sp M u sv ov wf x t y).2.2.1)) = (mW g w h rf nt np mo gb wr (nI ((rk x y (nI 0) ((ry ki ii sp M u sv ov wf x t y)) 0).2.2.2)) su pr ob ki fi se (tN M) nd ii sp qu ((rk x y (nI 0) ((ry ki ii sp M u sv ov wf x t y)) 0).1) ((rk x y (nI 0) ((ry ki ii sp M u sv ov wf x t y)) 0).2.1) ((rk x y (nI 0) ((ry ki ii sp M u sv ov wf x t y)) 0).2.2.1)) := by rw [rk]
            rw [e8] at hP
            have hl : lv_has ls 11 [(0, .ref h), (1, .int (nI u)), (2, .int (sv)), (3, .int (ov)), (4, .int (nI n9)), (5, .int (nI x)), (6, .int (nI wf)), (7, .int (nI y)), (8, .int (nI 0)), (9, .int (nI 0)), (10, .int (nI 0))] := lv_sub hl [3, 4, 5, 6, 7, 8, 9, 10, 2, 1, 0] rfl
            refine lp_rk g s0 w h hs0 rf nt np mo gb wr su pr ob ki fi se (tN M) nd ii sp qu u x y n9 wf 0 sv ov (nI 0) (ry ki ii sp M u sv ov wf x t y) b9 hx hb hml hown hts hK h0s hRm hcs  ?_ (0 + 1) 0 (by omega) (by omega) _ _ ls hP hS hl
            intro H locs ls hP hS hl
            refine lv_iinc (v := nI (y + 1)) (lv' := [(7, .int (nI (y + 1))), (0, .ref h), (1, .int (nI u)), (2, .int (sv)), (3, .int (ov)), (4, .int (nI n9)), (5, .int (nI x)), (6, .int (nI wf))]) hx hb dX4_run_282 hl (k := 7) rfl (nI_1 _) (by decide) rfl (fun ls hl => ?_)
            refine lv_goto (tgt := 129) hx hb dX4_run_285 (by decide) ?_
            have d9 : dpf ki ii sp u wf x y = nI 0 := by clear hts hP hK hx hb hown hS hRm hcs hl ih; unfold dpf; grind
            have f9 : ry ki ii sp M u sv ov wf x t (y + 1) = rk x y (nI 0) (ry ki ii sp M u sv ov wf x t y) 0 := by rw [ry, m9, d9]
            have e8 : (mW g w h rf nt np mo gb wr (nI ((rk x y (nI 0) ((ry ki ii sp M u sv ov wf x t y)) 0).2.2.2)) su pr ob ki fi se (tN M) nd ii sp qu ((rk x y (nI 0) ((ry ki ii sp M u sv ov wf x t y)) 0).1) ((rk x y (nI 0) ((ry ki ii sp M u sv ov wf x t y)) 0).2.1) ((rk x y (nI 0) ((ry ki ii sp M u sv ov wf x t y)) 0).2.2.1)) = (mW g w h rf nt np mo gb wr (nI ((ry ki ii sp M u sv ov wf x t (y + 1)).2.2.2)) su pr ob ki fi se (tN M) nd ii sp qu ((ry ki ii sp M u sv ov wf x t (y + 1)).1) ((ry ki ii sp M u sv ov wf x t (y + 1)).2.1) ((ry ki ii sp M u sv ov wf x t (y + 1)).2.2.1)) := by rw [f9]
            rw [e8] at hP
            have hl : lv_has ls 11 [(0, .ref h), (1, .int (nI u)), (2, .int (sv)), (3, .int (ov)), (4, .int (nI n9)), (5, .int (nI x)), (6, .int (nI wf)), (7, .int (nI (y + 1)))] := lv_sub hl [1, 2, 3, 4, 5, 6, 7, 0] rfl
            exact ih (y + 1) (by omega) (by omega) _ _ ls hP hS hl
          · refine lv_aload_n hx hb dX4_run_180 rfl (lv_at hl 1 rfl) ?_
            refine wd_get (ci := 5) (v := .ref (h + 4)) (C := RX4) (T := TX4) (N := 21) hx hb hts iwX4 hown hK.1 hP (mW_0) rfl 5 (by decide) (hts _ (tg_tail _ tw_428)) (fun _ h9 => h9) rfl dX4_run_181 ?_
            refine lv_iload_n hx hb dX4_run_184 rfl (lv_at hl 2 rfl) ?_
            refine wd_ildN hx hb hK.1 hP 0 (k := u) (mW_4) rfl (by omega) (by decide) dX4_run_185 ?_
            refine lv_bipush (v := nI 6) hx hb dX4_run_186 (by decide) ?_
            refine lv_icmp_ne (tgt := 205) hx hb dX4_run_188 (by decide) (fun c_188 => ?_) (fun c_188 => ?_)
            · refine lv_iload hx hb dX4_run_205 (lv_at hl 7 rfl) ?_
              refine lv_if_eq (tgt := 220) hx hb dX4_run_207 (by decide) (fun c_207 => ?_) (fun c_207 => ?_)
              · have c_207 := (nI_eq (a := wf) (b := 0) (by omega) (by omega)).mp (show nI wf = nI 0 from c_207)
                refine lv_iconst (v := nI 1) hx hb dX4_run_220 (by decide) ?_
                refine lv_istore (lv' := [(9, .int (nI 1)), (8, .int (nI 0)), (0, .ref h), (1, .int (nI u)), (2, .int (sv)), (3, .int (ov)), (4, .int (nI n9)), (5, .int (nI x)), (6, .int (nI wf)), (7, .int (nI y))]) hx hb dX4_run_221 hl (by decide) rfl (fun ls hl => ?_)
                refine lv_iconst (v := nI 0) hx hb dX4_run_223 (by decide) ?_
                refine lv_istore (lv' := [(10, .int (nI 0)), (9, .int (nI 1)), (8, .int (nI 0)), (0, .ref h), (1, .int (nI u)), (2, .int (sv)), (3, .int (ov)), (4, .int (nI n9)), (5, .int (nI x)), (6, .int (nI wf)), (7, .int (nI y))]) hx hb dX4_run_224 hl (by decide) rfl (fun ls hl => ?_)
                have m9 : mny M u sv ov x y = 0 := by rw [mny, if_neg c_145]
                have hm9 := hM9 (1024 * u + 32 * x + y)
                have b9 : (ry ki ii sp M u sv ov wf x t y).2.2.2 + 0 ≤ 2000 := by have h7 := ry_n (ki := ki) (ii := ii) (sp := sp) (M := M) (u := u) (sv := sv) (ov := ov) (wf := wf) (x := x) (t := t) (y + 1); have h8 := sm2_mono (M := M) (u := u) (sv := sv) (ov := ov) (x := x) (n0 := t.2.2.2) (32 - (y + 1)) (y + 1); rw [ry, rk_n, m9] at h7; rw [show y + 1 + (32 - (y + 1)) = 32 by omega] at h8; omega
                have e8 : (mW g w h rf nt np mo gb wr (nI ((ry ki ii sp M u sv ov wf x t y).2.2.2)) su pr ob ki fi se (tN M) nd ii sp qu ((ry ki ii sp M u sv ov wf x t y).1) ((ry ki ii sp M u sv ov wf x t y).2.1) ((ry ki ii sp M u sv ov wf x t y).2.2.1)) = (mW g w h rf nt np mo gb wr (nI ((rk x y (nI 1) ((ry ki ii sp M u sv ov wf x t y)) 0).2.2.2)) su pr ob ki fi se (tN M) nd ii sp qu ((rk x y (nI 1) ((ry ki ii sp M u sv ov wf x t y)) 0).1) ((rk x y (nI 1) ((ry ki ii sp M u sv ov wf x t y)) 0).2.1) ((rk x y (nI 1) ((ry ki ii sp M u sv ov wf x t y)) 0).2.2.1)) := by rw [rk]
                rw [e8] at hP
                have hl : lv_has ls 11 [(0, .ref h), (1, .int (nI u)), (2, .int (sv)), (3, .int (ov)), (4, .int (nI n9)), (5, .int (nI x)), (6, .int (nI wf)), (7, .int (nI y)), (8, .int (nI 0)), (9, .int (nI 1)), (10, .int (nI 0))] := lv_sub hl [3, 4, 5, 6, 7, 8, 9, 10, 2, 1, 0] rfl
                refine lp_rk g s0 w h hs0 rf nt np mo gb wr su pr ob ki fi se (tN M) nd ii sp qu u x y n9 wf 0 sv ov (nI 1) (ry ki ii sp M u sv ov wf x t y) b9 hx hb hml hown hts hK h0s hRm hcs  ?_ (0 + 1) 0 (by omega) (by omega) _ _ ls hP hS hl
                intro H locs ls hP hS hl
                refine lv_iinc (v := nI (y + 1)) (lv' := [(7, .int (nI (y + 1))), (0, .ref h), (1, .int (nI u)), (2, .int (sv)), (3, .int (ov)), (4, .int (nI n9)), (5, .int (nI x)), (6, .int (nI wf))]) hx hb dX4_run_282 hl (k := 7) rfl (nI_1 _) (by decide) rfl (fun ls hl => ?_)
                refine lv_goto (tgt := 129) hx hb dX4_run_285 (by decide) ?_
                have d9 : dpf ki ii sp u wf x y = nI 1 := by clear hts hP hK hx hb hown hS hRm hcs hl ih; unfold dpf; grind
                have f9 : ry ki ii sp M u sv ov wf x t (y + 1) = rk x y (nI 1) (ry ki ii sp M u sv ov wf x t y) 0 := by rw [ry, m9, d9]
                have e8 : (mW g w h rf nt np mo gb wr (nI ((rk x y (nI 1) ((ry ki ii sp M u sv ov wf x t y)) 0).2.2.2)) su pr ob ki fi se (tN M) nd ii sp qu ((rk x y (nI 1) ((ry ki ii sp M u sv ov wf x t y)) 0).1) ((rk x y (nI 1) ((ry ki ii sp M u sv ov wf x t y)) 0).2.1) ((rk x y (nI 1) ((ry ki ii sp M u sv ov wf x t y)) 0).2.2.1)) = (mW g w h rf nt np mo gb wr (nI ((ry ki ii sp M u sv ov wf x t (y + 1)).2.2.2)) su pr ob ki fi se (tN M) nd ii sp qu ((ry ki ii sp M u sv ov wf x t (y + 1)).1) ((ry ki ii sp M u sv ov wf x t (y + 1)).2.1) ((ry ki ii sp M u sv ov wf x t (y + 1)).2.2.1)) := by rw [f9]
                rw [e8] at hP
                have hl : lv_has ls 11 [(0, .ref h), (1, .int (nI u)), (2, .int (sv)), (3, .int (ov)), (4, .int (nI n9)), (5, .int (nI x)), (6, .int (nI wf)), (7, .int (nI (y + 1)))] := lv_sub hl [1, 2, 3, 4, 5, 6, 7, 0] rfl
                exact ih (y + 1) (by omega) (by omega) _ _ ls hP hS hl
              · have c_207 := mt (nI_eq (a := wf) (b := 0) (by omega) (by omega)).mpr (show ¬ (nI wf = nI 0) from c_207)
                refine lv_aload_n hx hb dX4_run_210 rfl (lv_at hl 1 rfl) ?_
                refine wd_get (ci := 5) (v := .ref (h + 10)) (C := RX4) (T := TX4) (N := 21) hx hb hts iwX4 hown hK.1 hP (mW_0) rfl 14 (by decide) (hts _ (tg_tail _ tw_437)) (fun _ h9 => h9) rfl dX4_run_211 ?_
                refine lv_iload hx hb dX4_run_214 (lv_at hl 8 rfl) ?_
                refine wd_ildN hx hb hK.1 hP 0 (k := y) (mW_10) rfl (by omega) (by decide) dX4_run_216 ?_
                refine lv_goto (tgt := 221) hx hb dX4_run_217 (by decide) ?_
                refine lv_istore (lv' := [(9, .int (sp y)), (8, .int (nI 0)), (0, .ref h), (1, .int (nI u)), (2, .int (sv)), (3, .int (ov)), (4, .int (nI n9)), (5, .int (nI x)), (6, .int (nI wf)), (7, .int (nI y))]) hx hb dX4_run_221 hl (by decide) rfl (fun ls hl => ?_)
                refine lv_iconst (v := nI 0) hx hb dX4_run_223 (by decide) ?_
                refine lv_istore (lv' := [(10, .int (nI 0)), (9, .int (sp y)), (8, .int (nI 0)), (0, .ref h), (1, .int (nI u)), (2, .int (sv)), (3, .int (ov)), (4, .int (nI n9)), (5, .int (nI x)), (6, .int (nI wf)), (7, .int (nI y))]) hx hb dX4_run_224 hl (by decide) rfl (fun ls hl => ?_)
                have m9 : mny M u sv ov x y = 0 := by rw [mny, if_neg c_145]
                have hm9 := hM9 (1024 * u + 32 * x + y)
                have b9 : (ry ki ii sp M u sv ov wf x t y).2.2.2 + 0 ≤ 2000 := by have h7 := ry_n (ki := ki) (ii := ii) (sp := sp) (M := M) (u := u) (sv := sv) (ov := ov) (wf := wf) (x := x) (t := t) (y + 1); have h8 := sm2_mono (M := M) (u := u) (sv := sv) (ov := ov) (x := x) (n0 := t.2.2.2) (32 - (y + 1)) (y + 1); rw [ry, rk_n, m9] at h7; rw [show y + 1 + (32 - (y + 1)) = 32 by omega] at h8; omega
                have e8 : (mW g w h rf nt np mo gb wr (nI ((ry ki ii sp M u sv ov wf x t y).2.2.2)) su pr ob ki fi se (tN M) nd ii sp qu ((ry ki ii sp M u sv ov wf x t y).1) ((ry ki ii sp M u sv ov wf x t y).2.1) ((ry ki ii sp M u sv ov wf x t y).2.2.1)) = (mW g w h rf nt np mo gb wr (nI ((rk x y (sp y) ((ry ki ii sp M u sv ov wf x t y)) 0).2.2.2)) su pr ob ki fi se (tN M) nd ii sp qu ((rk x y (sp y) ((ry ki ii sp M u sv ov wf x t y)) 0).1) ((rk x y (sp y) ((ry ki ii sp M u sv ov wf x t y)) 0).2.1) ((rk x y (sp y) ((ry ki ii sp M u sv ov wf x t y)) 0).2.2.1)) := by rw [rk]
                rw [e8] at hP
                have hl : lv_has ls 11 [(0, .ref h), (1, .int (nI u)), (2, .int (sv)), (3, .int (ov)), (4, .int (nI n9)), (5, .int (nI x)), (6, .int (nI wf)), (7, .int (nI y)), (8, .int (nI 0)), (9, .int (sp y)), (10, .int (nI 0))] := lv_sub hl [3, 4, 5, 6, 7, 8, 9, 10, 2, 1, 0] rfl
                refine lp_rk g s0 w h hs0 rf nt np mo gb wr su pr ob ki fi se (tN M) nd ii sp qu u x y n9 wf 0 sv ov (sp y) (ry ki ii sp M u sv ov wf x t y) b9 hx hb hml hown hts hK h0s hRm hcs  ?_ (0 + 1) 0 (by omega) (by omega) _ _ ls hP hS hl
                intro H locs ls hP hS hl
                refine lv_iinc (v := nI (y + 1)) (lv' := [(7, .int (nI (y + 1))), (0, .ref h), (1, .int (nI u)), (2, .int (sv)), (3, .int (ov)), (4, .int (nI n9)), (5, .int (nI x)), (6, .int (nI wf))]) hx hb dX4_run_282 hl (k := 7) rfl (nI_1 _) (by decide) rfl (fun ls hl => ?_)
                refine lv_goto (tgt := 129) hx hb dX4_run_285 (by decide) ?_
                have d9 : dpf ki ii sp u wf x y = sp y := by clear hts hP hK hx hb hown hS hRm hcs hl ih; unfold dpf; grind
                have f9 : ry ki ii sp M u sv ov wf x t (y + 1) = rk x y (sp y) (ry ki ii sp M u sv ov wf x t y) 0 := by rw [ry, m9, d9]
                have e8 : (mW g w h rf nt np mo gb wr (nI ((rk x y (sp y) ((ry ki ii sp M u sv ov wf x t y)) 0).2.2.2)) su pr ob ki fi se (tN M) nd ii sp qu ((rk x y (sp y) ((ry ki ii sp M u sv ov wf x t y)) 0).1) ((rk x y (sp y) ((ry ki ii sp M u sv ov wf x t y)) 0).2.1) ((rk x y (sp y) ((ry ki ii sp M u sv ov wf x t y)) 0).2.2.1)) = (mW g w h rf nt np mo gb wr (nI ((ry ki ii sp M u sv ov wf x t (y + 1)).2.2.2)) su pr ob ki fi se (tN M) nd ii sp qu ((ry ki ii sp M u sv ov wf x t (y + 1)).1) ((ry ki ii sp M u sv ov wf x t (y + 1)).2.1) ((ry ki ii sp M u sv ov wf x t (y + 1)).2.2.1)) := by rw [f9]
                rw [e8] at hP
                have hl : lv_has ls 11 [(0, .ref h), (1, .int (nI u)), (2, .int (sv)), (3, .int (ov)), (4, .int (nI n9)), (5, .int (nI x)), (6, .int (nI wf)), (7, .int (nI (y + 1)))] := lv_sub hl [1, 2, 3, 4, 5, 6, 7, 0] rfl
                exact ih (y + 1) (by omega) (by omega) _ _ ls hP hS hl
            · refine lv_aload_n hx hb dX4_run_191 rfl (lv_at hl 1 rfl) ?_
              refine wd_get (ci := 5) (v := .ref (h + 9)) (C := RX4) (T := TX4) (N := 21) hx hb hts iwX4 hown hK.1 hP (mW_0) rfl 12 (by decide) (hts _ (tg_tail _ tw_435)) (fun _ h9 => h9) rfl dX4_run_192 ?_
              refine lv_iload hx hb dX4_run_195 (lv_at hl 6 rfl) ?_
              refine wd_zldN hx hb hK.1 hP 1 (k := x) (mW_9) rfl (by omega) (by decide) dX4_run_197 ?_
              refine lv_if_eq (tgt := 205) hx hb dX4_run_198 (by decide) (fun c_198 => ?_) (fun c_198 => ?_)
              · refine lv_iload hx hb dX4_run_205 (lv_at hl 7 rfl) ?_
                refine lv_if_eq (tgt := 220) hx hb dX4_run_207 (by decide) (fun c_207 => ?_) (fun c_207 => ?_)
                · have c_207 := (nI_eq (a := wf) (b := 0) (by omega) (by omega)).mp (show nI wf = nI 0 from c_207)
                  refine lv_iconst (v := nI 1) hx hb dX4_run_220 (by decide) ?_
                  refine lv_istore (lv' := [(9, .int (nI 1)), (8, .int (nI 0)), (0, .ref h), (1, .int (nI u)), (2, .int (sv)), (3, .int (ov)), (4, .int (nI n9)), (5, .int (nI x)), (6, .int (nI wf)), (7, .int (nI y))]) hx hb dX4_run_221 hl (by decide) rfl (fun ls hl => ?_)
                  refine lv_iconst (v := nI 0) hx hb dX4_run_223 (by decide) ?_
                  refine lv_istore (lv' := [(10, .int (nI 0)), (9, .int (nI 1)), (8, .int (nI 0)), (0, .ref h), (1, .int (nI u)), (2, .int (sv)), (3, .int (ov)), (4, .int (nI n9)), (5, .int (nI x)), (6, .int (nI wf)), (7, .int (nI y))]) hx hb dX4_run_224 hl (by decide) rfl (fun ls hl => ?_)
                  have m9 : mny M u sv ov x y = 0 := by rw [mny, if_neg c_145]
                  have hm9 := hM9 (1024 * u + 32 * x + y)
                  have b9 : (ry ki ii sp M u sv ov wf x t y).2.2.2 + 0 ≤ 2000 := by have h7 := ry_n (ki := ki) (ii := ii) (sp := sp) (M := M) (u := u) (sv := sv) (ov := ov) (wf := wf) (x := x) (t := t) (y + 1); have h8 := sm2_mono (M := M) (u := u) (sv := sv) (ov := ov) (x := x) (n0 := t.2.2.2) (32 - (y + 1)) (y + 1); rw [ry, rk_n, m9] at h7; rw [show y + 1 + (32 - (y + 1)) = 32 by omega] at h8; omega
                  have e8 : (mW g w h rf nt np mo gb wr (nI ((ry ki ii sp M u sv ov wf x t y).2.2.2)) su pr ob ki fi se (tN M) nd ii sp qu ((ry ki ii sp M u sv ov wf x t y).1) ((ry ki ii sp M u sv ov wf x t y).2.1) ((ry ki ii sp M u sv ov wf x t y).2.2.1)) = (mW g w h rf nt np mo gb wr (nI ((rk x y (nI 1) ((ry ki ii sp M u sv ov wf x t y)) 0).2.2.2)) su pr ob ki fi se (tN M) nd ii sp qu ((rk x y (nI 1) ((ry ki ii sp M u sv ov wf x t y)) 0).1) ((rk x y (nI 1) ((ry ki ii sp M u sv ov wf x t y)) 0).2.1) ((rk x y (nI 1) ((ry ki ii sp M u sv ov wf x t y)) 0).2.2.1)) := by rw [rk]
                  rw [e8] at hP
                  have hl : lv_has ls 11 [(0, .ref h), (1, .int (nI u)), (2, .int (sv)), (3, .int (ov)), (4, .int (nI n9)), (5, .int (nI x)), (6, .int (nI wf)), (7, .int (nI y)), (8, .int (nI 0)), (9, .int (nI 1)), (10, .int (nI 0))] := lv_sub hl [3, 4, 5, 6, 7, 8, 9, 10, 2, 1, 0] rfl
                  refine lp_rk g s0 w h hs0 rf nt np mo gb wr su pr ob ki fi se (tN M) nd ii sp qu u x y n9 wf 0 sv ov (nI 1) (ry ki ii sp M u sv ov wf x t y) b9 hx hb hml hown hts hK h0s hRm hcs  ?_ (0 + 1) 0 (by omega) (by omega) _ _ ls hP hS hl
                  intro H locs ls hP hS hl
                  refine lv_iinc (v := nI (y + 1)) (lv' := [(7, .int (nI (y + 1))), (0, .ref h), (1, .int (nI u)), (2, .int (sv)), (3, .int (ov)), (4, .int (nI n9)), (5, .int (nI x)), (6, .int (nI wf))]) hx hb dX4_run_282 hl (k := 7) rfl (nI_1 _) (by decide) rfl (fun ls hl => ?_)
                  refine lv_goto (tgt := 129) hx hb dX4_run_285 (by decide) ?_
                  have d9 : dpf ki ii sp u wf x y = nI 1 := by clear hts hP hK hx hb hown hS hRm hcs hl ih; unfold dpf; grind
                  have f9 : ry ki ii sp M u sv ov wf x t (y + 1) = rk x y (nI 1) (ry ki ii sp M u sv ov wf x t y) 0 := by rw [ry, m9, d9]
                  have e8 : (mW g w h rf nt np mo gb wr (nI ((rk x y (nI 1) ((ry ki ii sp M u sv ov wf x t y)) 0).2.2.2)) su pr ob ki fi se (tN M) nd ii sp qu ((rk x y (nI 1) ((ry ki ii sp M u sv ov wf x t y)) 0).1) ((rk x y (nI 1) ((ry ki ii sp M u sv ov wf x t y)) 0).2.1) ((rk x y (nI 1) ((ry ki ii sp M u sv ov wf x t y)) 0).2.2.1)) = (mW g w h rf nt np mo gb wr (nI ((ry ki ii sp M u sv ov wf x t (y + 1)).2.2.2)) su pr ob ki fi se (tN M) nd ii sp qu ((ry ki ii sp M u sv ov wf x t (y + 1)).1) ((ry ki ii sp M u sv ov wf x t (y + 1)).2.1) ((ry ki ii sp M u sv ov wf x t (y + 1)).2.2.1)) := by rw [f9]
                  rw [e8] at hP
                  have hl : lv_has ls 11 [(0, .ref h), (1, .int (nI u)), (2, .int (sv)), (3, .int (ov)), (4, .int (nI n9)), (5, .int (nI x)), (6, .int (nI wf)), (7, .int (nI (y + 1)))] := lv_sub hl [1, 2, 3, 4, 5, 6, 7, 0] rfl
                  exact ih (y + 1) (by omega) (by omega) _ _ ls hP hS hl
                · have c_207 := mt (nI_eq (a := wf) (b := 0) (by omega) (by omega)).mpr (show ¬ (nI wf = nI 0) from c_207)
                  refine lv_aload_n hx hb dX4_run_210 rfl (lv_at hl 1 rfl) ?_
                  refine wd_get (ci := 5) (v := .ref (h + 10)) (C := RX4) (T := TX4) (N := 21) hx hb hts iwX4 hown hK.1 hP (mW_0) rfl 14 (by decide) (hts _ (tg_tail _ tw_437)) (fun _ h9 => h9) rfl dX4_run_211 ?_
                  refine lv_iload hx hb dX4_run_214 (lv_at hl 8 rfl) ?_
                  refine wd_ildN hx hb hK.1 hP 0 (k := y) (mW_10) rfl (by omega) (by decide) dX4_run_216 ?_
                  refine lv_goto (tgt := 221) hx hb dX4_run_217 (by decide) ?_
                  refine lv_istore (lv' := [(9, .int (sp y)), (8, .int (nI 0)), (0, .ref h), (1, .int (nI u)), (2, .int (sv)), (3, .int (ov)), (4, .int (nI n9)), (5, .int (nI x)), (6, .int (nI wf)), (7, .int (nI y))]) hx hb dX4_run_221 hl (by decide) rfl (fun ls hl => ?_)
                  refine lv_iconst (v := nI 0) hx hb dX4_run_223 (by decide) ?_
                  refine lv_istore (lv' := [(10, .int (nI 0)), (9, .int (sp y)), (8, .int (nI 0)), (0, .ref h), (1, .int (nI u)), (2, .int (sv)), (3, .int (ov)), (4, .int (nI n9)), (5, .int (nI x)), (6, .int (nI wf)), (7, .int (nI y))]) hx hb dX4_run_224 hl (by decide) rfl (fun ls hl => ?_)
                  have m9 : mny M u sv ov x y = 0 := by rw [mny, if_neg c_145]
                  have hm9 := hM9 (1024 * u + 32 * x + y)
                  have b9 : (ry ki ii sp M u sv ov wf x t y).2.2.2 + 0 ≤ 2000 := by have h7 := ry_n (ki := ki) (ii := ii) (sp := sp) (M := M) (u := u) (sv := sv) (ov := ov) (wf := wf) (x := x) (t := t) (y + 1); have h8 := sm2_mono (M := M) (u := u) (sv := sv) (ov := ov) (x := x) (n0 := t.2.2.2) (32 - (y + 1)) (y + 1); rw [ry, rk_n, m9] at h7; rw [show y + 1 + (32 - (y + 1)) = 32 by omega] at h8; omega
                  have e8 : (mW g w h rf nt np mo gb wr (nI ((ry ki ii sp M u sv ov wf x t y).2.2.2)) su pr ob ki fi se (tN M) nd ii sp qu ((ry ki ii sp M u sv ov wf x t y).1) ((ry ki ii sp M u sv ov wf x t y).2.1) ((ry ki ii sp M u sv ov wf x t y).2.2.1)) = (mW g w h rf nt np mo gb wr (nI ((rk x y (sp y) ((ry ki ii sp M u sv ov wf x t y)) 0).2.2.2)) su pr ob ki fi se (tN M) nd ii sp qu ((rk x y (sp y) ((ry ki ii sp M u sv ov wf x t y)) 0).1) ((rk x y (sp y) ((ry ki ii sp M u sv ov wf x t y)) 0).2.1) ((rk x y (sp y) ((ry ki ii sp M u sv ov wf x t y)) 0).2.2.1)) := by rw [rk]
                  rw [e8] at hP
                  have hl : lv_has ls 11 [(0, .ref h), (1, .int (nI u)), (2, .int (sv)), (3, .int (ov)), (4, .int (nI n9)), (5, .int (nI x)), (6, .int (nI wf)), (7, .int (nI y)), (8, .int (nI 0)), (9, .int (sp y)), (10, .int (nI 0))] := lv_sub hl [3, 4, 5, 6, 7, 8, 9, 10, 2, 1, 0] rfl
                  refine lp_rk g s0 w h hs0 rf nt np mo gb wr su pr ob ki fi se (tN M) nd ii sp qu u x y n9 wf 0 sv ov (sp y) (ry ki ii sp M u sv ov wf x t y) b9 hx hb hml hown hts hK h0s hRm hcs  ?_ (0 + 1) 0 (by omega) (by omega) _ _ ls hP hS hl
                  intro H locs ls hP hS hl
                  refine lv_iinc (v := nI (y + 1)) (lv' := [(7, .int (nI (y + 1))), (0, .ref h), (1, .int (nI u)), (2, .int (sv)), (3, .int (ov)), (4, .int (nI n9)), (5, .int (nI x)), (6, .int (nI wf))]) hx hb dX4_run_282 hl (k := 7) rfl (nI_1 _) (by decide) rfl (fun ls hl => ?_)
                  refine lv_goto (tgt := 129) hx hb dX4_run_285 (by decide) ?_
                  have d9 : dpf ki ii sp u wf x y = sp y := by clear hts hP hK hx hb hown hS hRm hcs hl ih; unfold dpf; grind
                  have f9 : ry ki ii sp M u sv ov wf x t (y + 1) = rk x y (sp y) (ry ki ii sp M u sv ov wf x t y) 0 := by rw [ry, m9, d9]
                  have e8 : (mW g w h rf nt np mo gb wr (nI ((rk x y (sp y) ((ry ki ii sp M u sv ov wf x t y)) 0).2.2.2)) su pr ob ki fi se (tN M) nd ii sp qu ((rk x y (sp y) ((ry ki ii sp M u sv ov wf x t y)) 0).1) ((rk x y (sp y) ((ry ki ii sp M u sv ov wf x t y)) 0).2.1) ((rk x y (sp y) ((ry ki ii sp M u sv ov wf x t y)) 0).2.2.1)) = (mW g w h rf nt np mo gb wr (nI ((ry ki ii sp M u sv ov wf x t (y + 1)).2.2.2)) su pr ob ki fi se (tN M) nd ii sp qu ((ry ki ii sp M u sv ov wf x t (y + 1)).1) ((ry ki ii sp M u sv ov wf x t (y + 1)).2.1) ((ry ki ii sp M u sv ov wf x t (y + 1)).2.2.1)) := by rw [f9]
                  rw [e8] at hP
                  have hl : lv_has ls 11 [(0, .ref h), (1, .int (nI u)), (2, .int (sv)), (3, .int (ov)), (4, .int (nI n9)), (5, .int (nI x)), (6, .int (nI wf)), (7, .int (nI (y + 1)))] := lv_sub hl [1, 2, 3, 4, 5, 6, 7, 0] rfl
                  exact ih (y + 1) (by omega) (by omega) _ _ ls hP hS hl
              · refine lv_iconst (v := nI 0) hx hb dX4_run_201 (by decide) ?_
                refine lv_goto (tgt := 221) hx hb dX4_run_202 (by decide) ?_
                refine lv_istore (lv' := [(9, .int (nI 0)), (8, .int (nI 0)), (0, .ref h), (1, .int (nI u)), (2, .int (sv)), (3, .int (ov)), (4, .int (nI n9)), (5, .int (nI x)), (6, .int (nI wf)), (7, .int (nI y))]) hx hb dX4_run_221 hl (by decide) rfl (fun ls hl => ?_)
                refine lv_iconst (v := nI 0) hx hb dX4_run_223 (by decide) ?_
                refine lv_istore (lv' := [(10, .int (nI 0)), (9, .int (nI 0)), (8, .int (nI 0)), (0, .ref h), (1, .int (nI u)), (2, .int (sv)), (3, .int (ov)), (4, .int (nI n9)), (5, .int (nI x)), (6, .int (nI wf)), (7, .int (nI y))]) hx hb dX4_run_224 hl (by decide) rfl (fun ls hl => ?_)
                have m9 : mny M u sv ov x y = 0 := by rw [mny, if_neg c_145]
                have hm9 := hM9 (1024 * u + 32 * x + y)
                have b9 : (ry ki ii sp M u sv ov wf x t y).2.2.2 + 0 ≤ 2000 := by have h7 := ry_n (ki := ki) (ii := ii) (sp := sp) (M := M) (u := u) (sv := sv) (ov := ov) (wf := wf) (x := x) (t := t) (y + 1); have h8 := sm2_mono (M := M) (u := u) (sv := sv) (ov := ov) (x := x) (n0 := t.2.2.2) (32 - (y + 1)) (y + 1); rw [ry, rk_n, m9] at h7; rw [show y + 1 + (32 - (y + 1)) = 32 by omega] at h8; omega
                have e8 : (mW g w h rf nt np mo gb wr (nI ((ry ki ii sp M u sv ov wf x t y).2.2.2)) su pr ob ki fi se (tN M) nd ii sp qu ((ry ki ii sp M u sv ov wf x t y).1) ((ry ki ii sp M u sv ov wf x t y).2.1) ((ry ki ii sp M u sv ov wf x t y).2.2.1)) = (mW g w h rf nt np mo gb wr (nI ((rk x y (nI 0) ((ry ki ii sp M u sv ov wf x t y)) 0).2.2.2)) su pr ob ki fi se (tN M) nd ii sp qu ((rk x y (nI 0) ((ry ki ii sp M u sv ov wf x t y)) 0).1) ((rk x y (nI 0) ((ry ki ii sp M u sv ov wf x t y)) 0).2.1) ((rk x y (nI 0) ((ry ki ii sp M u sv ov wf x t y)) 0).2.2.1)) := by rw [rk]
                rw [e8] at hP
                have hl : lv_has ls 11 [(0, .ref h), (1, .int (nI u)), (2, .int (sv)), (3, .int (ov)), (4, .int (nI n9)), (5, .int (nI x)), (6, .int (nI wf)), (7, .int (nI y)), (8, .int (nI 0)), (9, .int (nI 0)), (10, .int (nI 0))] := lv_sub hl [3, 4, 5, 6, 7, 8, 9, 10, 2, 1, 0] rfl
                refine lp_rk g s0 w h hs0 rf nt np mo gb wr su pr ob ki fi se (tN M) nd ii sp qu u x y n9 wf 0 sv ov (nI 0) (ry ki ii sp M u sv ov wf x t y) b9 hx hb hml hown hts hK h0s hRm hcs  ?_ (0 + 1) 0 (by omega) (by omega) _ _ ls hP hS hl
                intro H locs ls hP hS hl
                refine lv_iinc (v := nI (y + 1)) (lv' := [(7, .int (nI (y + 1))), (0, .ref h), (1, .int (nI u)), (2, .int (sv)), (3, .int (ov)), (4, .int (nI n9)), (5, .int (nI x)), (6, .int (nI wf))]) hx hb dX4_run_282 hl (k := 7) rfl (nI_1 _) (by decide) rfl (fun ls hl => ?_)
                refine lv_goto (tgt := 129) hx hb dX4_run_285 (by decide) ?_
                have d9 : dpf ki ii sp u wf x y = nI 0 := by clear hts hP hK hx hb hown hS hRm hcs hl ih; unfold dpf; grind
                have f9 : ry ki ii sp M u sv ov wf x t (y + 1) = rk x y (nI 0) (ry ki ii sp M u sv ov wf x t y) 0 := by rw [ry, m9, d9]
                have e8 : (mW g w h rf nt np mo gb wr (nI ((rk x y (nI 0) ((ry ki ii sp M u sv ov wf x t y)) 0).2.2.2)) su pr ob ki fi se (tN M) nd ii sp qu ((rk x y (nI 0) ((ry ki ii sp M u sv ov wf x t y)) 0).1) ((rk x y (nI 0) ((ry ki ii sp M u sv ov wf x t y)) 0).2.1) ((rk x y (nI 0) ((ry ki ii sp M u sv ov wf x t y)) 0).2.2.1)) = (mW g w h rf nt np mo gb wr (nI ((ry ki ii sp M u sv ov wf x t (y + 1)).2.2.2)) su pr ob ki fi se (tN M) nd ii sp qu ((ry ki ii sp M u sv ov wf x t (y + 1)).1) ((ry ki ii sp M u sv ov wf x t (y + 1)).2.1) ((ry ki ii sp M u sv ov wf x t (y + 1)).2.2.1)) := by rw [f9]
                rw [e8] at hP
                have hl : lv_has ls 11 [(0, .ref h), (1, .int (nI u)), (2, .int (sv)), (3, .int (ov)), (4, .int (nI n9)), (5, .int (nI x)), (6, .int (nI wf)), (7, .int (nI (y + 1)))] := lv_sub hl [1, 2, 3, 4, 5, 6, 7, 0] rfl
                exact ih (y + 1) (by omega) (by omega) _ _ ls hP hS hl
      · have c_145 := zB_1.mp c_145
        refine lv_aload_n hx hb dX4_run_148 rfl (lv_at hl 0 rfl) ?_
        refine lv_iload_n hx hb dX4_run_149 rfl (lv_at hl 1 rfl) ?_
        refine lv_iload hx hb dX4_run_150 (lv_at hl 5 rfl) ?_
        refine lv_iload hx hb dX4_run_152 (lv_at hl 7 rfl) ?_
        refine cr_Vi (As := [.int (nI u), .int (nI x), .int (nI y)]) (rest := []) ⟨hx, hb, hml, hown, hts⟩ (c_X4_cell l g s0  w h hs0 rf nt np mo gb wr (nI ((ry ki ii sp M u sv ov wf x t y).2.2.2)) su pr ob ki fi se (tN M) nd ii sp qu ((ry ki ii sp M u sv ov wf x t y).1) ((ry ki ii sp M u sv ov wf x t y).2.1) ((ry ki ii sp M u sv ov wf x t y).2.2.1) (u) (x) (y) (by omega) (by omega) (by omega)) (cw_V 3 hts tg_tail tw_557 tw_559 tp_28 tw_4 tw_560 rfl rfl (by decide +kernel) ⟨Nat.le_trans (by decide) hRm.1, Nat.le_trans (by decide) hRm.2⟩) hK hP h0s hS (mW_0) rfl rfl rfl hl.1 rfl (Nat.le_of_ble_eq_true rfl) dX4_run_154 hcs (fun r9 w9 H locs hw hP hS => ?_)
        obtain ⟨e_r9, hw9⟩ := hw
        rw [hw9] at hP
        subst e_r9
        refine wd_ti (x' := nI (M (1024 * u + 32 * x + y))) (rfl) ?_
        refine lv_goto (tgt := 161) hx hb dX4_run_157 (by decide) ?_
        refine lv_istore (lv' := [(8, .int (nI (M (1024 * u + 32 * x + y)))), (0, .ref h), (1, .int (nI u)), (2, .int (sv)), (3, .int (ov)), (4, .int (nI n9)), (5, .int (nI x)), (6, .int (nI wf)), (7, .int (nI y))]) hx hb dX4_run_161 hl (by decide) rfl (fun ls hl => ?_)
        refine lv_iload hx hb dX4_run_163 (lv_at hl 6 rfl) ?_
        refine lv_iload hx hb dX4_run_165 (lv_at hl 8 rfl) ?_
        refine lv_icmp_ne (tgt := 205) hx hb dX4_run_167 (by decide) (fun c_167 => ?_) (fun c_167 => ?_)
        · have c_167 := mt (nI_eq (a := x) (b := y) (by omega) (by omega)).mpr c_167
          refine lv_iload hx hb dX4_run_205 (lv_at hl 7 rfl) ?_
          refine lv_if_eq (tgt := 220) hx hb dX4_run_207 (by decide) (fun c_207 => ?_) (fun c_207 => ?_)
          · have c_207 := (nI_eq (a := wf) (b := 0) (by omega) (by omega)).mp (show nI wf = nI 0 from c_207)
            refine lv_iconst (v := nI 1) hx hb dX4_run_220 (by decide) ?_
            refine lv_istore (lv' := [(9, .int (nI 1)), (8, .int (nI (M (1024 * u + 32 * x + y)))), (0, .ref h), (1, .int (nI u)), (2, .int (sv)), (3, .int (ov)), (4, .int (nI n9)), (5, .int (nI x)), (6, .int (nI wf)), (7, .int (nI y))]) hx hb dX4_run_221 hl (by decide) rfl (fun ls hl => ?_)
            refine lv_iconst (v := nI 0) hx hb dX4_run_223 (by decide) ?_
            refine lv_istore (lv' := [(10, .int (nI 0)), (9, .int (nI 1)), (8, .int (nI (M (1024 * u + 32 * x + y)))), (0, .ref h), (1, .int (nI u)), (2, .int (sv)), (3, .int (ov)), (4, .int (nI n9)), (5, .int (nI x)), (6, .int (nI wf)), (7, .int (nI y))]) hx hb dX4_run_224 hl (by decide) rfl (fun ls hl => ?_)
            have m9 : mny M u sv ov x y = M (1024 * u + 32 * x + y) := by rw [mny, if_pos c_145]
            have hm9 := hM9 (1024 * u + 32 * x + y)
            have b9 : (ry ki ii sp M u sv ov wf x t y).2.2.2 + (M (1024 * u + 32 * x + y)) ≤ 2000 := by have h7 := ry_n (ki := ki) (ii := ii) (sp := sp) (M := M) (u := u) (sv := sv) (ov := ov) (wf := wf) (x := x) (t := t) (y + 1); have h8 := sm2_mono (M := M) (u := u) (sv := sv) (ov := ov) (x := x) (n0 := t.2.2.2) (32 - (y + 1)) (y + 1); rw [ry, rk_n, m9] at h7; rw [show y + 1 + (32 - (y + 1)) = 32 by omega] at h8; omega
            have e8 : (mW g w h rf nt np mo gb wr (nI ((ry ki ii sp M u sv ov wf x t y).2.2.2)) su pr ob ki fi se (tN M) nd ii sp qu ((ry ki ii sp M u sv ov wf x t y).1) ((ry ki ii sp M u sv ov wf x t y).2.1) ((ry ki ii sp M u sv ov wf x t y).2.2.1)) = (mW g w h rf nt np mo gb wr (nI ((rk x y (nI 1) ((ry ki ii sp M u sv ov wf x t y)) 0).2.2.2)) su pr ob ki fi se (tN M) nd ii sp qu ((rk x y (nI 1) ((ry ki ii sp M u sv ov wf x t y)) 0).1) ((rk x y (nI 1) ((ry ki ii sp M u sv ov wf x t y)) 0).2.1) ((rk x y (nI 1) ((ry ki ii sp M u sv ov wf x t y)) 0).2.2.1)) := by rw [rk]
            rw [e8] at hP
            have hl : lv_has ls 11 [(0, .ref h), (1, .int (nI u)), (2, .int (sv)), (3, .int (ov)), (4, .int (nI n9)), (5, .int (nI x)), (6, .int (nI wf)), (7, .int (nI y)), (8, .int (nI (M (1024 * u + 32 * x + y)))), (9, .int (nI 1)), (10, .int (nI 0))] := lv_sub hl [3, 4, 5, 6, 7, 8, 9, 10, 2, 1, 0] rfl
            refine lp_rk g s0 w h hs0 rf nt np mo gb wr su pr ob ki fi se (tN M) nd ii sp qu u x y n9 wf (M (1024 * u + 32 * x + y)) sv ov (nI 1) (ry ki ii sp M u sv ov wf x t y) b9 hx hb hml hown hts hK h0s hRm hcs  ?_ ((M (1024 * u + 32 * x + y)) + 1) 0 (by omega) (by omega) _ _ ls hP hS hl
            intro H locs ls hP hS hl
            refine lv_iinc (v := nI (y + 1)) (lv' := [(7, .int (nI (y + 1))), (0, .ref h), (1, .int (nI u)), (2, .int (sv)), (3, .int (ov)), (4, .int (nI n9)), (5, .int (nI x)), (6, .int (nI wf))]) hx hb dX4_run_282 hl (k := 7) rfl (nI_1 _) (by decide) rfl (fun ls hl => ?_)
            refine lv_goto (tgt := 129) hx hb dX4_run_285 (by decide) ?_
            have d9 : dpf ki ii sp u wf x y = nI 1 := by clear hts hP hK hx hb hown hS hRm hcs hl ih; unfold dpf; grind
            have f9 : ry ki ii sp M u sv ov wf x t (y + 1) = rk x y (nI 1) (ry ki ii sp M u sv ov wf x t y) (M (1024 * u + 32 * x + y)) := by rw [ry, m9, d9]
            have e8 : (mW g w h rf nt np mo gb wr (nI ((rk x y (nI 1) ((ry ki ii sp M u sv ov wf x t y)) (M (1024 * u + 32 * x + y))).2.2.2)) su pr ob ki fi se (tN M) nd ii sp qu ((rk x y (nI 1) ((ry ki ii sp M u sv ov wf x t y)) (M (1024 * u + 32 * x + y))).1) ((rk x y (nI 1) ((ry ki ii sp M u sv ov wf x t y)) (M (1024 * u + 32 * x + y))).2.1) ((rk x y (nI 1) ((ry ki ii sp M u sv ov wf x t y)) (M (1024 * u + 32 * x + y))).2.2.1)) = (mW g w h rf nt np mo gb wr (nI ((ry ki ii sp M u sv ov wf x t (y + 1)).2.2.2)) su pr ob ki fi se (tN M) nd ii sp qu ((ry ki ii sp M u sv ov wf x t (y + 1)).1) ((ry ki ii sp M u sv ov wf x t (y + 1)).2.1) ((ry ki ii sp M u sv ov wf x t (y + 1)).2.2.1)) := by rw [f9]
            rw [e8] at hP
            have hl : lv_has ls 11 [(0, .ref h), (1, .int (nI u)), (2, .int (sv)), (3, .int (ov)), (4, .int (nI n9)), (5, .int (nI x)), (6, .int (nI wf)), (7, .int (nI (y + 1)))] := lv_sub hl [1, 2, 3, 4, 5, 6, 7, 0] rfl
            exact ih (y + 1) (by omega) (by omega) _ _ ls hP hS hl
          · have c_207 := mt (nI_eq (a := wf) (b := 0) (by omega) (by omega)).mpr (show ¬ (nI wf = nI 0) from c_207)
            refine lv_aload_n hx hb dX4_run_210 rfl (lv_at hl 1 rfl) ?_
            refine wd_get (ci := 5) (v := .ref (h + 10)) (C := RX4) (T := TX4) (N := 21) hx hb hts iwX4 hown hK.1 hP (mW_0) rfl 14 (by decide) (hts _ (tg_tail _ tw_437)) (fun _ h9 => h9) rfl dX4_run_211 ?_
            refine lv_iload hx hb dX4_run_214 (lv_at hl 8 rfl) ?_
            refine wd_ildN hx hb hK.1 hP 0 (k := y) (mW_10) rfl (by omega) (by decide) dX4_run_216 ?_
            refine lv_goto (tgt := 221) hx hb dX4_run_217 (by decide) ?_
            refine lv_istore (lv' := [(9, .int (sp y)), (8, .int (nI (M (1024 * u + 32 * x + y)))), (0, .ref h), (1, .int (nI u)), (2, .int (sv)), (3, .int (ov)), (4, .int (nI n9)), (5, .int (nI x)), (6, .int (nI wf)), (7, .int (nI y))]) hx hb dX4_run_221 hl (by decide) rfl (fun ls hl => ?_)
            refine lv_iconst (v := nI 0) hx hb dX4_run_223 (by decide) ?_
            refine lv_istore (lv' := [(10, .int (nI 0)), (9, .int (sp y)), (8, .int (nI (M (1024 * u + 32 * x + y)))), (0, .ref h), (1, .int (nI u)), (2, .int (sv)), (3, .int (ov)), (4, .int (nI n9)), (5, .int (nI x)), (6, .int (nI wf)), (7, .int (nI y))]) hx hb dX4_run_224 hl (by decide) rfl (fun ls hl => ?_)
            have m9 : mny M u sv ov x y = M (1024 * u + 32 * x + y) := by rw [mny, if_pos c_145]
            have hm9 := hM9 (1024 * u + 32 * x + y)
            have b9 : (ry ki ii sp M u sv ov wf x t y).2.2.2 + (M (1024 * u + 32 * x + y)) ≤ 2000 := by have h7 := ry_n (ki := ki) (ii := ii) (sp := sp) (M := M) (u := u) (sv := sv) (ov := ov) (wf := wf) (x := x) (t := t) (y + 1); have h8 := sm2_mono (M := M) (u := u) (sv := sv) (ov := ov) (x := x) (n0 := t.2.2.2) (32 - (y + 1)) (y + 1); rw [ry, rk_n, m9] at h7; rw [show y + 1 + (32 - (y + 1)) = 32 by omega] at h8; omega
            have e8 : (mW g w h rf nt np mo gb wr (nI ((ry ki ii sp M u sv ov wf x t y).2.2.2)) su pr ob ki fi se (tN M) nd ii sp qu ((ry ki ii sp M u sv ov wf x t y).1) ((ry ki ii sp M u sv ov wf x t y).2.1) ((ry ki ii sp M u sv ov wf x t y).2.2.1)) = (mW g w h rf nt np mo gb wr (nI ((rk x y (sp y) ((ry ki ii sp M u sv ov wf x t y)) 0).2.2.2)) su pr ob ki fi se (tN M) nd ii sp qu ((rk x y (sp y) ((ry ki ii sp M u sv ov wf x t y)) 0).1) ((rk x y (sp y) ((ry ki ii sp M u sv ov wf x t y)) 0).2.1) ((rk x y (sp y) ((ry ki ii sp M u sv ov wf x t y)) 0).2.2.1)) := by rw [rk]
            rw [e8] at hP
            have hl : lv_has ls 11 [(0, .ref h), (1, .int (nI u)), (2, .int (sv)), (3, .int (ov)), (4, .int (nI n9)), (5, .int (nI x)), (6, .int (nI wf)), (7, .int (nI y)), (8, .int (nI (M (1024 * u + 32 * x + y)))), (9, .int (sp y)), (10, .int (nI 0))] := lv_sub hl [3, 4, 5, 6, 7, 8, 9, 10, 2, 1, 0] rfl
            refine lp_rk g s0 w h hs0 rf nt np mo gb wr su pr ob ki fi se (tN M) nd ii sp qu u x y n9 wf (M (1024 * u + 32 * x + y)) sv ov (sp y) (ry ki ii sp M u sv ov wf x t y) b9 hx hb hml hown hts hK h0s hRm hcs  ?_ ((M (1024 * u + 32 * x + y)) + 1) 0 (by omega) (by omega) _ _ ls hP hS hl
            intro H locs ls hP hS hl
            refine lv_iinc (v := nI (y + 1)) (lv' := [(7, .int (nI (y + 1))), (0, .ref h), (1, .int (nI u)), (2, .int (sv)), (3, .int (ov)), (4, .int (nI n9)), (5, .int (nI x)), (6, .int (nI wf))]) hx hb dX4_run_282 hl (k := 7) rfl (nI_1 _) (by decide) rfl (fun ls hl => ?_)
            refine lv_goto (tgt := 129) hx hb dX4_run_285 (by decide) ?_
            have d9 : dpf ki ii sp u wf x y = sp y := by clear hts hP hK hx hb hown hS hRm hcs hl ih; unfold dpf; grind
            have f9 : ry ki ii sp M u sv ov wf x t (y + 1) = rk x y (sp y) (ry ki ii sp M u sv ov wf x t y) (M (1024 * u + 32 * x + y)) := by rw [ry, m9, d9]
            have e8 : (mW g w h rf nt np mo gb wr (nI ((rk x y (sp y) ((ry ki ii sp M u sv ov wf x t y)) (M (1024 * u + 32 * x + y))).2.2.2)) su pr ob ki fi se (tN M) nd ii sp qu ((rk x y (sp y) ((ry ki ii sp M u sv ov wf x t y)) (M (1024 * u + 32 * x + y))).1) ((rk x y (sp y) ((ry ki ii sp M u sv ov wf x t y)) (M (1024 * u + 32 * x + y))).2.1) ((rk x y (sp y) ((ry ki ii sp M u sv ov wf x t y)) (M (1024 * u + 32 * x + y))).2.2.1)) = (mW g w h rf nt np mo gb wr (nI ((ry ki ii sp M u sv ov wf x t (y + 1)).2.2.2)) su pr ob ki fi se (tN M) nd ii sp qu ((ry ki ii sp M u sv ov wf x t (y + 1)).1) ((ry ki ii sp M u sv ov wf x t (y + 1)).2.1) ((ry ki ii sp M u sv ov wf x t (y + 1)).2.2.1)) := by rw [f9]
            rw [e8] at hP
            have hl : lv_has ls 11 [(0, .ref h), (1, .int (nI u)), (2, .int (sv)), (3, .int (ov)), (4, .int (nI n9)), (5, .int (nI x)), (6, .int (nI wf)), (7, .int (nI (y + 1)))] := lv_sub hl [1, 2, 3, 4, 5, 6, 7, 0] rfl
            exact ih (y + 1) (by omega) (by omega) _ _ ls hP hS hl
        · have c_167 := (nI_eq (a := x) (b := y) (by omega) (by omega)).mp c_167
          refine lv_aload_n hx hb dX4_run_170 rfl (lv_at hl 1 rfl) ?_
          refine wd_get (ci := 5) (v := .ref (h + 4)) (C := RX4) (T := TX4) (N := 21) hx hb hts iwX4 hown hK.1 hP (mW_0) rfl 5 (by decide) (hts _ (tg_tail _ tw_428)) (fun _ h9 => h9) rfl dX4_run_171 ?_
          refine lv_iload_n hx hb dX4_run_174 rfl (lv_at hl 2 rfl) ?_
          refine wd_ildN hx hb hK.1 hP 0 (k := u) (mW_4) rfl (by omega) (by decide) dX4_run_175 ?_
          refine lv_iconst (v := nI 4) hx hb dX4_run_176 (by decide) ?_
          refine lv_icmp_eq (tgt := 201) hx hb dX4_run_177 (by decide) (fun c_177 => ?_) (fun c_177 => ?_)
          · refine lv_iconst (v := nI 0) hx hb dX4_run_201 (by decide) ?_
            refine lv_goto (tgt := 221) hx hb dX4_run_202 (by decide) ?_
            refine lv_istore (lv' := [(9, .int (nI 0)), (8, .int (nI (M (1024 * u + 32 * x + y)))), (0, .ref h), (1, .int (nI u)), (2, .int (sv)), (3, .int (ov)), (4, .int (nI n9)), (5, .int (nI x)), (6, .int (nI wf)), (7, .int (nI y))]) hx hb dX4_run_221 hl (by decide) rfl (fun ls hl => ?_)
            refine lv_iconst (v := nI 0) hx hb dX4_run_223 (by decide) ?_
            refine lv_istore (lv' := [(10, .int (nI 0)), (9, .int (nI 0)), (8, .int (nI (M (1024 * u + 32 * x + y)))), (0, .ref h), (1, .int (nI u)), (2, .int (sv)), (3, .int (ov)), (4, .int (nI n9)), (5, .int (nI x)), (6, .int (nI wf)), (7, .int (nI y))]) hx hb dX4_run_224 hl (by decide) rfl (fun ls hl => ?_)
            have m9 : mny M u sv ov x y = M (1024 * u + 32 * x + y) := by rw [mny, if_pos c_145]
            have hm9 := hM9 (1024 * u + 32 * x + y)
            have b9 : (ry ki ii sp M u sv ov wf x t y).2.2.2 + (M (1024 * u + 32 * x + y)) ≤ 2000 := by have h7 := ry_n (ki := ki) (ii := ii) (sp := sp) (M := M) (u := u) (sv := sv) (ov := ov) (wf := wf) (x := x) (t := t) (y + 1); have h8 := sm2_mono (M := M) (u := u) (sv := sv) (ov := ov) (x := x) (n0 := t.2.2.2) (32 - (y + 1)) (y + 1); rw [ry, rk_n, m9] at h7; rw [show y + 1 + (32 - (y + 1)) = 32 by omega] at h8; omega
            have e8 : (mW g w h rf nt np mo gb wr (nI ((ry ki ii sp M u sv ov wf x t y).2.2.2)) su pr ob ki fi se (tN M) nd ii sp qu ((ry ki ii sp M u sv ov wf x t y).1) ((ry ki ii sp M u sv ov wf x t y).2.1) ((ry ki ii sp M u sv ov wf x t y).2.2.1)) = (mW g w h rf nt np mo gb wr (nI ((rk x y (nI 0) ((ry ki ii sp M u sv ov wf x t y)) 0).2.2.2)) su pr ob ki fi se (tN M) nd ii sp qu ((rk x y (nI 0) ((ry ki ii sp M u sv ov wf x t y)) 0).1) ((rk x y (nI 0) ((ry ki ii sp M u sv ov wf x t y)) 0).2.1) ((rk x y (nI 0) ((ry ki ii sp M u sv ov wf x t y)) 0).2.2.1)) := by rw [rk]
            rw [e8] at hP
            have hl : lv_has ls 11 [(0, .ref h), (1, .int (nI u)), (2, .int (sv)), (3, .int (ov)), (4, .int (nI n9)), (5, .int (nI x)), (6, .int (nI wf)), (7, .int (nI y)), (8, .int (nI (M (1024 * u + 32 * x + y)))), (9, .int (nI 0)), (10, .int (nI 0))] := lv_sub hl [3, 4, 5, 6, 7, 8, 9, 10, 2, 1, 0] rfl
            refine lp_rk g s0 w h hs0 rf nt np mo gb wr su pr ob ki fi se (tN M) nd ii sp qu u x y n9 wf (M (1024 * u + 32 * x + y)) sv ov (nI 0) (ry ki ii sp M u sv ov wf x t y) b9 hx hb hml hown hts hK h0s hRm hcs  ?_ ((M (1024 * u + 32 * x + y)) + 1) 0 (by omega) (by omega) _ _ ls hP hS hl
            intro H locs ls hP hS hl
            refine lv_iinc (v := nI (y + 1)) (lv' := [(7, .int (nI (y + 1))), (0, .ref h), (1, .int (nI u)), (2, .int (sv)), (3, .int (ov)), (4, .int (nI n9)), (5, .int (nI x)), (6, .int (nI wf))]) hx hb dX4_run_282 hl (k := 7) rfl (nI_1 _) (by decide) rfl (fun ls hl => ?_)
            refine lv_goto (tgt := 129) hx hb dX4_run_285 (by decide) ?_
            have d9 : dpf ki ii sp u wf x y = nI 0 := by clear hts hP hK hx hb hown hS hRm hcs hl ih; unfold dpf; grind
            have f9 : ry ki ii sp M u sv ov wf x t (y + 1) = rk x y (nI 0) (ry ki ii sp M u sv ov wf x t y) (M (1024 * u + 32 * x + y)) := by rw [ry, m9, d9]
            have e8 : (mW g w h rf nt np mo gb wr (nI ((rk x y (nI 0) ((ry ki ii sp M u sv ov wf x t y)) (M (1024 * u + 32 * x + y))).2.2.2)) su pr ob ki fi se (tN M) nd ii sp qu ((rk x y (nI 0) ((ry ki ii sp M u sv ov wf x t y)) (M (1024 * u + 32 * x + y))).1) ((rk x y (nI 0) ((ry ki ii sp M u sv ov wf x t y)) (M (1024 * u + 32 * x + y))).2.1) ((rk x y (nI 0) ((ry ki ii sp M u sv ov wf x t y)) (M (1024 * u + 32 * x + y))).2.2.1)) = (mW g w h rf nt np mo gb wr (nI ((ry ki ii sp M u sv ov wf x t (y + 1)).2.2.2)) su pr ob ki fi se (tN M) nd ii sp qu ((ry ki ii sp M u sv ov wf x t (y + 1)).1) ((ry ki ii sp M u sv ov wf x t (y + 1)).2.1) ((ry ki ii sp M u sv ov wf x t (y + 1)).2.2.1)) := by rw [f9]
            rw [e8] at hP
            have hl : lv_has ls 11 [(0, .ref h), (1, .int (nI u)), (2, .int (sv)), (3, .int (ov)), (4, .int (nI n9)), (5, .int (nI x)), (6, .int (nI wf)), (7, .int (nI (y + 1)))] := lv_sub hl [1, 2, 3, 4, 5, 6, 7, 0] rfl
            exact ih (y + 1) (by omega) (by omega) _ _ ls hP hS hl
          · refine lv_aload_n hx hb dX4_run_180 rfl (lv_at hl 1 rfl) ?_
            refine wd_get (ci := 5) (v := .ref (h + 4)) (C := RX4) (T := TX4) (N := 21) hx hb hts iwX4 hown hK.1 hP (mW_0) rfl 5 (by decide) (hts _ (tg_tail _ tw_428)) (fun _ h9 => h9) rfl dX4_run_181 ?_
            refine lv_iload_n hx hb dX4_run_184 rfl (lv_at hl 2 rfl) ?_
            refine wd_ildN hx hb hK.1 hP 0 (k := u) (mW_4) rfl (by omega) (by decide) dX4_run_185 ?_
            refine lv_bipush (v := nI 6) hx hb dX4_run_186 (by decide) ?_
            refine lv_icmp_ne (tgt := 205) hx hb dX4_run_188 (by decide) (fun c_188 => ?_) (fun c_188 => ?_)
            · refine lv_iload hx hb dX4_run_205 (lv_at hl 7 rfl) ?_
              refine lv_if_eq (tgt := 220) hx hb dX4_run_207 (by decide) (fun c_207 => ?_) (fun c_207 => ?_)
              · have c_207 := (nI_eq (a := wf) (b := 0) (by omega) (by omega)).mp (show nI wf = nI 0 from c_207)
                refine lv_iconst (v := nI 1) hx hb dX4_run_220 (by decide) ?_
                refine lv_istore (lv' := [(9, .int (nI 1)), (8, .int (nI (M (1024 * u + 32 * x + y)))), (0, .ref h), (1, .int (nI u)), (2, .int (sv)), (3, .int (ov)), (4, .int (nI n9)), (5, .int (nI x)), (6, .int (nI wf)), (7, .int (nI y))]) hx hb dX4_run_221 hl (by decide) rfl (fun ls hl => ?_)
                refine lv_iconst (v := nI 0) hx hb dX4_run_223 (by decide) ?_
                refine lv_istore (lv' := [(10, .int (nI 0)), (9, .int (nI 1)), (8, .int (nI (M (1024 * u + 32 * x + y)))), (0, .ref h), (1, .int (nI u)), (2, .int (sv)), (3, .int (ov)), (4, .int (nI n9)), (5, .int (nI x)), (6, .int (nI wf)), (7, .int (nI y))]) hx hb dX4_run_224 hl (by decide) rfl (fun ls hl => ?_)
                have m9 : mny M u sv ov x y = M (1024 * u + 32 * x + y) := by rw [mny, if_pos c_145]
                have hm9 := hM9 (1024 * u + 32 * x + y)
                have b9 : (ry ki ii sp M u sv ov wf x t y).2.2.2 + (M (1024 * u + 32 * x + y)) ≤ 2000 := by have h7 := ry_n (ki := ki) (ii := ii) (sp := sp) (M := M) (u := u) (sv := sv) (ov := ov) (wf := wf) (x := x) (t := t) (y + 1); have h8 := sm2_mono (M := M) (u := u) (sv := sv) (ov := ov) (x := x) (n0 := t.2.2.2) (32 - (y + 1)) (y + 1); rw [ry, rk_n, m9] at h7; rw [show y + 1 + (32 - (y + 1)) = 32 by omega] at h8; omega
                have e8 : (mW g w h rf nt np mo gb wr (nI ((ry ki ii sp M u sv ov wf x t y).2.2.2)) su pr ob ki fi se (tN M) nd ii sp qu ((ry ki ii sp M u sv ov wf x t y).1) ((ry ki ii sp M u sv ov wf x t y).2.1) ((ry ki ii sp M u sv ov wf x t y).2.2.1)) = (mW g w h rf nt np mo gb wr (nI ((rk x y (nI 1) ((ry ki ii sp M u sv ov wf x t y)) 0).2.2.2)) su pr ob ki fi se (tN M) nd ii sp qu ((rk x y (nI 1) ((ry ki ii sp M u sv ov wf x t y)) 0).1) ((rk x y (nI 1) ((ry ki ii sp M u sv ov wf x t y)) 0).2.1) ((rk x y (nI 1) ((ry ki ii sp M u sv ov wf x t y)) 0).2.2.1)) := by rw [rk]
                rw [e8] at hP
                have hl : lv_has ls 11 [(0, .ref h), (1, .int (nI u)), (2, .int (sv)), (3, .int (ov)), (4, .int (nI n9)), (5, .int (nI x)), (6, .int (nI wf)), (7, .int (nI y)), (8, .int (nI (M (1024 * u + 32 * x + y)))), (9, .int (nI 1)), (10, .int (nI 0))] := lv_sub hl [3, 4, 5, 6, 7, 8, 9, 10, 2, 1, 0] rfl
                refine lp_rk g s0 w h hs0 rf nt np mo gb wr su pr ob ki fi se (tN M) nd ii sp qu u x y n9 wf (M (1024 * u + 32 * x + y)) sv ov (nI 1) (ry ki ii sp M u sv ov wf x t y) b9 hx hb hml hown hts hK h0s hRm hcs  ?_ ((M (1024 * u + 32 * x + y)) + 1) 0 (by omega) (by omega) _ _ ls hP hS hl
                intro H locs ls hP hS hl
                refine lv_iinc (v := nI (y + 1)) (lv' := [(7, .int (nI (y + 1))), (0, .ref h), (1, .int (nI u)), (2, .int (sv)), (3, .int (ov)), (4, .int (nI n9)), (5, .int (nI x)), (6, .int (nI wf))]) hx hb dX4_run_282 hl (k := 7) rfl (nI_1 _) (by decide) rfl (fun ls hl => ?_)
                refine lv_goto (tgt := 129) hx hb dX4_run_285 (by decide) ?_
                have d9 : dpf ki ii sp u wf x y = nI 1 := by clear hts hP hK hx hb hown hS hRm hcs hl ih; unfold dpf; grind
                have f9 : ry ki ii sp M u sv ov wf x t (y + 1) = rk x y (nI 1) (ry ki ii sp M u sv ov wf x t y) (M (1024 * u + 32 * x + y)) := by rw [ry, m9, d9]
                have e8 : (mW g w h rf nt np mo gb wr (nI ((rk x y (nI 1) ((ry ki ii sp M u sv ov wf x t y)) (M (1024 * u + 32 * x + y))).2.2.2)) su pr ob ki fi se (tN M) nd ii sp qu ((rk x y (nI 1) ((ry ki ii sp M u sv ov wf x t y)) (M (1024 * u + 32 * x + y))).1) ((rk x y (nI 1) ((ry ki ii sp M u sv ov wf x t y)) (M (1024 * u + 32 * x + y))).2.1) ((rk x y (nI 1) ((ry ki ii sp M u sv ov wf x t y)) (M (1024 * u + 32 * x + y))).2.2.1)) = (mW g w h rf nt np mo gb wr (nI ((ry ki ii sp M u sv ov wf x t (y + 1)).2.2.2)) su pr ob ki fi se (tN M) nd ii sp qu ((ry ki ii sp M u sv ov wf x t (y + 1)).1) ((ry ki ii sp M u sv ov wf x t (y + 1)).2.1) ((ry ki ii sp M u sv ov wf x t (y + 1)).2.2.1)) := by rw [f9]
                rw [e8] at hP
                have hl : lv_has ls 11 [(0, .ref h), (1, .int (nI u)), (2, .int (sv)), (3, .int (ov)), (4, .int (nI n9)), (5, .int (nI x)), (6, .int (nI wf)), (7, .int (nI (y + 1)))] := lv_sub hl [1, 2, 3, 4, 5, 6, 7, 0] rfl
                exact ih (y + 1) (by omega) (by omega) _ _ ls hP hS hl
              · have c_207 := mt (nI_eq (a := wf) (b := 0) (by omega) (by omega)).mpr (show ¬ (nI wf = nI 0) from c_207)
                refine lv_aload_n hx hb dX4_run_210 rfl (lv_at hl 1 rfl) ?_
                refine wd_get (ci := 5) (v := .ref (h + 10)) (C := RX4) (T := TX4) (N := 21) hx hb hts iwX4 hown hK.1 hP (mW_0) rfl 14 (by decide) (hts _ (tg_tail _ tw_437)) (fun _ h9 => h9) rfl dX4_run_211 ?_
                refine lv_iload hx hb dX4_run_214 (lv_at hl 8 rfl) ?_
                refine wd_ildN hx hb hK.1 hP 0 (k := y) (mW_10) rfl (by omega) (by decide) dX4_run_216 ?_
                refine lv_goto (tgt := 221) hx hb dX4_run_217 (by decide) ?_
                refine lv_istore (lv' := [(9, .int (sp y)), (8, .int (nI (M (1024 * u + 32 * x + y)))), (0, .ref h), (1, .int (nI u)), (2, .int (sv)), (3, .int (ov)), (4, .int (nI n9)), (5, .int (nI x)), (6, .int (nI wf)), (7, .int (nI y))]) hx hb dX4_run_221 hl (by decide) rfl (fun ls hl => ?_)
                refine lv_iconst (v := nI 0) hx hb dX4_run_223 (by decide) ?_
                refine lv_istore (lv' := [(10, .int (nI 0)), (9, .int (sp y)), (8, .int (nI (M (1024 * u + 32 * x + y)))), (0, .ref h), (1, .int (nI u)), (2, .int (sv)), (3, .int (ov)), (4, .int (nI n9)), (5, .int (nI x)), (6, .int (nI wf)), (7, .int (nI y))]) hx hb dX4_run_224 hl (by decide) rfl (fun ls hl => ?_)
                have m9 : mny M u sv ov x y = M (1024 * u + 32 * x + y) := by rw [mny, if_pos c_145]
                have hm9 := hM9 (1024 * u + 32 * x + y)
                have b9 : (ry ki ii sp M u sv ov wf x t y).2.2.2 + (M (1024 * u + 32 * x + y)) ≤ 2000 := by have h7 := ry_n (ki := ki) (ii := ii) (sp := sp) (M := M) (u := u) (sv := sv) (ov := ov) (wf := wf) (x := x) (t := t) (y + 1); have h8 := sm2_mono (M := M) (u := u) (sv := sv) (ov := ov) (x := x) (n0 := t.2.2.2) (32 - (y + 1)) (y + 1); rw [ry, rk_n, m9] at h7; rw [show y + 1 + (32 - (y + 1)) = 32 by omega] at h8; omega
                have e8 : (mW g w h rf nt np mo gb wr (nI ((ry ki ii sp M u sv ov wf x t y).2.2.2)) su pr ob ki fi se (tN M) nd ii sp qu ((ry ki ii sp M u sv ov wf x t y).1) ((ry ki ii sp M u sv ov wf x t y).2.1) ((ry ki ii sp M u sv ov wf x t y).2.2.1)) = (mW g w h rf nt np mo gb wr (nI ((rk x y (sp y) ((ry ki ii sp M u sv ov wf x t y)) 0).2.2.2)) su pr ob ki fi se (tN M) nd ii sp qu ((rk x y (sp y) ((ry ki ii sp M u sv ov wf x t y)) 0).1) ((rk x y (sp y) ((ry ki ii sp M u sv ov wf x t y)) 0).2.1) ((rk x y (sp y) ((ry ki ii sp M u sv ov wf x t y)) 0).2.2.1)) := by rw [rk]
                rw [e8] at hP
                have hl : lv_has ls 11 [(0, .ref h), (1, .int (nI u)), (2, .int (sv)), (3, .int (ov)), (4, .int (nI n9)), (5, .int (nI x)), (6, .int (nI wf)), (7, .int (nI y)), (8, .int (nI (M (1024 * u + 32 * x + y)))), (9, .int (sp y)), (10, .int (nI 0))] := lv_sub hl [3, 4, 5, 6, 7, 8, 9, 10, 2, 1, 0] rfl
                refine lp_rk g s0 w h hs0 rf nt np mo gb wr su pr ob ki fi se (tN M) nd ii sp qu u x y n9 wf (M (1024 * u + 32 * x + y)) sv ov (sp y) (ry ki ii sp M u sv ov wf x t y) b9 hx hb hml hown hts hK h0s hRm hcs  ?_ ((M (1024 * u + 32 * x + y)) + 1) 0 (by omega) (by omega) _ _ ls hP hS hl
                intro H locs ls hP hS hl
                refine lv_iinc (v := nI (y + 1)) (lv' := [(7, .int (nI (y + 1))), (0, .ref h), (1, .int (nI u)), (2, .int (sv)), (3, .int (ov)), (4, .int (nI n9)), (5, .int (nI x)), (6, .int (nI wf))]) hx hb dX4_run_282 hl (k := 7) rfl (nI_1 _) (by decide) rfl (fun ls hl => ?_)
                refine lv_goto (tgt := 129) hx hb dX4_run_285 (by decide) ?_
                have d9 : dpf ki ii sp u wf x y = sp y := by clear hts hP hK hx hb hown hS hRm hcs hl ih; unfold dpf; grind
                have f9 : ry ki ii sp M u sv ov wf x t (y + 1) = rk x y (sp y) (ry ki ii sp M u sv ov wf x t y) (M (1024 * u + 32 * x + y)) := by rw [ry, m9, d9]
                have e8 : (mW g w h rf nt np mo gb wr (nI ((rk x y (sp y) ((ry ki ii sp M u sv ov wf x t y)) (M (1024 * u + 32 * x + y))).2.2.2)) su pr ob ki fi se (tN M) nd ii sp qu ((rk x y (sp y) ((ry ki ii sp M u sv ov wf x t y)) (M (1024 * u + 32 * x + y))).1) ((rk x y (sp y) ((ry ki ii sp M u sv ov wf x t y)) (M (1024 * u + 32 * x + y))).2.1) ((rk x y (sp y) ((ry ki ii sp M u sv ov wf x t y)) (M (1024 * u + 32 * x + y))).2.2.1)) = (mW g w h rf nt np mo gb wr (nI ((ry ki ii sp M u sv ov wf x t (y + 1)).2.2.2)) su pr ob ki fi se (tN M) nd ii sp qu ((ry ki ii sp M u sv ov wf x t (y + 1)).1) ((ry ki ii sp M u sv ov wf x t (y + 1)).2.1) ((ry ki ii sp M u sv ov wf x t (y + 1)).2.2.1)) := by rw [f9]
                rw [e8] at hP
                have hl : lv_has ls 11 [(0, .ref h), (1, .int (nI u)), (2, .int (sv)), (3, .int (ov)), (4, .int (nI n9)), (5, .int (nI x)), (6, .int (nI wf)), (7, .int (nI (y + 1)))] := lv_sub hl [1, 2, 3, 4, 5, 6, 7, 0] rfl
                exact ih (y + 1) (by omega) (by omega) _ _ ls hP hS hl
            · refine lv_aload_n hx hb dX4_run_191 rfl (lv_at hl 1 rfl) ?_
              refine wd_get (ci := 5) (v := .ref (h + 9)) (C := RX4) (T := TX4) (N := 21) hx hb hts iwX4 hown hK.1 hP (mW_0) rfl 12 (by decide) (hts _ (tg_tail _ tw_435)) (fun _ h9 => h9) rfl dX4_run_192 ?_
              refine lv_iload hx hb dX4_run_195 (lv_at hl 6 rfl) ?_
              refine wd_zldN hx hb hK.1 hP 1 (k := x) (mW_9) rfl (by omega) (by decide) dX4_run_197 ?_
              refine lv_if_eq (tgt := 205) hx hb dX4_run_198 (by decide) (fun c_198 => ?_) (fun c_198 => ?_)
              · refine lv_iload hx hb dX4_run_205 (lv_at hl 7 rfl) ?_
                refine lv_if_eq (tgt := 220) hx hb dX4_run_207 (by decide) (fun c_207 => ?_) (fun c_207 => ?_)
                · have c_207 := (nI_eq (a := wf) (b := 0) (by omega) (by omega)).mp (show nI wf = nI 0 from c_207)
                  refine lv_iconst (v := nI 1) hx hb dX4_run_220 (by decide) ?_
                  refine lv_istore (lv' := [(9, .int (nI 1)), (8, .int (nI (M (1024 * u + 32 * x + y)))), (0, .ref h), (1, .int (nI u)), (2, .int (sv)), (3, .int (ov)), (4, .int (nI n9)), (5, .int (nI x)), (6, .int (nI wf)), (7, .int (nI y))]) hx hb dX4_run_221 hl (by decide) rfl (fun ls hl => ?_)
                  refine lv_iconst (v := nI 0) hx hb dX4_run_223 (by decide) ?_
                  refine lv_istore (lv' := [(10, .int (nI 0)), (9, .int (nI 1)), (8, .int (nI (M (1024 * u + 32 * x + y)))), (0, .ref h), (1, .int (nI u)), (2, .int (sv)), (3, .int (ov)), (4, .int (nI n9)), (5, .int (nI x)), (6, .int (nI wf)), (7, .int (nI y))]) hx hb dX4_run_224 hl (by decide) rfl (fun ls hl => ?_)
                  have m9 : mny M u sv ov x y = M (1024 * u + 32 * x + y) := by rw [mny, if_pos c_145]
                  have hm9 := hM9 (1024 * u + 32 * x + y)
                  have b9 : (ry ki ii sp M u sv ov wf x t y).2.2.2 + (M (1024 * u + 32 * x + y)) ≤ 2000 := by have h7 := ry_n (ki := ki) (ii := ii) (sp := sp) (M := M) (u := u) (sv := sv) (ov := ov) (wf := wf) (x := x) (t := t) (y + 1); have h8 := sm2_mono (M := M) (u := u) (sv := sv) (ov := ov) (x := x) (n0 := t.2.2.2) (32 - (y + 1)) (y + 1); rw [ry, rk_n, m9] at h7; rw [show y + 1 + (32 - (y + 1)) = 32 by omega] at h8; omega
                  have e8 : (mW g w h rf nt np mo gb wr (nI ((ry ki ii sp M u sv ov wf x t y).2.2.2)) su pr ob ki fi se (tN M) nd ii sp qu ((ry ki ii sp M u sv ov wf x t y).1) ((ry ki ii sp M u sv ov wf x t y).2.1) ((ry ki ii sp M u sv ov wf x t y).2.2.1)) = (mW g w h rf nt np mo gb wr (nI ((rk x y (nI 1) ((ry ki ii sp M u sv ov wf x t y)) 0).2.2.2)) su pr ob ki fi se (tN M) nd ii sp qu ((rk x y (nI 1) ((ry ki ii sp M u sv ov wf x t y)) 0).1) ((rk x y (nI 1) ((ry ki ii sp M u sv ov wf x t y)) 0).2.1) ((rk x y (nI 1) ((ry ki ii sp M u sv ov wf x t y)) 0).2.2.1)) := by rw [rk]
                  rw [e8] at hP
                  have hl : lv_has ls 11 [(0, .ref h), (1, .int (nI u)), (2, .int (sv)), (3, .int (ov)), (4, .int (nI n9)), (5, .int (nI x)), (6, .int (nI wf)), (7, .int (nI y)), (8, .int (nI (M (1024 * u + 32 * x + y)))), (9, .int (nI 1)), (10, .int (nI 0))] := lv_sub hl [3, 4, 5, 6, 7, 8, 9, 10, 2, 1, 0] rfl
                  refine lp_rk g s0 w h hs0 rf nt np mo gb wr su pr ob ki fi se (tN M) nd ii sp qu u x y n9 wf (M (1024 * u + 32 * x + y)) sv ov (nI 1) (ry ki ii sp M u sv ov wf x t y) b9 hx hb hml hown hts hK h0s hRm hcs  ?_ ((M (1024 * u + 32 * x + y)) + 1) 0 (by omega) (by omega) _ _ ls hP hS hl
                  intro H locs ls hP hS hl
                  refine lv_iinc (v := nI (y + 1)) (lv' := [(7, .int (nI (y + 1))), (0, .ref h), (1, .int (nI u)), (2, .int (sv)), (3, .int (ov)), (4, .int (nI n9)), (5, .int (nI x)), (6, .int (nI wf))]) hx hb dX4_run_282 hl (k := 7) rfl (nI_1 _) (by decide) rfl (fun ls hl => ?_)
                  refine lv_goto (tgt := 129) hx hb dX4_run_285 (by decide) ?_
                  have d9 : dpf ki ii sp u wf x y = nI 1 := by clear hts hP hK hx hb hown hS hRm hcs hl ih; unfold dpf; grind
                  have f9 : ry ki ii sp M u sv ov wf x t (y + 1) = rk x y (nI 1) (ry ki ii sp M u sv ov wf x t y) (M (1024 * u + 32 * x + y)) := by rw [ry, m9, d9]
                  have e8 : (mW g w h rf nt np mo gb wr (nI ((rk x y (nI 1) ((ry ki ii sp M u sv ov wf x t y)) (M (1024 * u + 32 * x + y))).2.2.2)) su pr ob ki fi se (tN M) nd ii sp qu ((rk x y (nI 1) ((ry ki ii sp M u sv ov wf x t y)) (M (1024 * u + 32 * x + y))).1) ((rk x y (nI 1) ((ry ki ii sp M u sv ov wf x t y)) (M (1024 * u + 32 * x + y))).2.1) ((rk x y (nI 1) ((ry ki ii sp M u sv ov wf x t y)) (M (1024 * u + 32 * x + y))).2.2.1)) = (mW g w h rf nt np mo gb wr (nI ((ry ki ii sp M u sv ov wf x t (y + 1)).2.2.2)) su pr ob ki fi se (tN M) nd ii sp qu ((ry ki ii sp M u sv ov wf x t (y + 1)).1) ((ry ki ii sp M u sv ov wf x t (y + 1)).2.1) ((ry ki ii sp M u sv ov wf x t (y + 1)).2.2.1)) := by rw [f9]
                  rw [e8] at hP
                  have hl : lv_has ls 11 [(0, .ref h), (1, .int (nI u)), (2, .int (sv)), (3, .int (ov)), (4, .int (nI n9)), (5, .int (nI x)), (6, .int (nI wf)), (7, .int (nI (y + 1)))] := lv_sub hl [1, 2, 3, 4, 5, 6, 7, 0] rfl
                  exact ih (y + 1) (by omega) (by omega) _ _ ls hP hS hl
                · have c_207 := mt (nI_eq (a := wf) (b := 0) (by omega) (by omega)).mpr (show ¬ (nI wf = nI 0) from c_207)
                  refine lv_aload_n hx hb dX4_run_210 rfl (lv_at hl 1 rfl) ?_
                  refine wd_get (ci := 5) (v := .ref (h + 10)) (C := RX4) (T := TX4) (N := 21) hx hb hts iwX4 hown hK.1 hP (mW_0) rfl 14 (by decide) (hts _ (tg_tail _ tw_437)) (fun _ h9 => h9) rfl dX4_run_211 ?_
                  refine lv_iload hx hb dX4_run_214 (lv_at hl 8 rfl) ?_
                  refine wd_ildN hx hb hK.1 hP 0 (k := y) (mW_10) rfl (by omega) (by decide) dX4_run_216 ?_
                  refine lv_goto (tgt := 221) hx hb dX4_run_217 (by decide) ?_
                  refine lv_istore (lv' := [(9, .int (sp y)), (8, .int (nI (M (1024 * u + 32 * x + y)))), (0, .ref h), (1, .int (nI u)), (2, .int (sv)), (3, .int (ov)), (4, .int (nI n9)), (5, .int (nI x)), (6, .int (nI wf)), (7, .int (nI y))]) hx hb dX4_run_221 hl (by decide) rfl (fun ls hl => ?_)
                  refine lv_iconst (v := nI 0) hx hb dX4_run_223 (by decide) ?_
                  refine lv_istore (lv' := [(10, .int (nI 0)), (9, .int (sp y)), (8, .int (nI (M (1024 * u + 32 * x + y)))), (0, .ref h), (1, .int (nI u)), (2, .int (sv)), (3, .int (ov)), (4, .int (nI n9)), (5, .int (nI x)), (6, .int (nI wf)), (7, .int (nI y))]) hx hb dX4_run_224 hl (by decide) rfl (fun ls hl => ?_)
                  have m9 : mny M u sv ov x y = M (1024 * u + 32 * x + y) := by rw [mny, if_pos c_145]
                  have hm9 := hM9 (1024 * u + 32 * x + y)
                  have b9 : (ry ki ii sp M u sv ov wf x t y).2.2.2 + (M (1024 * u + 32 * x + y)) ≤ 2000 := by have h7 := ry_n (ki := ki) (ii := ii) (sp := sp) (M := M) (u := u) (sv := sv) (ov := ov) (wf := wf) (x := x) (t := t) (y + 1); have h8 := sm2_mono (M := M) (u := u) (sv := sv) (ov := ov) (x := x) (n0 := t.2.2.2) (32 - (y + 1)) (y + 1); rw [ry, rk_n, m9] at h7; rw [show y + 1 + (32 - (y + 1)) = 32 by omega] at h8; omega
                  have e8 : (mW g w h rf nt np mo gb wr (nI ((ry ki ii sp M u sv ov wf x t y).2.2.2)) su pr ob ki fi se (tN M) nd ii sp qu ((ry ki ii sp M u sv ov wf x t y).1) ((ry ki ii sp M u sv ov wf x t y).2.1) ((ry ki ii sp M u sv ov wf x t y).2.2.1)) = (mW g w h rf nt np mo gb wr (nI ((rk x y (sp y) ((ry ki ii sp M u sv ov wf x t y)) 0).2.2.2)) su pr ob ki fi se (tN M) nd ii sp qu ((rk x y (sp y) ((ry ki ii sp M u sv ov wf x t y)) 0).1) ((rk x y (sp y) ((ry ki ii sp M u sv ov wf x t y)) 0).2.1) ((rk x y (sp y) ((ry ki ii sp M u sv ov wf x t y)) 0).2.2.1)) := by rw [rk]
                  rw [e8] at hP
                  have hl : lv_has ls 11 [(0, .ref h), (1, .int (nI u)), (2, .int (sv)), (3, .int (ov)), (4, .int (nI n9)), (5, .int (nI x)), (6, .int (nI wf)), (7, .int (nI y)), (8, .int (nI (M (1024 * u + 32 * x + y)))), (9, .int (sp y)), (10, .int (nI 0))] := lv_sub hl [3, 4, 5, 6, 7, 8, 9, 10, 2, 1, 0] rfl
                  refine lp_rk g s0 w h hs0 rf nt np mo gb wr su pr ob ki fi se (tN M) nd ii sp qu u x y n9 wf (M (1024 * u + 32 * x + y)) sv ov (sp y) (ry ki ii sp M u sv ov wf x t y) b9 hx hb hml hown hts hK h0s hRm hcs  ?_ ((M (1024 * u + 32 * x + y)) + 1) 0 (by omega) (by omega) _ _ ls hP hS hl
                  intro H locs ls hP hS hl
                  refine lv_iinc (v := nI (y + 1)) (lv' := [(7, .int (nI (y + 1))), (0, .ref h), (1, .int (nI u)), (2, .int (sv)), (3, .int (ov)), (4, .int (nI n9)), (5, .int (nI x)), (6, .int (nI wf))]) hx hb dX4_run_282 hl (k := 7) rfl (nI_1 _) (by decide) rfl (fun ls hl => ?_)
                  refine lv_goto (tgt := 129) hx hb dX4_run_285 (by decide) ?_
                  have d9 : dpf ki ii sp u wf x y = sp y := by clear hts hP hK hx hb hown hS hRm hcs hl ih; unfold dpf; grind
                  have f9 : ry ki ii sp M u sv ov wf x t (y + 1) = rk x y (sp y) (ry ki ii sp M u sv ov wf x t y) (M (1024 * u + 32 * x + y)) := by rw [ry, m9, d9]
                  have e8 : (mW g w h rf nt np mo gb wr (nI ((rk x y (sp y) ((ry ki ii sp M u sv ov wf x t y)) (M (1024 * u + 32 * x + y))).2.2.2)) su pr ob ki fi se (tN M) nd ii sp qu ((rk x y (sp y) ((ry ki ii sp M u sv ov wf x t y)) (M (1024 * u + 32 * x + y))).1) ((rk x y (sp y) ((ry ki ii sp M u sv ov wf x t y)) (M (1024 * u + 32 * x + y))).2.1) ((rk x y (sp y) ((ry ki ii sp M u sv ov wf x t y)) (M (1024 * u + 32 * x + y))).2.2.1)) = (mW g w h rf nt np mo gb wr (nI ((ry ki ii sp M u sv ov wf x t (y + 1)).2.2.2)) su pr ob ki fi se (tN M) nd ii sp qu ((ry ki ii sp M u sv ov wf x t (y + 1)).1) ((ry ki ii sp M u sv ov wf x t (y + 1)).2.1) ((ry ki ii sp M u sv ov wf x t (y + 1)).2.2.1)) := by rw [f9]
                  rw [e8] at hP
                  have hl : lv_has ls 11 [(0, .ref h), (1, .int (nI u)), (2, .int (sv)), (3, .int (ov)), (4, .int (nI n9)), (5, .int (nI x)), (6, .int (nI wf)), (7, .int (nI (y + 1)))] := lv_sub hl [1, 2, 3, 4, 5, 6, 7, 0] rfl
                  exact ih (y + 1) (by omega) (by omega) _ _ ls hP hS hl
              · refine lv_iconst (v := nI 0) hx hb dX4_run_201 (by decide) ?_
                refine lv_goto (tgt := 221) hx hb dX4_run_202 (by decide) ?_
                refine lv_istore (lv' := [(9, .int (nI 0)), (8, .int (nI (M (1024 * u + 32 * x + y)))), (0, .ref h), (1, .int (nI u)), (2, .int (sv)), (3, .int (ov)), (4, .int (nI n9)), (5, .int (nI x)), (6, .int (nI wf)), (7, .int (nI y))]) hx hb dX4_run_221 hl (by decide) rfl (fun ls hl => ?_)
                refine lv_iconst (v := nI 0) hx hb dX4_run_223 (by decide) ?_
                refine lv_istore (lv' := [(10, .int (nI 0)), (9, .int (nI 0)), (8, .int (nI (M (1024 * u + 32 * x + y)))), (0, .ref h), (1, .int (nI u)), (2, .int (sv)), (3, .int (ov)), (4, .int (nI n9)), (5, .int (nI x)), (6, .int (nI wf)), (7, .int (nI y))]) hx hb dX4_run_224 hl (by decide) rfl (fun ls hl => ?_)
                have m9 : mny M u sv ov x y = M (1024 * u + 32 * x + y) := by rw [mny, if_pos c_145]
                have hm9 := hM9 (1024 * u + 32 * x + y)
                have b9 : (ry ki ii sp M u sv ov wf x t y).2.2.2 + (M (1024 * u + 32 * x + y)) ≤ 2000 := by have h7 := ry_n (ki := ki) (ii := ii) (sp := sp) (M := M) (u := u) (sv := sv) (ov := ov) (wf := wf) (x := x) (t := t) (y + 1); have h8 := sm2_mono (M := M) (u := u) (sv := sv) (ov := ov) (x := x) (n0 := t.2.2.2) (32 - (y + 1)) (y + 1); rw [ry, rk_n, m9] at h7; rw [show y + 1 + (32 - (y + 1)) = 32 by omega] at h8; omega
                have e8 : (mW g w h rf nt np mo gb wr (nI ((ry ki ii sp M u sv ov wf x t y).2.2.2)) su pr ob ki fi se (tN M) nd ii sp qu ((ry ki ii sp M u sv ov wf x t y).1) ((ry ki ii sp M u sv ov wf x t y).2.1) ((ry ki ii sp M u sv ov wf x t y).2.2.1)) = (mW g w h rf nt np mo gb wr (nI ((rk x y (nI 0) ((ry ki ii sp M u sv ov wf x t y)) 0).2.2.2)) su pr ob ki fi se (tN M) nd ii sp qu ((rk x y (nI 0) ((ry ki ii sp M u sv ov wf x t y)) 0).1) ((rk x y (nI 0) ((ry ki ii sp M u sv ov wf x t y)) 0).2.1) ((rk x y (nI 0) ((ry ki ii sp M u sv ov wf x t y)) 0).2.2.1)) := by rw [rk]
                rw [e8] at hP
                have hl : lv_has ls 11 [(0, .ref h), (1, .int (nI u)), (2, .int (sv)), (3, .int (ov)), (4, .int (nI n9)), (5, .int (nI x)), (6, .int (nI wf)), (7, .int (nI y)), (8, .int (nI (M (1024 * u + 32 * x + y)))), (9, .int (nI 0)), (10, .int (nI 0))] := lv_sub hl [3, 4, 5, 6, 7, 8, 9, 10, 2, 1, 0] rfl
                refine lp_rk g s0 w h hs0 rf nt np mo gb wr su pr ob ki fi se (tN M) nd ii sp qu u x y n9 wf (M (1024 * u + 32 * x + y)) sv ov (nI 0) (ry ki ii sp M u sv ov wf x t y) b9 hx hb hml hown hts hK h0s hRm hcs  ?_ ((M (1024 * u + 32 * x + y)) + 1) 0 (by omega) (by omega) _ _ ls hP hS hl
                intro H locs ls hP hS hl
                refine lv_iinc (v := nI (y + 1)) (lv' := [(7, .int (nI (y + 1))), (0, .ref h), (1, .int (nI u)), (2, .int (sv)), (3, .int (ov)), (4, .int (nI n9)), (5, .int (nI x)), (6, .int (nI wf))]) hx hb dX4_run_282 hl (k := 7) rfl (nI_1 _) (by decide) rfl (fun ls hl => ?_)
                refine lv_goto (tgt := 129) hx hb dX4_run_285 (by decide) ?_
                have d9 : dpf ki ii sp u wf x y = nI 0 := by clear hts hP hK hx hb hown hS hRm hcs hl ih; unfold dpf; grind
                have f9 : ry ki ii sp M u sv ov wf x t (y + 1) = rk x y (nI 0) (ry ki ii sp M u sv ov wf x t y) (M (1024 * u + 32 * x + y)) := by rw [ry, m9, d9]
                have e8 : (mW g w h rf nt np mo gb wr (nI ((rk x y (nI 0) ((ry ki ii sp M u sv ov wf x t y)) (M (1024 * u + 32 * x + y))).2.2.2)) su pr ob ki fi se (tN M) nd ii sp qu ((rk x y (nI 0) ((ry ki ii sp M u sv ov wf x t y)) (M (1024 * u + 32 * x + y))).1) ((rk x y (nI 0) ((ry ki ii sp M u sv ov wf x t y)) (M (1024 * u + 32 * x + y))).2.1) ((rk x y (nI 0) ((ry ki ii sp M u sv ov wf x t y)) (M (1024 * u + 32 * x + y))).2.2.1)) = (mW g w h rf nt np mo gb wr (nI ((ry ki ii sp M u sv ov wf x t (y + 1)).2.2.2)) su pr ob ki fi se (tN M) nd ii sp qu ((ry ki ii sp M u sv ov wf x t (y + 1)).1) ((ry ki ii sp M u sv ov wf x t (y + 1)).2.1) ((ry ki ii sp M u sv ov wf x t (y + 1)).2.2.1)) := by rw [f9]
                rw [e8] at hP
                have hl : lv_has ls 11 [(0, .ref h), (1, .int (nI u)), (2, .int (sv)), (3, .int (ov)), (4, .int (nI n9)), (5, .int (nI x)), (6, .int (nI wf)), (7, .int (nI (y + 1)))] := lv_sub hl [1, 2, 3, 4, 5, 6, 7, 0] rfl
                exact ih (y + 1) (by omega) (by omega) _ _ ls hP hS hl

set_option maxHeartbeats 4000000 in
set_option maxRecDepth 100000 in
theorem lp_rx {p : Program} {l : Launch} {e : Env} {R : Room} {s : State} {m : MethodId} {args : Array Value} {below : List Frame} {meth : Method} {c : Code} {Q : State → Prop} {H0 : Heap} {cells slots : Nat} (g : gX) (s0 : Nat) (w : wd_M) (h : Nat) (hs0 : s0 ≤ h) (rf nt np mo gb wr : Int32) (su pr ob ki fi se nd ii sp qu rF rT rD : Nat → Int32) (M : Nat → Nat) (hM9 : mB M) (u a kd n9 wf : Nat) (hu : u ≤ 40) (sv ov : Int32) (hkd : ki u = nI kd) (hk7 : kd ≤ 7) (hfa : 1 ≤ kd → kd ≤ 6 → fi u = nI a ∧ a ≤ 40) (hwf : wf = if kd = 4 ∨ kd = 5 then 1 else 0) (hmn : sm1 M u sv ov 32 ≤ 2000) (hx : p.tables.exec = Jvm.exec) (hb : c.code = cX4_run) (hml : c.maxLocals = 11) (hown : s.vm.findClass RX4 = some m.cls) (hts : ∀ w ∈ Cond.code yX4_run cX4_run 11 (some .int) :: tg, w.before args s = true) (hK : gK g s) (h0s : s0 ≤ H0.size) (hRm : 5 ≤ R.frames ∧ 123 ≤ R.locals) (hcs : cells + 0 ≤ R.cells ∧ slots + 0 ≤ R.slots)  (kx : ∀ (H : Heap) (locs : List Loc) (ls : Array Slot), gP g (mW g w h rf nt np mo gb wr (nI ((rx ki ii M u a sv ov wf (((rF, rT, rD, 0), sp, qu) : xT) 32).1.2.2.2)) su pr ob ki fi se (tN M) nd ii ((rx ki ii M u a sv ov wf (((rF, rT, rD, 0), sp, qu) : xT) 32).2.1) ((rx ki ii M u a sv ov wf (((rF, rT, rD, 0), sp, qu) : xT) 32).2.2) ((rx ki ii M u a sv ov wf (((rF, rT, rD, 0), sp, qu) : xT) 32).1.1) ((rx ki ii M u a sv ov wf (((rF, rT, rD, 0), sp, qu) : xT) 32).1.2.1) ((rx ki ii M u a sv ov wf (((rF, rT, rD, 0), sp, qu) : xT) 32).1.2.2.1)) H → gS s0 H0 H locs → lv_has ls 11 [(0, .ref h), (4, .int (nI n9))] → W p l e R s m args below meth c H locs cells slots Q (F0 m 294 ls [])) :
    ∀ (n x : Nat), x ≤ 32 → 32 + 1 ≤ x + n → ∀ (H : Heap) (locs : List Loc) (ls : Array Slot), gP g (mW g w h rf nt np mo gb wr (nI ((rx ki ii M u a sv ov wf (((rF, rT, rD, 0), sp, qu) : xT) x).1.2.2.2)) su pr ob ki fi se (tN M) nd ii ((rx ki ii M u a sv ov wf (((rF, rT, rD, 0), sp, qu) : xT) x).2.1) ((rx ki ii M u a sv ov wf (((rF, rT, rD, 0), sp, qu) : xT) x).2.2) ((rx ki ii M u a sv ov wf (((rF, rT, rD, 0), sp, qu) : xT) x).1.1) ((rx ki ii M u a sv ov wf (((rF, rT, rD, 0), sp, qu) : xT) x).1.2.1) ((rx ki ii M u a sv ov wf (((rF, rT, rD, 0), sp, qu) : xT) x).1.2.2.1)) H → gS s0 H0 H locs → lv_has ls 11 [(0, .ref h), (1, .int (nI u)), (2, .int (sv)), (3, .int (ov)), (4, .int (nI n9)), (5, .int (nI x))] → W p l e R s m args below meth c H locs cells slots Q (F0 m 75 ls []) := by
  intro n
  induction n with
  | zero =>
    intro x h1 h2
    exact absurd h2 (by omega)
  | succ n ih =>
    intro x hi hin H locs ls hP hS hl
    have b9 : sm2 M u sv ov x (rx ki ii M u a sv ov wf (((rF, rT, rD, 0), sp, qu) : xT) x).1.2.2.2 32 ≤ 2000 ∨ 32 ≤ x := by
      rcases Nat.lt_or_ge x 32 with q | q
      · left
        have h8 := sm1_mono (u := u) (sv := sv) (ov := ov) hM9 (32 - (x + 1)) (x + 1)
        rw [show x + 1 + (32 - (x + 1)) = 32 by omega, sm1.eq_2] at h8
        rw [rx_n rfl]
        omega
      · right
        exact q
    refine lv_iload hx hb dX4_run_75 (lv_at hl 5 rfl) ?_
    refine lv_bipush (v := nI 32) hx hb dX4_run_77 (by decide) ?_
    refine lv_icmp_ge (tgt := 294) hx hb dX4_run_79 (by decide) (fun c_79 => ?_) (fun c_79 => ?_)
    · have c_79 := (nI_leI (a := 32) (b := x) (by omega) (by omega)).mp c_79
      have e9 : x = 32 := by omega
      try rw [e9] at hP
      try rw [e9] at hl
      exact kx H locs ls hP hS (lv_sub hl [0, 4] rfl)
    · have c_79 := mt (nI_leI (a := 32) (b := x) (by omega) (by omega)).mpr c_79
      refine lv_aload_n hx hb dX4_run_82 rfl (lv_at hl 0 rfl) ?_
      refine wd_get (ci := 5) (v := .ref (h + 4)) (C := RX4) (T := TX4) (N := 21) hx hb hts iwX4 hown hK.1 hP (mW_0) rfl 5 (by decide) (hts _ (tg_tail _ tw_428)) (fun _ h9 => h9) rfl dX4_run_83 ?_
      refine lv_iload_n hx hb dX4_run_86 rfl (lv_at hl 1 rfl) ?_
      refine wd_ildN hx hb hK.1 hP 0 (k := u) (mW_4) rfl (by omega) (by decide) dX4_run_87 ?_
      refine wd_ti (x' := nI kd) (hkd) ?_
      refine lv_iconst (v := nI 4) hx hb dX4_run_88 (by decide) ?_
      refine lv_icmp_eq (tgt := 102) hx hb dX4_run_89 (by decide) (fun c_89 => ?_) (fun c_89 => ?_)
      · have c_89 := (nI_eq (a := kd) (b := 4) (by omega) (by omega)).mp c_89
        refine lv_iconst (v := nI 1) hx hb dX4_run_102 (by decide) ?_
        refine lv_goto (tgt := 107) hx hb dX4_run_103 (by decide) ?_
        refine lv_istore (lv' := [(6, .int (nI 1)), (0, .ref h), (1, .int (nI u)), (2, .int (sv)), (3, .int (ov)), (4, .int (nI n9)), (5, .int (nI x))]) hx hb dX4_run_107 hl (by decide) rfl (fun ls hl => ?_)
        refine lv_iload hx hb dX4_run_109 (lv_at hl 0 rfl) ?_
        refine lv_if_eq (tgt := 126) hx hb dX4_run_111 (by decide) (fun c_111 => ?_) (fun c_111 => ?_)
        · have c_111 := (nI_eq (a := 1) (b := 0) (by omega) (by omega)).mp (show nI 1 = nI 0 from c_111)
          exact absurd c_111 (by decide)
        · have c_111 := mt (nI_eq (a := 1) (b := 0) (by omega) (by omega)).mpr (show ¬ (nI 1 = nI 0) from c_111)
          refine lv_aload_n hx hb dX4_run_114 rfl (lv_at hl 1 rfl) ?_
          refine lv_aload_n hx hb dX4_run_115 rfl (lv_at hl 1 rfl) ?_
          refine wd_get (ci := 5) (v := .ref (h + 5)) (C := RX4) (T := TX4) (N := 21) hx hb hts iwX4 hown hK.1 hP (mW_0) rfl 6 (by decide) (hts _ (tg_tail _ tw_429)) (fun _ h9 => h9) rfl dX4_run_116 ?_
          refine lv_iload_n hx hb dX4_run_119 rfl (lv_at hl 2 rfl) ?_
          refine wd_ildN hx hb hK.1 hP 0 (k := u) (mW_5) rfl (by omega) (by decide) dX4_run_120 ?_
          refine wd_ti (x' := nI a) ((hfa (by omega) (by omega)).1) ?_
          refine lv_iload hx hb dX4_run_121 (lv_at hl 6 rfl) ?_
          refine cr_Vv (As := [.int (nI a), .int (nI x)]) (rest := []) ⟨hx, hb, hml, hown, hts⟩ (c_X4_walk l g s0  w h hs0 rf nt np mo gb wr (nI ((rx ki ii M u a sv ov wf (((rF, rT, rD, 0), sp, qu) : xT) x).1.2.2.2)) su pr ob ki fi se nd ii ((rx ki ii M u a sv ov wf (((rF, rT, rD, 0), sp, qu) : xT) x).2.1) ((rx ki ii M u a sv ov wf (((rF, rT, rD, 0), sp, qu) : xT) x).2.2) ((rx ki ii M u a sv ov wf (((rF, rT, rD, 0), sp, qu) : xT) x).1.1) ((rx ki ii M u a sv ov wf (((rF, rT, rD, 0), sp, qu) : xT) x).1.2.1) ((rx ki ii M u a sv ov wf (((rF, rT, rD, 0), sp, qu) : xT) x).1.2.2.1) (M) (hM9) a x (hfa (by omega) (by omega)).2 (by omega)) (cw_V 2 hts tg_tail tw_570 tw_572 tp_31 tw_4 tw_573 rfl rfl (by decide +kernel) ⟨Nat.le_trans (by decide) hRm.1, Nat.le_trans (by decide) hRm.2⟩) hK hP h0s hS (mW_0) rfl rfl rfl hl.1 rfl (Nat.le_of_ble_eq_true rfl) dX4_run_123 hcs (fun w9 H locs hw hP hS => ?_)
          rw [hw] at hP
          refine lv_iconst (v := nI 0) hx hb dX4_run_126 (by decide) ?_
          refine lv_istore (lv' := [(7, .int (nI 0)), (6, .int (nI 1)), (0, .ref h), (1, .int (nI u)), (2, .int (sv)), (3, .int (ov)), (4, .int (nI n9)), (5, .int (nI x))]) hx hb dX4_run_127 hl (by decide) rfl (fun ls hl => ?_)
          have w9 : wf = 1 := by rw [hwf]; first | exact if_pos (by omega) | exact if_neg (by omega)
          have e8 : (mW g w h rf nt np mo gb wr (nI ((rx ki ii M u a sv ov wf (((rF, rT, rD, 0), sp, qu) : xT) x).1.2.2.2)) su pr ob ki fi se (tN M) nd ii ((wkF M a x ((rx ki ii M u a sv ov wf (((rF, rT, rD, 0), sp, qu) : xT) x).2.1) ((rx ki ii M u a sv ov wf (((rF, rT, rD, 0), sp, qu) : xT) x).2.2)).1) ((wkF M a x ((rx ki ii M u a sv ov wf (((rF, rT, rD, 0), sp, qu) : xT) x).2.1) ((rx ki ii M u a sv ov wf (((rF, rT, rD, 0), sp, qu) : xT) x).2.2)).2.1) ((rx ki ii M u a sv ov wf (((rF, rT, rD, 0), sp, qu) : xT) x).1.1) ((rx ki ii M u a sv ov wf (((rF, rT, rD, 0), sp, qu) : xT) x).1.2.1) ((rx ki ii M u a sv ov wf (((rF, rT, rD, 0), sp, qu) : xT) x).1.2.2.1)) = (mW g w h rf nt np mo gb wr (nI ((ry ki ii ((wkF M a x ((rx ki ii M u a sv ov wf (((rF, rT, rD, 0), sp, qu) : xT) x).2.1) ((rx ki ii M u a sv ov wf (((rF, rT, rD, 0), sp, qu) : xT) x).2.2)).1) M u sv ov 1 x ((rx ki ii M u a sv ov wf (((rF, rT, rD, 0), sp, qu) : xT) x).1) 0).2.2.2)) su pr ob ki fi se (tN M) nd ii ((wkF M a x ((rx ki ii M u a sv ov wf (((rF, rT, rD, 0), sp, qu) : xT) x).2.1) ((rx ki ii M u a sv ov wf (((rF, rT, rD, 0), sp, qu) : xT) x).2.2)).1) ((wkF M a x ((rx ki ii M u a sv ov wf (((rF, rT, rD, 0), sp, qu) : xT) x).2.1) ((rx ki ii M u a sv ov wf (((rF, rT, rD, 0), sp, qu) : xT) x).2.2)).2.1) ((ry ki ii ((wkF M a x ((rx ki ii M u a sv ov wf (((rF, rT, rD, 0), sp, qu) : xT) x).2.1) ((rx ki ii M u a sv ov wf (((rF, rT, rD, 0), sp, qu) : xT) x).2.2)).1) M u sv ov 1 x ((rx ki ii M u a sv ov wf (((rF, rT, rD, 0), sp, qu) : xT) x).1) 0).1) ((ry ki ii ((wkF M a x ((rx ki ii M u a sv ov wf (((rF, rT, rD, 0), sp, qu) : xT) x).2.1) ((rx ki ii M u a sv ov wf (((rF, rT, rD, 0), sp, qu) : xT) x).2.2)).1) M u sv ov 1 x ((rx ki ii M u a sv ov wf (((rF, rT, rD, 0), sp, qu) : xT) x).1) 0).2.1) ((ry ki ii ((wkF M a x ((rx ki ii M u a sv ov wf (((rF, rT, rD, 0), sp, qu) : xT) x).2.1) ((rx ki ii M u a sv ov wf (((rF, rT, rD, 0), sp, qu) : xT) x).2.2)).1) M u sv ov 1 x ((rx ki ii M u a sv ov wf (((rF, rT, rD, 0), sp, qu) : xT) x).1) 0).2.2.1)) := by rw [ry]
          rw [e8] at hP
          have hl : lv_has ls 11 [(0, .ref h), (1, .int (nI u)), (2, .int (sv)), (3, .int (ov)), (4, .int (nI n9)), (5, .int (nI x)), (6, .int (nI 1)), (7, .int (nI 0))] := lv_sub hl [2, 3, 4, 5, 6, 7, 1, 0] rfl
          refine lp_ry g s0 w h hs0 rf nt np mo gb wr su pr ob ki fi se nd ii ((wkF M a x ((rx ki ii M u a sv ov wf (((rF, rT, rD, 0), sp, qu) : xT) x).2.1) ((rx ki ii M u a sv ov wf (((rF, rT, rD, 0), sp, qu) : xT) x).2.2)).1) ((wkF M a x ((rx ki ii M u a sv ov wf (((rF, rT, rD, 0), sp, qu) : xT) x).2.1) ((rx ki ii M u a sv ov wf (((rF, rT, rD, 0), sp, qu) : xT) x).2.2)).2.1) M hM9 u x n9 1 hu (by omega) sv ov (rx ki ii M u a sv ov wf (((rF, rT, rD, 0), sp, qu) : xT) x).1 (by omega) (b9.resolve_right (by omega)) hx hb hml hown hts hK h0s hRm hcs  ?_ (32 + 1) 0 (by omega) (by omega) _ _ ls hP hS hl
          intro H locs ls hP hS hl
          refine lv_iinc (v := nI (x + 1)) (lv' := [(5, .int (nI (x + 1))), (0, .ref h), (1, .int (nI u)), (2, .int (sv)), (3, .int (ov)), (4, .int (nI n9))]) hx hb dX4_run_288 hl (k := 5) rfl (nI_1 _) (by decide) rfl (fun ls hl => ?_)
          refine lv_goto (tgt := 75) hx hb dX4_run_291 (by decide) ?_
          have f9 : (rx ki ii M u a sv ov wf (((rF, rT, rD, 0), sp, qu) : xT) (x + 1)) = (ry ki ii (wkF M a x (rx ki ii M u a sv ov wf (((rF, rT, rD, 0), sp, qu) : xT) x).2.1 (rx ki ii M u a sv ov wf (((rF, rT, rD, 0), sp, qu) : xT) x).2.2).1 M u sv ov 1 x (rx ki ii M u a sv ov wf (((rF, rT, rD, 0), sp, qu) : xT) x).1 32, (wkF M a x (rx ki ii M u a sv ov wf (((rF, rT, rD, 0), sp, qu) : xT) x).2.1 (rx ki ii M u a sv ov wf (((rF, rT, rD, 0), sp, qu) : xT) x).2.2).1, (wkF M a x (rx ki ii M u a sv ov wf (((rF, rT, rD, 0), sp, qu) : xT) x).2.1 (rx ki ii M u a sv ov wf (((rF, rT, rD, 0), sp, qu) : xT) x).2.2).2.1) := by subst w9; rw [rx, rxS]; exact if_neg (by decide)
          have e8 : (mW g w h rf nt np mo gb wr (nI ((ry ki ii ((wkF M a x ((rx ki ii M u a sv ov wf (((rF, rT, rD, 0), sp, qu) : xT) x).2.1) ((rx ki ii M u a sv ov wf (((rF, rT, rD, 0), sp, qu) : xT) x).2.2)).1) M u sv ov 1 x ((rx ki ii M u a sv ov wf (((rF, rT, rD, 0), sp, qu) : xT) x).1) 32).2.2.2)) su pr ob ki fi se (tN M) nd ii ((wkF M a x ((rx ki ii M u a sv ov wf (((rF, rT, rD, 0), sp, qu) : xT) x).2.1) ((rx ki ii M u a sv ov wf (((rF, rT, rD, 0), sp, qu) : xT) x).2.2)).1) ((wkF M a x ((rx ki ii M u a sv ov wf (((rF, rT, rD, 0), sp, qu) : xT) x).2.1) ((rx ki ii M u a sv ov wf (((rF, rT, rD, 0), sp, qu) : xT) x).2.2)).2.1) ((ry ki ii ((wkF M a x ((rx ki ii M u a sv ov wf (((rF, rT, rD, 0), sp, qu) : xT) x).2.1) ((rx ki ii M u a sv ov wf (((rF, rT, rD, 0), sp, qu) : xT) x).2.2)).1) M u sv ov 1 x ((rx ki ii M u a sv ov wf (((rF, rT, rD, 0), sp, qu) : xT) x).1) 32).1) ((ry ki ii ((wkF M a x ((rx ki ii M u a sv ov wf (((rF, rT, rD, 0), sp, qu) : xT) x).2.1) ((rx ki ii M u a sv ov wf (((rF, rT, rD, 0), sp, qu) : xT) x).2.2)).1) M u sv ov 1 x ((rx ki ii M u a sv ov wf (((rF, rT, rD, 0), sp, qu) : xT) x).1) 32).2.1) ((ry ki ii ((wkF M a x ((rx ki ii M u a sv ov wf (((rF, rT, rD, 0), sp, qu) : xT) x).2.1) ((rx ki ii M u a sv ov wf (((rF, rT, rD, 0), sp, qu) : xT) x).2.2)).1) M u sv ov 1 x ((rx ki ii M u a sv ov wf (((rF, rT, rD, 0), sp, qu) : xT) x).1) 32).2.2.1)) = (mW g w h rf nt np mo gb wr (nI ((rx ki ii M u a sv ov wf (((rF, rT, rD, 0), sp, qu) : xT) (x + 1)).1.2.2.2)) su pr ob ki fi se (tN M) nd ii ((rx ki ii M u a sv ov wf (((rF, rT, rD, 0), sp, qu) : xT) (x + 1)).2.1) ((rx ki ii M u a sv ov wf (((rF, rT, rD, 0), sp, qu) : xT) (x + 1)).2.2) ((rx ki ii M u a sv ov wf (((rF, rT, rD, 0), sp, qu) : xT) (x + 1)).1.1) ((rx ki ii M u a sv ov wf (((rF, rT, rD, 0), sp, qu) : xT) (x + 1)).1.2.1) ((rx ki ii M u a sv ov wf (((rF, rT, rD, 0), sp, qu) : xT) (x + 1)).1.2.2.1)) := by rw [f9]
          rw [e8] at hP
          have hl : lv_has ls 11 [(0, .ref h), (1, .int (nI u)), (2, .int (sv)), (3, .int (ov)), (4, .int (nI n9)), (5, .int (nI (x + 1)))] := lv_sub hl [1, 2, 3, 4, 5, 0] rfl
          exact ih (x + 1) (by omega) (by omega) _ _ ls hP hS hl
      · have c_89 := mt (nI_eq (a := kd) (b := 4) (by omega) (by omega)).mpr c_89
        refine lv_aload_n hx hb dX4_run_92 rfl (lv_at hl 0 rfl) ?_
        refine wd_get (ci := 5) (v := .ref (h + 4)) (C := RX4) (T := TX4) (N := 21) hx hb hts iwX4 hown hK.1 hP (mW_0) rfl 5 (by decide) (hts _ (tg_tail _ tw_428)) (fun _ h9 => h9) rfl dX4_run_93 ?_
        refine lv_iload_n hx hb dX4_run_96 rfl (lv_at hl 1 rfl) ?_
        refine wd_ildN hx hb hK.1 hP 0 (k := u) (mW_4) rfl (by omega) (by decide) dX4_run_97 ?_
        refine wd_ti (x' := nI kd) (hkd) ?_
        refine lv_iconst (v := nI 5) hx hb dX4_run_98 (by decide) ?_
        refine lv_icmp_ne (tgt := 106) hx hb dX4_run_99 (by decide) (fun c_99 => ?_) (fun c_99 => ?_)
        · have c_99 := mt (nI_eq (a := kd) (b := 5) (by omega) (by omega)).mpr c_99
          refine lv_iconst (v := nI 0) hx hb dX4_run_106 (by decide) ?_
          refine lv_istore (lv' := [(6, .int (nI 0)), (0, .ref h), (1, .int (nI u)), (2, .int (sv)), (3, .int (ov)), (4, .int (nI n9)), (5, .int (nI x))]) hx hb dX4_run_107 hl (by decide) rfl (fun ls hl => ?_)
          refine lv_iload hx hb dX4_run_109 (lv_at hl 0 rfl) ?_
          refine lv_if_eq (tgt := 126) hx hb dX4_run_111 (by decide) (fun c_111 => ?_) (fun c_111 => ?_)
          · have c_111 := (nI_eq (a := 0) (b := 0) (by omega) (by omega)).mp (show nI 0 = nI 0 from c_111)
            refine lv_iconst (v := nI 0) hx hb dX4_run_126 (by decide) ?_
            refine lv_istore (lv' := [(7, .int (nI 0)), (6, .int (nI 0)), (0, .ref h), (1, .int (nI u)), (2, .int (sv)), (3, .int (ov)), (4, .int (nI n9)), (5, .int (nI x))]) hx hb dX4_run_127 hl (by decide) rfl (fun ls hl => ?_)
            have w9 : wf = 0 := by rw [hwf]; first | exact if_pos (by omega) | exact if_neg (by omega)
            have e8 : (mW g w h rf nt np mo gb wr (nI ((rx ki ii M u a sv ov wf (((rF, rT, rD, 0), sp, qu) : xT) x).1.2.2.2)) su pr ob ki fi se (tN M) nd ii ((rx ki ii M u a sv ov wf (((rF, rT, rD, 0), sp, qu) : xT) x).2.1) ((rx ki ii M u a sv ov wf (((rF, rT, rD, 0), sp, qu) : xT) x).2.2) ((rx ki ii M u a sv ov wf (((rF, rT, rD, 0), sp, qu) : xT) x).1.1) ((rx ki ii M u a sv ov wf (((rF, rT, rD, 0), sp, qu) : xT) x).1.2.1) ((rx ki ii M u a sv ov wf (((rF, rT, rD, 0), sp, qu) : xT) x).1.2.2.1)) = (mW g w h rf nt np mo gb wr (nI ((ry ki ii ((rx ki ii M u a sv ov wf (((rF, rT, rD, 0), sp, qu) : xT) x).2.1) M u sv ov 0 x ((rx ki ii M u a sv ov wf (((rF, rT, rD, 0), sp, qu) : xT) x).1) 0).2.2.2)) su pr ob ki fi se (tN M) nd ii ((rx ki ii M u a sv ov wf (((rF, rT, rD, 0), sp, qu) : xT) x).2.1) ((rx ki ii M u a sv ov wf (((rF, rT, rD, 0), sp, qu) : xT) x).2.2) ((ry ki ii ((rx ki ii M u a sv ov wf (((rF, rT, rD, 0), sp, qu) : xT) x).2.1) M u sv ov 0 x ((rx ki ii M u a sv ov wf (((rF, rT, rD, 0), sp, qu) : xT) x).1) 0).1) ((ry ki ii ((rx ki ii M u a sv ov wf (((rF, rT, rD, 0), sp, qu) : xT) x).2.1) M u sv ov 0 x ((rx ki ii M u a sv ov wf (((rF, rT, rD, 0), sp, qu) : xT) x).1) 0).2.1) ((ry ki ii ((rx ki ii M u a sv ov wf (((rF, rT, rD, 0), sp, qu) : xT) x).2.1) M u sv ov 0 x ((rx ki ii M u a sv ov wf (((rF, rT, rD, 0), sp, qu) : xT) x).1) 0).2.2.1)) := by rw [ry]
            rw [e8] at hP
            have hl : lv_has ls 11 [(0, .ref h), (1, .int (nI u)), (2, .int (sv)), (3, .int (ov)), (4, .int (nI n9)), (5, .int (nI x)), (6, .int (nI 0)), (7, .int (nI 0))] := lv_sub hl [2, 3, 4, 5, 6, 7, 1, 0] rfl
            refine lp_ry g s0 w h hs0 rf nt np mo gb wr su pr ob ki fi se nd ii ((rx ki ii M u a sv ov wf (((rF, rT, rD, 0), sp, qu) : xT) x).2.1) ((rx ki ii M u a sv ov wf (((rF, rT, rD, 0), sp, qu) : xT) x).2.2) M hM9 u x n9 0 hu (by omega) sv ov (rx ki ii M u a sv ov wf (((rF, rT, rD, 0), sp, qu) : xT) x).1 (by omega) (b9.resolve_right (by omega)) hx hb hml hown hts hK h0s hRm hcs  ?_ (32 + 1) 0 (by omega) (by omega) _ _ ls hP hS hl
            intro H locs ls hP hS hl
            refine lv_iinc (v := nI (x + 1)) (lv' := [(5, .int (nI (x + 1))), (0, .ref h), (1, .int (nI u)), (2, .int (sv)), (3, .int (ov)), (4, .int (nI n9))]) hx hb dX4_run_288 hl (k := 5) rfl (nI_1 _) (by decide) rfl (fun ls hl => ?_)
            refine lv_goto (tgt := 75) hx hb dX4_run_291 (by decide) ?_
            have f9 : (rx ki ii M u a sv ov wf (((rF, rT, rD, 0), sp, qu) : xT) (x + 1)) = (ry ki ii (rx ki ii M u a sv ov wf (((rF, rT, rD, 0), sp, qu) : xT) x).2.1 M u sv ov 0 x (rx ki ii M u a sv ov wf (((rF, rT, rD, 0), sp, qu) : xT) x).1 32, (rx ki ii M u a sv ov wf (((rF, rT, rD, 0), sp, qu) : xT) x).2.1, (rx ki ii M u a sv ov wf (((rF, rT, rD, 0), sp, qu) : xT) x).2.2) := by subst w9; rw [rx, rxS]; exact if_pos rfl
            have e8 : (mW g w h rf nt np mo gb wr (nI ((ry ki ii ((rx ki ii M u a sv ov wf (((rF, rT, rD, 0), sp, qu) : xT) x).2.1) M u sv ov 0 x ((rx ki ii M u a sv ov wf (((rF, rT, rD, 0), sp, qu) : xT) x).1) 32).2.2.2)) su pr ob ki fi se (tN M) nd ii ((rx ki ii M u a sv ov wf (((rF, rT, rD, 0), sp, qu) : xT) x).2.1) ((rx ki ii M u a sv ov wf (((rF, rT, rD, 0), sp, qu) : xT) x).2.2) ((ry ki ii ((rx ki ii M u a sv ov wf (((rF, rT, rD, 0), sp, qu) : xT) x).2.1) M u sv ov 0 x ((rx ki ii M u a sv ov wf (((rF, rT, rD, 0), sp, qu) : xT) x).1) 32).1) ((ry ki ii ((rx ki ii M u a sv ov wf (((rF, rT, rD, 0), sp, qu) : xT) x).2.1) M u sv ov 0 x ((rx ki ii M u a sv ov wf (((rF, rT, rD, 0), sp, qu) : xT) x).1) 32).2.1) ((ry ki ii ((rx ki ii M u a sv ov wf (((rF, rT, rD, 0), sp, qu) : xT) x).2.1) M u sv ov 0 x ((rx ki ii M u a sv ov wf (((rF, rT, rD, 0), sp, qu) : xT) x).1) 32).2.2.1)) = (mW g w h rf nt np mo gb wr (nI ((rx ki ii M u a sv ov wf (((rF, rT, rD, 0), sp, qu) : xT) (x + 1)).1.2.2.2)) su pr ob ki fi se (tN M) nd ii ((rx ki ii M u a sv ov wf (((rF, rT, rD, 0), sp, qu) : xT) (x + 1)).2.1) ((rx ki ii M u a sv ov wf (((rF, rT, rD, 0), sp, qu) : xT) (x + 1)).2.2) ((rx ki ii M u a sv ov wf (((rF, rT, rD, 0), sp, qu) : xT) (x + 1)).1.1) ((rx ki ii M u a sv ov wf (((rF, rT, rD, 0), sp, qu) : xT) (x + 1)).1.2.1) ((rx ki ii M u a sv ov wf (((rF, rT, rD, 0), sp, qu) : xT) (x + 1)).1.2.2.1)) := by rw [f9]
            rw [e8] at hP
            have hl : lv_has ls 11 [(0, .ref h), (1, .int (nI u)), (2, .int (sv)), (3, .int (ov)), (4, .int (nI n9)), (5, .int (nI (x + 1)))] := lv_sub hl [1, 2, 3, 4, 5, 0] rfl
            exact ih (x + 1) (by omega) (by omega) _ _ ls hP hS hl
          · have c_111 := mt (nI_eq (a := 0) (b := 0) (by omega) (by omega)).mpr (show ¬ (nI 0 = nI 0) from c_111)
            exact absurd c_111 (by decide)
        · have c_99 := (nI_eq (a := kd) (b := 5) (by omega) (by omega)).mp c_99
          refine lv_iconst (v := nI 1) hx hb dX4_run_102 (by decide) ?_
          refine lv_goto (tgt := 107) hx hb dX4_run_103 (by decide) ?_
          refine lv_istore (lv' := [(6, .int (nI 1)), (0, .ref h), (1, .int (nI u)), (2, .int (sv)), (3, .int (ov)), (4, .int (nI n9)), (5, .int (nI x))]) hx hb dX4_run_107 hl (by decide) rfl (fun ls hl => ?_)
          refine lv_iload hx hb dX4_run_109 (lv_at hl 0 rfl) ?_
          refine lv_if_eq (tgt := 126) hx hb dX4_run_111 (by decide) (fun c_111 => ?_) (fun c_111 => ?_)
          · have c_111 := (nI_eq (a := 1) (b := 0) (by omega) (by omega)).mp (show nI 1 = nI 0 from c_111)
            exact absurd c_111 (by decide)
          · have c_111 := mt (nI_eq (a := 1) (b := 0) (by omega) (by omega)).mpr (show ¬ (nI 1 = nI 0) from c_111)
            refine lv_aload_n hx hb dX4_run_114 rfl (lv_at hl 1 rfl) ?_
            refine lv_aload_n hx hb dX4_run_115 rfl (lv_at hl 1 rfl) ?_
            refine wd_get (ci := 5) (v := .ref (h + 5)) (C := RX4) (T := TX4) (N := 21) hx hb hts iwX4 hown hK.1 hP (mW_0) rfl 6 (by decide) (hts _ (tg_tail _ tw_429)) (fun _ h9 => h9) rfl dX4_run_116 ?_
            refine lv_iload_n hx hb dX4_run_119 rfl (lv_at hl 2 rfl) ?_
            refine wd_ildN hx hb hK.1 hP 0 (k := u) (mW_5) rfl (by omega) (by decide) dX4_run_120 ?_
            refine wd_ti (x' := nI a) ((hfa (by omega) (by omega)).1) ?_
            refine lv_iload hx hb dX4_run_121 (lv_at hl 6 rfl) ?_
            refine cr_Vv (As := [.int (nI a), .int (nI x)]) (rest := []) ⟨hx, hb, hml, hown, hts⟩ (c_X4_walk l g s0  w h hs0 rf nt np mo gb wr (nI ((rx ki ii M u a sv ov wf (((rF, rT, rD, 0), sp, qu) : xT) x).1.2.2.2)) su pr ob ki fi se nd ii ((rx ki ii M u a sv ov wf (((rF, rT, rD, 0), sp, qu) : xT) x).2.1) ((rx ki ii M u a sv ov wf (((rF, rT, rD, 0), sp, qu) : xT) x).2.2) ((rx ki ii M u a sv ov wf (((rF, rT, rD, 0), sp, qu) : xT) x).1.1) ((rx ki ii M u a sv ov wf (((rF, rT, rD, 0), sp, qu) : xT) x).1.2.1) ((rx ki ii M u a sv ov wf (((rF, rT, rD, 0), sp, qu) : xT) x).1.2.2.1) (M) (hM9) a x (hfa (by omega) (by omega)).2 (by omega)) (cw_V 2 hts tg_tail tw_570 tw_572 tp_31 tw_4 tw_573 rfl rfl (by decide +kernel) ⟨Nat.le_trans (by decide) hRm.1, Nat.le_trans (by decide) hRm.2⟩) hK hP h0s hS (mW_0) rfl rfl rfl hl.1 rfl (Nat.le_of_ble_eq_true rfl) dX4_run_123 hcs (fun w9 H locs hw hP hS => ?_)
            rw [hw] at hP
            refine lv_iconst (v := nI 0) hx hb dX4_run_126 (by decide) ?_
            refine lv_istore (lv' := [(7, .int (nI 0)), (6, .int (nI 1)), (0, .ref h), (1, .int (nI u)), (2, .int (sv)), (3, .int (ov)), (4, .int (nI n9)), (5, .int (nI x))]) hx hb dX4_run_127 hl (by decide) rfl (fun ls hl => ?_)
            have w9 : wf = 1 := by rw [hwf]; first | exact if_pos (by omega) | exact if_neg (by omega)
            have e8 : (mW g w h rf nt np mo gb wr (nI ((rx ki ii M u a sv ov wf (((rF, rT, rD, 0), sp, qu) : xT) x).1.2.2.2)) su pr ob ki fi se (tN M) nd ii ((wkF M a x ((rx ki ii M u a sv ov wf (((rF, rT, rD, 0), sp, qu) : xT) x).2.1) ((rx ki ii M u a sv ov wf (((rF, rT, rD, 0), sp, qu) : xT) x).2.2)).1) ((wkF M a x ((rx ki ii M u a sv ov wf (((rF, rT, rD, 0), sp, qu) : xT) x).2.1) ((rx ki ii M u a sv ov wf (((rF, rT, rD, 0), sp, qu) : xT) x).2.2)).2.1) ((rx ki ii M u a sv ov wf (((rF, rT, rD, 0), sp, qu) : xT) x).1.1) ((rx ki ii M u a sv ov wf (((rF, rT, rD, 0), sp, qu) : xT) x).1.2.1) ((rx ki ii M u a sv ov wf (((rF, rT, rD, 0), sp, qu) : xT) x).1.2.2.1)) = (mW g w h rf nt np mo gb wr (nI ((ry ki ii ((wkF M a x ((rx ki ii M u a sv ov wf (((rF, rT, rD, 0), sp, qu) : xT) x).2.1) ((rx ki ii M u a sv ov wf (((rF, rT, rD, 0), sp, qu) : xT) x).2.2)).1) M u sv ov 1 x ((rx ki ii M u a sv ov wf (((rF, rT, rD, 0), sp, qu) : xT) x).1) 0).2.2.2)) su pr ob ki fi se (tN M) nd ii ((wkF M a x ((rx ki ii M u a sv ov wf (((rF, rT, rD, 0), sp, qu) : xT) x).2.1) ((rx ki ii M u a sv ov wf (((rF, rT, rD, 0), sp, qu) : xT) x).2.2)).1) ((wkF M a x ((rx ki ii M u a sv ov wf (((rF, rT, rD, 0), sp, qu) : xT) x).2.1) ((rx ki ii M u a sv ov wf (((rF, rT, rD, 0), sp, qu) : xT) x).2.2)).2.1) ((ry ki ii ((wkF M a x ((rx ki ii M u a sv ov wf (((rF, rT, rD, 0), sp, qu) : xT) x).2.1) ((rx ki ii M u a sv ov wf (((rF, rT, rD, 0), sp, qu) : xT) x).2.2)).1) M u sv ov 1 x ((rx ki ii M u a sv ov wf (((rF, rT, rD, 0), sp, qu) : xT) x).1) 0).1) ((ry ki ii ((wkF M a x ((rx ki ii M u a sv ov wf (((rF, rT, rD, 0), sp, qu) : xT) x).2.1) ((rx ki ii M u a sv ov wf (((rF, rT, rD, 0), sp, qu) : xT) x).2.2)).1) M u sv ov 1 x ((rx ki ii M u a sv ov wf (((rF, rT, rD, 0), sp, qu) : xT) x).1) 0).2.1) ((ry ki ii ((wkF M a x ((rx ki ii M u a sv ov wf (((rF, rT, rD, 0), sp, qu) : xT) x).2.1) ((rx ki ii M u a sv ov wf (((rF, rT, rD, 0), sp, qu) : xT) x).2.2)).1) M u sv ov 1 x ((rx ki ii M u a sv ov wf (((rF, rT, rD, 0), sp, qu) : xT) x).1) 0).2.2.1)) := by rw [ry]
            rw [e8] at hP
            have hl : lv_has ls 11 [(0, .ref h), (1, .int (nI u)), (2, .int (sv)), (3, .int (ov)), (4, .int (nI n9)), (5, .int (nI x)), (6, .int (nI 1)), (7, .int (nI 0))] := lv_sub hl [2, 3, 4, 5, 6, 7, 1, 0] rfl
            refine lp_ry g s0 w h hs0 rf nt np mo gb wr su pr ob ki fi se nd ii ((wkF M a x ((rx ki ii M u a sv ov wf (((rF, rT, rD, 0), sp, qu) : xT) x).2.1) ((rx ki ii M u a sv ov wf (((rF, rT, rD, 0), sp, qu) : xT) x).2.2)).1) ((wkF M a x ((rx ki ii M u a sv ov wf (((rF, rT, rD, 0), sp, qu) : xT) x).2.1) ((rx ki ii M u a sv ov wf (((rF, rT, rD, 0), sp, qu) : xT) x).2.2)).2.1) M hM9 u x n9 1 hu (by omega) sv ov (rx ki ii M u a sv ov wf (((rF, rT, rD, 0), sp, qu) : xT) x).1 (by omega) (b9.resolve_right (by omega)) hx hb hml hown hts hK h0s hRm hcs  ?_ (32 + 1) 0 (by omega) (by omega) _ _ ls hP hS hl
            intro H locs ls hP hS hl
            refine lv_iinc (v := nI (x + 1)) (lv' := [(5, .int (nI (x + 1))), (0, .ref h), (1, .int (nI u)), (2, .int (sv)), (3, .int (ov)), (4, .int (nI n9))]) hx hb dX4_run_288 hl (k := 5) rfl (nI_1 _) (by decide) rfl (fun ls hl => ?_)
            refine lv_goto (tgt := 75) hx hb dX4_run_291 (by decide) ?_
            have f9 : (rx ki ii M u a sv ov wf (((rF, rT, rD, 0), sp, qu) : xT) (x + 1)) = (ry ki ii (wkF M a x (rx ki ii M u a sv ov wf (((rF, rT, rD, 0), sp, qu) : xT) x).2.1 (rx ki ii M u a sv ov wf (((rF, rT, rD, 0), sp, qu) : xT) x).2.2).1 M u sv ov 1 x (rx ki ii M u a sv ov wf (((rF, rT, rD, 0), sp, qu) : xT) x).1 32, (wkF M a x (rx ki ii M u a sv ov wf (((rF, rT, rD, 0), sp, qu) : xT) x).2.1 (rx ki ii M u a sv ov wf (((rF, rT, rD, 0), sp, qu) : xT) x).2.2).1, (wkF M a x (rx ki ii M u a sv ov wf (((rF, rT, rD, 0), sp, qu) : xT) x).2.1 (rx ki ii M u a sv ov wf (((rF, rT, rD, 0), sp, qu) : xT) x).2.2).2.1) := by subst w9; rw [rx, rxS]; exact if_neg (by decide)
            have e8 : (mW g w h rf nt np mo gb wr (nI ((ry ki ii ((wkF M a x ((rx ki ii M u a sv ov wf (((rF, rT, rD, 0), sp, qu) : xT) x).2.1) ((rx ki ii M u a sv ov wf (((rF, rT, rD, 0), sp, qu) : xT) x).2.2)).1) M u sv ov 1 x ((rx ki ii M u a sv ov wf (((rF, rT, rD, 0), sp, qu) : xT) x).1) 32).2.2.2)) su pr ob ki fi se (tN M) nd ii ((wkF M a x ((rx ki ii M u a sv ov wf (((rF, rT, rD, 0), sp, qu) : xT) x).2.1) ((rx ki ii M u a sv ov wf (((rF, rT, rD, 0), sp, qu) : xT) x).2.2)).1) ((wkF M a x ((rx ki ii M u a sv ov wf (((rF, rT, rD, 0), sp, qu) : xT) x).2.1) ((rx ki ii M u a sv ov wf (((rF, rT, rD, 0), sp, qu) : xT) x).2.2)).2.1) ((ry ki ii ((wkF M a x ((rx ki ii M u a sv ov wf (((rF, rT, rD, 0), sp, qu) : xT) x).2.1) ((rx ki ii M u a sv ov wf (((rF, rT, rD, 0), sp, qu) : xT) x).2.2)).1) M u sv ov 1 x ((rx ki ii M u a sv ov wf (((rF, rT, rD, 0), sp, qu) : xT) x).1) 32).1) ((ry ki ii ((wkF M a x ((rx ki ii M u a sv ov wf (((rF, rT, rD, 0), sp, qu) : xT) x).2.1) ((rx ki ii M u a sv ov wf (((rF, rT, rD, 0), sp, qu) : xT) x).2.2)).1) M u sv ov 1 x ((rx ki ii M u a sv ov wf (((rF, rT, rD, 0), sp, qu) : xT) x).1) 32).2.1) ((ry ki ii ((wkF M a x ((rx ki ii M u a sv ov wf (((rF, rT, rD, 0), sp, qu) : xT) x).2.1) ((rx ki ii M u a sv ov wf (((rF, rT, rD, 0), sp, qu) : xT) x).2.2)).1) M u sv ov 1 x ((rx ki ii M u a sv ov wf (((rF, rT, rD, 0), sp, qu) : xT) x).1) 32).2.2.1)) = (mW g w h rf nt np mo gb wr (nI ((rx ki ii M u a sv ov wf (((rF, rT, rD, 0), sp, qu) : xT) (x + 1)).1.2.2.2)) su pr ob ki fi se (tN M) nd ii ((rx ki ii M u a sv ov wf (((rF, rT, rD, 0), sp, qu) : xT) (x + 1)).2.1) ((rx ki ii M u a sv ov wf (((rF, rT, rD, 0), sp, qu) : xT) (x + 1)).2.2) ((rx ki ii M u a sv ov wf (((rF, rT, rD, 0), sp, qu) : xT) (x + 1)).1.1) ((rx ki ii M u a sv ov wf (((rF, rT, rD, 0), sp, qu) : xT) (x + 1)).1.2.1) ((rx ki ii M u a sv ov wf (((rF, rT, rD, 0), sp, qu) : xT) (x + 1)).1.2.2.1)) := by rw [f9]
            rw [e8] at hP
            have hl : lv_has ls 11 [(0, .ref h), (1, .int (nI u)), (2, .int (sv)), (3, .int (ov)), (4, .int (nI n9)), (5, .int (nI (x + 1)))] := lv_sub hl [1, 2, 3, 4, 5, 0] rfl
            exact ih (x + 1) (by omega) (by omega) _ _ ls hP hS hl

