/-! THE REFERENCE: makeWalks, makeTable -/
def mw2 (ki ii sp : Nat → Int32) (u x : Nat) (t : (Nat → Nat) × Nat) : Nat → (Nat → Nat) × Nat
  | 0 => t
  | y + 1 => if 0 < sp y ∨ (ki u = nI 4 ∧ x = y ∧ ¬ ii x = 0) then (va_up (mw2 ki ii sp u x t y).1 (1024 * u + 32 * x + y) (min 1 1000000), (mw2 ki ii sp u x t y).2 + 1) else (va_up (mw2 ki ii sp u x t y).1 (1024 * u + 32 * x + y) (min 0 1000000), (mw2 ki ii sp u x t y).2)
termination_by y => y
theorem mw2_B {ki ii sp : Nat → Int32} {u x : Nat} {t : (Nat → Nat) × Nat} (h : mB t.1) : ∀ y, mB (mw2 ki ii sp u x t y).1 := by
  intro y
  induction y with
  | zero => rw [mw2]; exact h
  | succ y ih => rw [mw2]; split <;> exact mB_up ih
abbrev mT : Type := (Nat → Nat) × (Nat → Int32) × (Nat → Int32) × Nat
def mwS (ki ii : Nat → Int32) (u a : Nat) (t : mT) (x : Nat) : mT := ((mw2 ki ii (wkF t.1 a x t.2.1 t.2.2.1).1 u x (t.1, t.2.2.2) 32).1, (wkF t.1 a x t.2.1 t.2.2.1).1, (wkF t.1 a x t.2.1 t.2.2.1).2.1, (mw2 ki ii (wkF t.1 a x t.2.1 t.2.2.1).1 u x (t.1, t.2.2.2) 32).2)
def mw1 (ki ii : Nat → Int32) (u a : Nat) (M : Nat → Nat) (sp qu : Nat → Int32) : Nat → mT
  | 0 => (M, sp, qu, 0)
  | x + 1 => mwS ki ii u a (mw1 ki ii u a M sp qu x) x
termination_by x => x
theorem mw1_B {ki ii sp qu : Nat → Int32} {u a : Nat} {M : Nat → Nat} (h : mB M) : ∀ x, mB (mw1 ki ii u a M sp qu x).1 := by
  intro x
  induction x with
  | zero => rw [mw1]; exact h
  | succ x ih => rw [mw1, mwS]; exact mw2_B ih 32
def mt0 (M : Nat → Nat) (u : Nat) : Nat → Nat → Nat
  | 0 => M
  | k + 1 => va_up (mt0 M u k) (1024 * u + k) 0
termination_by k => k
theorem mt0_B {M : Nat → Nat} {u : Nat} (h : mB M) : ∀ k, mB (mt0 M u k) := by
  intro k
  induction k with
  | zero => rw [mt0]; exact h
  | succ k ih => rw [mt0]; exact mB_up (v := 0) ih
def jf2 (kd : Nat) (ii : Nat → Int32) (a b u x : Nat) (M : Nat → Nat) : Nat → Nat → Nat
  | 0 => M
  | y + 1 => va_up (jf2 kd ii a b u x M y) (1024 * u + 32 * x + y) (min (jn kd (jf2 kd ii a b u x M y) ii a b x y) 1000000)
termination_by y => y
theorem jf2_B {kd : Nat} {ii : Nat → Int32} {a b u x : Nat} {M : Nat → Nat} (h : mB M) : ∀ y, mB (jf2 kd ii a b u x M y) := by
  intro y
  induction y with
  | zero => rw [jf2]; exact h
  | succ y ih => rw [jf2]; exact mB_up ih
def jf1 (kd : Nat) (ii : Nat → Int32) (a b u : Nat) (M : Nat → Nat) : Nat → Nat → Nat
  | 0 => M
  | x + 1 => jf2 kd ii a b u x (jf1 kd ii a b u M x) 32
termination_by x => x
theorem jf1_B {kd : Nat} {ii : Nat → Int32} {a b u : Nat} {M : Nat → Nat} (h : mB M) : ∀ x, mB (jf1 kd ii a b u M x) := by
  intro x
  induction x with
  | zero => rw [jf1]; exact h
  | succ x ih => rw [jf1]; exact jf2_B ih 32
abbrev mS : Type := (Nat → Nat) × (Nat → Int32) × (Nat → Int32) × Int32
/-- what makeTable leaves: table, steps, queue, goesBeyond -/
def mkT (ki fi se pr ii : Nat → Int32) (S O : Nat → Nat) (T : Nat) (mo : Int32) (kd u a b : Nat) (t : mS) : mS :=
  if kd = 0 ∨ kd = 7 then (ml ki fi se pr S O u (mt0 t.1 u 1024) T, t.2.1, t.2.2.1, t.2.2.2)
  else if kd = 4 ∨ kd = 5 then ((mw1 ki ii u a (mt0 t.1 u 1024) t.2.1 t.2.2.1 32).1, (mw1 ki ii u a (mt0 t.1 u 1024) t.2.1 t.2.2.1 32).2.1, (mw1 ki ii u a (mt0 t.1 u 1024) t.2.1 t.2.2.1 32).2.2.1, zB (¬ t.2.2.2 = 0 ∨ ¬ nI (mw1 ki ii u a (mt0 t.1 u 1024) t.2.1 t.2.2.1 32).2.2.2 ≤ mo))
  else (jf1 kd ii a b u (mt0 t.1 u 1024) 32, t.2.1, t.2.2.1, t.2.2.2)
theorem pj_1 {α β γ δ : Type} (a : α) (b : β) (c : γ) (d : δ) : ((a, b, c, d) : α × β × γ × δ).1 = a := rfl
theorem pj_2 {α β γ δ : Type} (a : α) (b : β) (c : γ) (d : δ) : ((a, b, c, d) : α × β × γ × δ).2.1 = b := rfl
theorem pj_3 {α β γ δ : Type} (a : α) (b : β) (c : γ) (d : δ) : ((a, b, c, d) : α × β × γ × δ).2.2.1 = c := rfl
theorem pj_4 {α β γ δ : Type} (a : α) (b : β) (c : γ) (d : δ) : ((a, b, c, d) : α × β × γ × δ).2.2.2 = d := rfl
theorem mB_of {X Y : Nat → Nat} (e : X = Y) (h : mB Y) : mB X := e ▸ h
theorem mkT_l {ki fi se pr ii : Nat → Int32} {S O : Nat → Nat} {T : Nat} {mo : Int32} {kd u a b : Nat} {t : mS} (c1 : kd = 0 ∨ kd = 7) : mkT ki fi se pr ii S O T mo kd u a b t = (ml ki fi se pr S O u (mt0 t.1 u 1024) T, t.2.1, t.2.2.1, t.2.2.2) := by
  unfold mkT
  exact if_pos c1
theorem mkT_w {ki fi se pr ii : Nat → Int32} {S O : Nat → Nat} {T : Nat} {mo : Int32} {kd u a b : Nat} {t : mS} (c1 : ¬ (kd = 0 ∨ kd = 7)) (c2 : kd = 4 ∨ kd = 5) : mkT ki fi se pr ii S O T mo kd u a b t = ((mw1 ki ii u a (mt0 t.1 u 1024) t.2.1 t.2.2.1 32).1, (mw1 ki ii u a (mt0 t.1 u 1024) t.2.1 t.2.2.1 32).2.1, (mw1 ki ii u a (mt0 t.1 u 1024) t.2.1 t.2.2.1 32).2.2.1, zB (¬ t.2.2.2 = 0 ∨ ¬ nI (mw1 ki ii u a (mt0 t.1 u 1024) t.2.1 t.2.2.1 32).2.2.2 ≤ mo)) := by
  unfold mkT
  exact (if_neg c1).trans (if_pos c2)
theorem mkT_j {ki fi se pr ii : Nat → Int32} {S O : Nat → Nat} {T : Nat} {mo : Int32} {kd u a b : Nat} {t : mS} (c1 : ¬ (kd = 0 ∨ kd = 7)) (c2 : ¬ (kd = 4 ∨ kd = 5)) : mkT ki fi se pr ii S O T mo kd u a b t = (jf1 kd ii a b u (mt0 t.1 u 1024) 32, t.2.1, t.2.2.1, t.2.2.2) := by
  unfold mkT
  exact (if_neg c1).trans (if_neg c2)
theorem mkT_B {ki fi se pr ii : Nat → Int32} {S O : Nat → Nat} {T : Nat} {mo : Int32} {kd u a b : Nat} {t : mS} (h : mB t.1) : mB (mkT ki fi se pr ii S O T mo kd u a b t).1 := by
  have h1 := mt0_B (u := u) h 1024
  by_cases c1 : kd = 0 ∨ kd = 7
  · exact mB_of ((congrArg Prod.fst (mkT_l c1)).trans (pj_1 _ _ _ _)) (ml_le h1 T)
  · by_cases c2 : kd = 4 ∨ kd = 5
    · exact mB_of ((congrArg Prod.fst (mkT_w c1 c2)).trans (pj_1 _ _ _ _)) (mw1_B h1 32)
    · exact mB_of ((congrArg Prod.fst (mkT_j c1 c2)).trans (pj_1 _ _ _ _)) (jf1_B h1 32)
set_option maxHeartbeats 4000000 in
set_option maxRecDepth 100000 in
theorem lp_mw2 {p : Program} {l : Launch} {e : Env} {R : Room} {s : State} {m : MethodId} {args : Array Value} {below : List Frame} {meth : Method} {c : Code} {Q : State → Prop} {H0 : Heap} {cells slots : Nat} (g : gX) (s0 : Nat) (w : wd_M) (h : Nat) (hs0 : s0 ≤ h) (rf nt np mo gb wr nr : Int32) (su pr ob ki fi se nd ii sp qu rF rT rD : Nat → Int32) (u x : Nat) (hu : u ≤ 40) (hx1 : x < 32) (t : (Nat → Nat) × Nat) (hx : p.tables.exec = Jvm.exec) (hb : c.code = cX4_makeWalks) (hml : c.maxLocals = 6) (hown : s.vm.findClass RX4 = some m.cls) (hts : ∀ w ∈ Cond.code yX4_makeWalks cX4_makeWalks 6 (none) :: tg, w.before args s = true) (hK : gK g s) (h0s : s0 ≤ H0.size) (hRm : 2 ≤ R.frames ∧ 49 ≤ R.locals) (hcs : cells + 0 ≤ R.cells ∧ slots + 0 ≤ R.slots)  (kx : ∀ (H : Heap) (locs : List Loc) (ls : Array Slot), gP g (mW g w h rf nt np mo gb wr nr su pr ob ki fi se (tN (mw2 ki ii sp u x t 32).1) nd ii sp qu rF rT rD) H → gS s0 H0 H locs → lv_has ls 6 [(0, .ref h), (1, .int (nI u)), (2, .int (nI ((mw2 ki ii sp u x t 32).2))), (3, .int (nI x)), (4, .int (nI 32))] → W p l e R s m args below meth c H locs cells slots Q (F0 m 110 ls [])) :
    ∀ (n y : Nat), y ≤ 32 → 32 + 1 ≤ y + n → ∀ (H : Heap) (locs : List Loc) (ls : Array Slot), gP g (mW g w h rf nt np mo gb wr nr su pr ob ki fi se (tN (mw2 ki ii sp u x t y).1) nd ii sp qu rF rT rD) H → gS s0 H0 H locs → lv_has ls 6 [(0, .ref h), (1, .int (nI u)), (2, .int (nI ((mw2 ki ii sp u x t y).2))), (3, .int (nI x)), (4, .int (nI y))] → W p l e R s m args below meth c H locs cells slots Q (F0 m 24 ls []) := by
  intro n
  induction n with
  | zero =>
    intro y h1 h2
    exact absurd h2 (by omega)
  | succ n ih =>
    intro y hi hin H locs ls hP hS hl
    refine lv_iload hx hb dX4_makeWalks_24 (lv_at hl 4 rfl) ?_
    refine lv_bipush (v := nI 32) hx hb dX4_makeWalks_26 (by decide) ?_
    refine lv_icmp_ge (tgt := 110) hx hb dX4_makeWalks_28 (by decide) (fun c_28 => ?_) (fun c_28 => ?_)
    · have c_28 := (nI_leI (a := 32) (b := y) (by omega) (by omega)).mp c_28
      have e9 : y = 32 := by omega
      try rw [e9] at hP
      try rw [e9] at hl
      exact kx H locs ls hP hS (lv_sub hl [0, 1, 2, 3, 4] rfl)
    · have c_28 := mt (nI_leI (a := 32) (b := y) (by omega) (by omega)).mpr c_28
      refine lv_aload_n hx hb dX4_makeWalks_31 rfl (lv_at hl 0 rfl) ?_
      refine wd_get (ci := 5) (v := .ref (h + 10)) (C := RX4) (T := TX4) (N := 21) hx hb hts iwX4 hown hK.1 hP (mW_0) rfl 14 (by decide) (hts _ (tg_tail _ tw_437)) (fun _ h9 => h9) rfl dX4_makeWalks_32 ?_
      refine lv_iload hx hb dX4_makeWalks_35 (lv_at hl 4 rfl) ?_
      refine wd_ildN hx hb hK.1 hP 0 (k := y) (mW_10) rfl (by omega) (by decide) dX4_makeWalks_37 ?_
      refine lv_if_gt (tgt := 66) hx hb dX4_makeWalks_38 (by decide) (fun c_38 => ?_) (fun c_38 => ?_)
      · refine lv_iconst (v := nI 1) hx hb dX4_makeWalks_66 (by decide) ?_
        refine lv_goto (tgt := 71) hx hb dX4_makeWalks_67 (by decide) ?_
        refine lv_istore (lv' := [(5, .int (nI 1)), (0, .ref h), (1, .int (nI u)), (2, .int (nI ((mw2 ki ii sp u x t y).2))), (3, .int (nI x)), (4, .int (nI y))]) hx hb dX4_makeWalks_71 hl (by decide) rfl (fun ls hl => ?_)
        refine lv_aload_n hx hb dX4_makeWalks_73 rfl (lv_at hl 1 rfl) ?_
        refine lv_iload_n hx hb dX4_makeWalks_74 rfl (lv_at hl 2 rfl) ?_
        refine lv_iload_n hx hb dX4_makeWalks_75 rfl (lv_at hl 4 rfl) ?_
        refine lv_iload hx hb dX4_makeWalks_76 (lv_at hl 5 rfl) ?_
        refine lv_iload hx hb dX4_makeWalks_78 (lv_at hl 0 rfl) ?_
        refine lv_if_eq (tgt := 87) hx hb dX4_makeWalks_80 (by decide) (fun c_80 => ?_) (fun c_80 => ?_)
        · have c_80 := (nI_eq (a := 1) (b := 0) (by omega) (by omega)).mp (show nI 1 = nI 0 from c_80)
          exact absurd c_80 (by decide)
        · have c_80 := mt (nI_eq (a := 1) (b := 0) (by omega) (by omega)).mpr (show ¬ (nI 1 = nI 0) from c_80)
          refine lv_lconst (v := lN 1) hx hb dX4_makeWalks_83 (by decide) ?_
          refine lv_goto (tgt := 88) hx hb dX4_makeWalks_84 (by decide) ?_
          refine cr_Vv (As := [.int (nI u), .int (nI x), .int (nI y), .long (lN 1)]) (rest := []) ⟨hx, hb, hml, hown, hts⟩ (c_X4_put l g s0  w h hs0 rf nt np mo gb wr nr su pr ob ki fi se (tN (mw2 ki ii sp u x t y).1) nd ii sp qu rF rT rD (u) (x) (y) (1) (by omega) (by omega) (by omega) (by decide)) (cw_V 4 hts tg_tail tw_561 tw_563 tp_29 tw_4 tw_564 rfl rfl (by decide +kernel) ⟨Nat.le_trans (by decide) hRm.1, Nat.le_trans (by decide) hRm.2⟩) hK hP h0s hS (mW_0) rfl rfl rfl hl.1 rfl (Nat.le_of_ble_eq_true rfl) dX4_makeWalks_88 hcs (fun w9 H locs hw hP hS => ?_)
          rw [hw, tN_up] at hP
          refine lv_iload hx hb dX4_makeWalks_91 (lv_at hl 0 rfl) ?_
          refine lv_if_eq (tgt := 102) hx hb dX4_makeWalks_93 (by decide) (fun c_93 => ?_) (fun c_93 => ?_)
          · have c_93 := (nI_eq (a := 1) (b := 0) (by omega) (by omega)).mp (show nI 1 = nI 0 from c_93)
            exact absurd c_93 (by decide)
          · have c_93 := mt (nI_eq (a := 1) (b := 0) (by omega) (by omega)).mpr (show ¬ (nI 1 = nI 0) from c_93)
            refine lv_iload_n hx hb dX4_makeWalks_96 rfl (lv_at hl 3 rfl) ?_
            refine lv_iconst (v := nI 1) hx hb dX4_makeWalks_97 (by decide) ?_
            refine lv_iadd hx hb dX4_makeWalks_98 ?_
            refine wd_ti (x' := nI (((mw2 ki ii sp u x t y).2) + 1)) (nI_add _ _) ?_
            refine lv_goto (tgt := 103) hx hb dX4_makeWalks_99 (by decide) ?_
            refine lv_istore_n (lv' := [(2, .int (nI (((mw2 ki ii sp u x t y).2) + 1))), (5, .int (nI 1)), (0, .ref h), (1, .int (nI u)), (3, .int (nI x)), (4, .int (nI y))]) hx hb dX4_makeWalks_103 rfl hl (by decide) rfl (fun ls hl => ?_)
            refine lv_iinc (v := nI (y + 1)) (lv' := [(4, .int (nI (y + 1))), (2, .int (nI (((mw2 ki ii sp u x t y).2) + 1))), (5, .int (nI 1)), (0, .ref h), (1, .int (nI u)), (3, .int (nI x))]) hx hb dX4_makeWalks_104 hl (k := 5) rfl (nI_1 _) (by decide) rfl (fun ls hl => ?_)
            refine lv_goto (tgt := 24) hx hb dX4_makeWalks_107 (by decide) ?_
            have f9 : mw2 ki ii sp u x t (y + 1) = (va_up (mw2 ki ii sp u x t y).1 (1024 * u + 32 * x + y) (min 1 1000000), (mw2 ki ii sp u x t y).2 + 1) := by rw [mw2, if_pos (by clear hts hP hK hx hb hown hS hRm hcs hl ih; grind)]
            have e8 : (mW g w h rf nt np mo gb wr nr su pr ob ki fi se (tN (va_up ((mw2 ki ii sp u x t y).1) (1024 * u + 32 * x + y) (min (1) 1000000))) nd ii sp qu rF rT rD) = (mW g w h rf nt np mo gb wr nr su pr ob ki fi se (tN (mw2 ki ii sp u x t (y + 1)).1) nd ii sp qu rF rT rD) := by rw [f9]
            rw [e8] at hP
            have hl : lv_has ls 6 [(0, .ref h), (1, .int (nI u)), (2, .int (nI (((mw2 ki ii sp u x t y).2) + 1))), (3, .int (nI x)), (4, .int (nI (y + 1)))] := lv_sub hl [3, 4, 1, 5, 0] rfl
            have e8 : ([(0, .ref h), (1, .int (nI u)), (2, .int (nI (((mw2 ki ii sp u x t y).2) + 1))), (3, .int (nI x)), (4, .int (nI (y + 1)))] : List (Nat × Value)) = [(0, .ref h), (1, .int (nI u)), (2, .int (nI ((mw2 ki ii sp u x t (y + 1)).2))), (3, .int (nI x)), (4, .int (nI (y + 1)))] := by rw [f9]
            rw [e8] at hl
            exact ih (y + 1) (by omega) (by omega) _ _ ls hP hS hl
      · refine lv_aload_n hx hb dX4_makeWalks_41 rfl (lv_at hl 0 rfl) ?_
        refine wd_get (ci := 5) (v := .ref (h + 4)) (C := RX4) (T := TX4) (N := 21) hx hb hts iwX4 hown hK.1 hP (mW_0) rfl 5 (by decide) (hts _ (tg_tail _ tw_428)) (fun _ h9 => h9) rfl dX4_makeWalks_42 ?_
        refine lv_iload_n hx hb dX4_makeWalks_45 rfl (lv_at hl 1 rfl) ?_
        refine wd_ildN hx hb hK.1 hP 0 (k := u) (mW_4) rfl (by omega) (by decide) dX4_makeWalks_46 ?_
        refine lv_iconst (v := nI 4) hx hb dX4_makeWalks_47 (by decide) ?_
        refine lv_icmp_ne (tgt := 70) hx hb dX4_makeWalks_48 (by decide) (fun c_48 => ?_) (fun c_48 => ?_)
        · refine lv_iconst (v := nI 0) hx hb dX4_makeWalks_70 (by decide) ?_
          refine lv_istore (lv' := [(5, .int (nI 0)), (0, .ref h), (1, .int (nI u)), (2, .int (nI ((mw2 ki ii sp u x t y).2))), (3, .int (nI x)), (4, .int (nI y))]) hx hb dX4_makeWalks_71 hl (by decide) rfl (fun ls hl => ?_)
          refine lv_aload_n hx hb dX4_makeWalks_73 rfl (lv_at hl 1 rfl) ?_
          refine lv_iload_n hx hb dX4_makeWalks_74 rfl (lv_at hl 2 rfl) ?_
          refine lv_iload_n hx hb dX4_makeWalks_75 rfl (lv_at hl 4 rfl) ?_
          refine lv_iload hx hb dX4_makeWalks_76 (lv_at hl 5 rfl) ?_
          refine lv_iload hx hb dX4_makeWalks_78 (lv_at hl 0 rfl) ?_
          refine lv_if_eq (tgt := 87) hx hb dX4_makeWalks_80 (by decide) (fun c_80 => ?_) (fun c_80 => ?_)
          · have c_80 := (nI_eq (a := 0) (b := 0) (by omega) (by omega)).mp (show nI 0 = nI 0 from c_80)
            refine lv_lconst (v := lN 0) hx hb dX4_makeWalks_87 (by decide) ?_
            refine cr_Vv (As := [.int (nI u), .int (nI x), .int (nI y), .long (lN 0)]) (rest := []) ⟨hx, hb, hml, hown, hts⟩ (c_X4_put l g s0  w h hs0 rf nt np mo gb wr nr su pr ob ki fi se (tN (mw2 ki ii sp u x t y).1) nd ii sp qu rF rT rD (u) (x) (y) (0) (by omega) (by omega) (by omega) (by decide)) (cw_V 4 hts tg_tail tw_561 tw_563 tp_29 tw_4 tw_564 rfl rfl (by decide +kernel) ⟨Nat.le_trans (by decide) hRm.1, Nat.le_trans (by decide) hRm.2⟩) hK hP h0s hS (mW_0) rfl rfl rfl hl.1 rfl (Nat.le_of_ble_eq_true rfl) dX4_makeWalks_88 hcs (fun w9 H locs hw hP hS => ?_)
            rw [hw, tN_up] at hP
            refine lv_iload hx hb dX4_makeWalks_91 (lv_at hl 0 rfl) ?_
            refine lv_if_eq (tgt := 102) hx hb dX4_makeWalks_93 (by decide) (fun c_93 => ?_) (fun c_93 => ?_)
            · have c_93 := (nI_eq (a := 0) (b := 0) (by omega) (by omega)).mp (show nI 0 = nI 0 from c_93)
              refine lv_iload_n hx hb dX4_makeWalks_102 rfl (lv_at hl 3 rfl) ?_
              refine lv_istore_n (lv' := [(2, .int (nI ((mw2 ki ii sp u x t y).2))), (5, .int (nI 0)), (0, .ref h), (1, .int (nI u)), (3, .int (nI x)), (4, .int (nI y))]) hx hb dX4_makeWalks_103 rfl hl (by decide) rfl (fun ls hl => ?_)
              refine lv_iinc (v := nI (y + 1)) (lv' := [(4, .int (nI (y + 1))), (2, .int (nI ((mw2 ki ii sp u x t y).2))), (5, .int (nI 0)), (0, .ref h), (1, .int (nI u)), (3, .int (nI x))]) hx hb dX4_makeWalks_104 hl (k := 5) rfl (nI_1 _) (by decide) rfl (fun ls hl => ?_)
              refine lv_goto (tgt := 24) hx hb dX4_makeWalks_107 (by decide) ?_
              have f9 : mw2 ki ii sp u x t (y + 1) = (va_up (mw2 ki ii sp u x t y).1 (1024 * u + 32 * x + y) (min 0 1000000), (mw2 ki ii sp u x t y).2) := by rw [mw2, if_neg (by clear hts hP hK hx hb hown hS hRm hcs hl ih; grind)]
              have e8 : (mW g w h rf nt np mo gb wr nr su pr ob ki fi se (tN (va_up ((mw2 ki ii sp u x t y).1) (1024 * u + 32 * x + y) (min (0) 1000000))) nd ii sp qu rF rT rD) = (mW g w h rf nt np mo gb wr nr su pr ob ki fi se (tN (mw2 ki ii sp u x t (y + 1)).1) nd ii sp qu rF rT rD) := by rw [f9]
              rw [e8] at hP
              have hl : lv_has ls 6 [(0, .ref h), (1, .int (nI u)), (2, .int (nI ((mw2 ki ii sp u x t y).2))), (3, .int (nI x)), (4, .int (nI (y + 1)))] := lv_sub hl [3, 4, 1, 5, 0] rfl
              have e8 : ([(0, .ref h), (1, .int (nI u)), (2, .int (nI ((mw2 ki ii sp u x t y).2))), (3, .int (nI x)), (4, .int (nI (y + 1)))] : List (Nat × Value)) = [(0, .ref h), (1, .int (nI u)), (2, .int (nI ((mw2 ki ii sp u x t (y + 1)).2))), (3, .int (nI x)), (4, .int (nI (y + 1)))] := by rw [f9]
              rw [e8] at hl
              exact ih (y + 1) (by omega) (by omega) _ _ ls hP hS hl
            · have c_93 := mt (nI_eq (a := 0) (b := 0) (by omega) (by omega)).mpr (show ¬ (nI 0 = nI 0) from c_93)
              exact absurd c_93 (by decide)
          · have c_80 := mt (nI_eq (a := 0) (b := 0) (by omega) (by omega)).mpr (show ¬ (nI 0 = nI 0) from c_80)
            exact absurd c_80 (by decide)
        · refine lv_iload_n hx hb dX4_makeWalks_51 rfl (lv_at hl 3 rfl) ?_
          refine lv_iload hx hb dX4_makeWalks_52 (lv_at hl 4 rfl) ?_
          refine lv_icmp_ne (tgt := 70) hx hb dX4_makeWalks_54 (by decide) (fun c_54 => ?_) (fun c_54 => ?_)
          · have c_54 := mt (nI_eq (a := x) (b := y) (by omega) (by omega)).mpr c_54
            refine lv_iconst (v := nI 0) hx hb dX4_makeWalks_70 (by decide) ?_
            refine lv_istore (lv' := [(5, .int (nI 0)), (0, .ref h), (1, .int (nI u)), (2, .int (nI ((mw2 ki ii sp u x t y).2))), (3, .int (nI x)), (4, .int (nI y))]) hx hb dX4_makeWalks_71 hl (by decide) rfl (fun ls hl => ?_)
            refine lv_aload_n hx hb dX4_makeWalks_73 rfl (lv_at hl 1 rfl) ?_
            refine lv_iload_n hx hb dX4_makeWalks_74 rfl (lv_at hl 2 rfl) ?_
            refine lv_iload_n hx hb dX4_makeWalks_75 rfl (lv_at hl 4 rfl) ?_
            refine lv_iload hx hb dX4_makeWalks_76 (lv_at hl 5 rfl) ?_
            refine lv_iload hx hb dX4_makeWalks_78 (lv_at hl 0 rfl) ?_
            refine lv_if_eq (tgt := 87) hx hb dX4_makeWalks_80 (by decide) (fun c_80 => ?_) (fun c_80 => ?_)
            · have c_80 := (nI_eq (a := 0) (b := 0) (by omega) (by omega)).mp (show nI 0 = nI 0 from c_80)
              refine lv_lconst (v := lN 0) hx hb dX4_makeWalks_87 (by decide) ?_
              refine cr_Vv (As := [.int (nI u), .int (nI x), .int (nI y), .long (lN 0)]) (rest := []) ⟨hx, hb, hml, hown, hts⟩ (c_X4_put l g s0  w h hs0 rf nt np mo gb wr nr su pr ob ki fi se (tN (mw2 ki ii sp u x t y).1) nd ii sp qu rF rT rD (u) (x) (y) (0) (by omega) (by omega) (by omega) (by decide)) (cw_V 4 hts tg_tail tw_561 tw_563 tp_29 tw_4 tw_564 rfl rfl (by decide +kernel) ⟨Nat.le_trans (by decide) hRm.1, Nat.le_trans (by decide) hRm.2⟩) hK hP h0s hS (mW_0) rfl rfl rfl hl.1 rfl (Nat.le_of_ble_eq_true rfl) dX4_makeWalks_88 hcs (fun w9 H locs hw hP hS => ?_)
              rw [hw, tN_up] at hP
              refine lv_iload hx hb dX4_makeWalks_91 (lv_at hl 0 rfl) ?_
              refine lv_if_eq (tgt := 102) hx hb dX4_makeWalks_93 (by decide) (fun c_93 => ?_) (fun c_93 => ?_)
              · have c_93 := (nI_eq (a := 0) (b := 0) (by omega) (by omega)).mp (show nI 0 = nI 0 from c_93)
                refine lv_iload_n hx hb dX4_makeWalks_102 rfl (lv_at hl 3 rfl) ?_
                refine lv_istore_n (lv' := [(2, .int (nI ((mw2 ki ii sp u x t y).2))), (5, .int (nI 0)), (0, .ref h), (1, .int (nI u)), (3, .int (nI x)), (4, .int (nI y))]) hx hb dX4_makeWalks_103 rfl hl (by decide) rfl (fun ls hl => ?_)
                refine lv_iinc (v := nI (y + 1)) (lv' := [(4, .int (nI (y + 1))), (2, .int (nI ((mw2 ki ii sp u x t y).2))), (5, .int (nI 0)), (0, .ref h), (1, .int (nI u)), (3, .int (nI x))]) hx hb dX4_makeWalks_104 hl (k := 5) rfl (nI_1 _) (by decide) rfl (fun ls hl => ?_)
                refine lv_goto (tgt := 24) hx hb dX4_makeWalks_107 (by decide) ?_
                have f9 : mw2 ki ii sp u x t (y + 1) = (va_up (mw2 ki ii sp u x t y).1 (1024 * u + 32 * x + y) (min 0 1000000), (mw2 ki ii sp u x t y).2) := by rw [mw2, if_neg (by clear hts hP hK hx hb hown hS hRm hcs hl ih; grind)]
                have e8 : (mW g w h rf nt np mo gb wr nr su pr ob ki fi se (tN (va_up ((mw2 ki ii sp u x t y).1) (1024 * u + 32 * x + y) (min (0) 1000000))) nd ii sp qu rF rT rD) = (mW g w h rf nt np mo gb wr nr su pr ob ki fi se (tN (mw2 ki ii sp u x t (y + 1)).1) nd ii sp qu rF rT rD) := by rw [f9]
                rw [e8] at hP
                have hl : lv_has ls 6 [(0, .ref h), (1, .int (nI u)), (2, .int (nI ((mw2 ki ii sp u x t y).2))), (3, .int (nI x)), (4, .int (nI (y + 1)))] := lv_sub hl [3, 4, 1, 5, 0] rfl
                have e8 : ([(0, .ref h), (1, .int (nI u)), (2, .int (nI ((mw2 ki ii sp u x t y).2))), (3, .int (nI x)), (4, .int (nI (y + 1)))] : List (Nat × Value)) = [(0, .ref h), (1, .int (nI u)), (2, .int (nI ((mw2 ki ii sp u x t (y + 1)).2))), (3, .int (nI x)), (4, .int (nI (y + 1)))] := by rw [f9]
                rw [e8] at hl
                exact ih (y + 1) (by omega) (by omega) _ _ ls hP hS hl
              · have c_93 := mt (nI_eq (a := 0) (b := 0) (by omega) (by omega)).mpr (show ¬ (nI 0 = nI 0) from c_93)
                exact absurd c_93 (by decide)
            · have c_80 := mt (nI_eq (a := 0) (b := 0) (by omega) (by omega)).mpr (show ¬ (nI 0 = nI 0) from c_80)
              exact absurd c_80 (by decide)
          · have c_54 := (nI_eq (a := x) (b := y) (by omega) (by omega)).mp c_54
            refine lv_aload_n hx hb dX4_makeWalks_57 rfl (lv_at hl 0 rfl) ?_
            refine wd_get (ci := 5) (v := .ref (h + 9)) (C := RX4) (T := TX4) (N := 21) hx hb hts iwX4 hown hK.1 hP (mW_0) rfl 12 (by decide) (hts _ (tg_tail _ tw_435)) (fun _ h9 => h9) rfl dX4_makeWalks_58 ?_
            refine lv_iload_n hx hb dX4_makeWalks_61 rfl (lv_at hl 3 rfl) ?_
            refine wd_zldN hx hb hK.1 hP 1 (k := x) (mW_9) rfl (by omega) (by decide) dX4_makeWalks_62 ?_
            refine lv_if_eq (tgt := 70) hx hb dX4_makeWalks_63 (by decide) (fun c_63 => ?_) (fun c_63 => ?_)
            · refine lv_iconst (v := nI 0) hx hb dX4_makeWalks_70 (by decide) ?_
              refine lv_istore (lv' := [(5, .int (nI 0)), (0, .ref h), (1, .int (nI u)), (2, .int (nI ((mw2 ki ii sp u x t y).2))), (3, .int (nI x)), (4, .int (nI y))]) hx hb dX4_makeWalks_71 hl (by decide) rfl (fun ls hl => ?_)
              refine lv_aload_n hx hb dX4_makeWalks_73 rfl (lv_at hl 1 rfl) ?_
              refine lv_iload_n hx hb dX4_makeWalks_74 rfl (lv_at hl 2 rfl) ?_
              refine lv_iload_n hx hb dX4_makeWalks_75 rfl (lv_at hl 4 rfl) ?_
              refine lv_iload hx hb dX4_makeWalks_76 (lv_at hl 5 rfl) ?_
              refine lv_iload hx hb dX4_makeWalks_78 (lv_at hl 0 rfl) ?_
              refine lv_if_eq (tgt := 87) hx hb dX4_makeWalks_80 (by decide) (fun c_80 => ?_) (fun c_80 => ?_)
              · have c_80 := (nI_eq (a := 0) (b := 0) (by omega) (by omega)).mp (show nI 0 = nI 0 from c_80)
                refine lv_lconst (v := lN 0) hx hb dX4_makeWalks_87 (by decide) ?_
                refine cr_Vv (As := [.int (nI u), .int (nI x), .int (nI y), .long (lN 0)]) (rest := []) ⟨hx, hb, hml, hown, hts⟩ (c_X4_put l g s0  w h hs0 rf nt np mo gb wr nr su pr ob ki fi se (tN (mw2 ki ii sp u x t y).1) nd ii sp qu rF rT rD (u) (x) (y) (0) (by omega) (by omega) (by omega) (by decide)) (cw_V 4 hts tg_tail tw_561 tw_563 tp_29 tw_4 tw_564 rfl rfl (by decide +kernel) ⟨Nat.le_trans (by decide) hRm.1, Nat.le_trans (by decide) hRm.2⟩) hK hP h0s hS (mW_0) rfl rfl rfl hl.1 rfl (Nat.le_of_ble_eq_true rfl) dX4_makeWalks_88 hcs (fun w9 H locs hw hP hS => ?_)
                rw [hw, tN_up] at hP
                refine lv_iload hx hb dX4_makeWalks_91 (lv_at hl 0 rfl) ?_
                refine lv_if_eq (tgt := 102) hx hb dX4_makeWalks_93 (by decide) (fun c_93 => ?_) (fun c_93 => ?_)
                · have c_93 := (nI_eq (a := 0) (b := 0) (by omega) (by omega)).mp (show nI 0 = nI 0 from c_93)
                  refine lv_iload_n hx hb dX4_makeWalks_102 rfl (lv_at hl 3 rfl) ?_
                  refine lv_istore_n (lv' := [(2, .int (nI ((mw2 ki ii sp u x t y).2))), (5, .int (nI 0)), (0, .ref h), (1, .int (nI u)), (3, .int (nI x)), (4, .int (nI y))]) hx hb dX4_makeWalks_103 rfl hl (by decide) rfl (fun ls hl => ?_)
                  refine lv_iinc (v := nI (y + 1)) (lv' := [(4, .int (nI (y + 1))), (2, .int (nI ((mw2 ki ii sp u x t y).2))), (5, .int (nI 0)), (0, .ref h), (1, .int (nI u)), (3, .int (nI x))]) hx hb dX4_makeWalks_104 hl (k := 5) rfl (nI_1 _) (by decide) rfl (fun ls hl => ?_)
                  refine lv_goto (tgt := 24) hx hb dX4_makeWalks_107 (by decide) ?_
                  have f9 : mw2 ki ii sp u x t (y + 1) = (va_up (mw2 ki ii sp u x t y).1 (1024 * u + 32 * x + y) (min 0 1000000), (mw2 ki ii sp u x t y).2) := by rw [mw2, if_neg (by clear hts hP hK hx hb hown hS hRm hcs hl ih; grind)]
                  have e8 : (mW g w h rf nt np mo gb wr nr su pr ob ki fi se (tN (va_up ((mw2 ki ii sp u x t y).1) (1024 * u + 32 * x + y) (min (0) 1000000))) nd ii sp qu rF rT rD) = (mW g w h rf nt np mo gb wr nr su pr ob ki fi se (tN (mw2 ki ii sp u x t (y + 1)).1) nd ii sp qu rF rT rD) := by rw [f9]
                  rw [e8] at hP
                  have hl : lv_has ls 6 [(0, .ref h), (1, .int (nI u)), (2, .int (nI ((mw2 ki ii sp u x t y).2))), (3, .int (nI x)), (4, .int (nI (y + 1)))] := lv_sub hl [3, 4, 1, 5, 0] rfl
                  have e8 : ([(0, .ref h), (1, .int (nI u)), (2, .int (nI ((mw2 ki ii sp u x t y).2))), (3, .int (nI x)), (4, .int (nI (y + 1)))] : List (Nat × Value)) = [(0, .ref h), (1, .int (nI u)), (2, .int (nI ((mw2 ki ii sp u x t (y + 1)).2))), (3, .int (nI x)), (4, .int (nI (y + 1)))] := by rw [f9]
                  rw [e8] at hl
                  exact ih (y + 1) (by omega) (by omega) _ _ ls hP hS hl
                · have c_93 := mt (nI_eq (a := 0) (b := 0) (by omega) (by omega)).mpr (show ¬ (nI 0 = nI 0) from c_93)
                  exact absurd c_93 (by decide)
              · have c_80 := mt (nI_eq (a := 0) (b := 0) (by omega) (by omega)).mpr (show ¬ (nI 0 = nI 0) from c_80)
                exact absurd c_80 (by decide)
            · refine lv_iconst (v := nI 1) hx hb dX4_makeWalks_66 (by decide) ?_
              refine lv_goto (tgt := 71) hx hb dX4_makeWalks_67 (by decide) ?_
              refine lv_istore (lv' := [(5, .int (nI 1)), (0, .ref h), (1, .int (nI u)), (2, .int (nI ((mw2 ki ii sp u x t y).2))), (3, .int (nI x)), (4, .int (nI y))]) hx hb dX4_makeWalks_71 hl (by decide) rfl (fun ls hl => ?_)
              refine lv_aload_n hx hb dX4_makeWalks_73 rfl (lv_at hl 1 rfl) ?_
              refine lv_iload_n hx hb dX4_makeWalks_74 rfl (lv_at hl 2 rfl) ?_
              refine lv_iload_n hx hb dX4_makeWalks_75 rfl (lv_at hl 4 rfl) ?_
              refine lv_iload hx hb dX4_makeWalks_76 (lv_at hl 5 rfl) ?_
              refine lv_iload hx hb dX4_makeWalks_78 (lv_at hl 0 rfl) ?_
              refine lv_if_eq (tgt := 87) hx hb dX4_makeWalks_80 (by decide) (fun c_80 => ?_) (fun c_80 => ?_)
              · have c_80 := (nI_eq (a := 1) (b := 0) (by omega) (by omega)).mp (show nI 1 = nI 0 from c_80)
                exact absurd c_80 (by decide)
              · have c_80 := mt (nI_eq (a := 1) (b := 0) (by omega) (by omega)).mpr (show ¬ (nI 1 = nI 0) from c_80)
                refine lv_lconst (v := lN 1) hx hb dX4_makeWalks_83 (by decide) ?_
                refine lv_goto (tgt := 88) hx hb dX4_makeWalks_84 (by decide) ?_
                refine cr_Vv (As := [.int (nI u), .int (nI x), .int (nI y), .long (lN 1)]) (rest := []) ⟨hx, hb, hml, hown, hts⟩ (c_X4_put l g s0  w h hs0 rf nt np mo gb wr nr su pr ob ki fi se (tN (mw2 ki ii sp u x t y).1) nd ii sp qu rF rT rD (u) (x) (y) (1) (by omega) (by omega) (by omega) (by decide)) (cw_V 4 hts tg_tail tw_561 tw_563 tp_29 tw_4 tw_564 rfl rfl (by decide +kernel) ⟨Nat.le_trans (by decide) hRm.1, Nat.le_trans (by decide) hRm.2⟩) hK hP h0s hS (mW_0) rfl rfl rfl hl.1 rfl (Nat.le_of_ble_eq_true rfl) dX4_makeWalks_88 hcs (fun w9 H locs hw hP hS => ?_)
                rw [hw, tN_up] at hP
                refine lv_iload hx hb dX4_makeWalks_91 (lv_at hl 0 rfl) ?_
                refine lv_if_eq (tgt := 102) hx hb dX4_makeWalks_93 (by decide) (fun c_93 => ?_) (fun c_93 => ?_)
                · have c_93 := (nI_eq (a := 1) (b := 0) (by omega) (by omega)).mp (show nI 1 = nI 0 from c_93)
                  exact absurd c_93 (by decide)
                · have c_93 := mt (nI_eq (a := 1) (b := 0) (by omega) (by omega)).mpr (show ¬ (nI 1 = nI 0) from c_93)
                  refine lv_iload_n hx hb dX4_makeWalks_96 rfl (lv_at hl 3 rfl) ?_
                  refine lv_iconst (v := nI 1) hx hb dX4_makeWalks_97 (by decide) ?_
                  refine lv_iadd hx hb dX4_makeWalks_98 ?_
                  refine wd_ti (x' := nI (((mw2 ki ii sp u x t y).2) + 1)) (nI_add _ _) ?_
                  refine lv_goto (tgt := 103) hx hb dX4_makeWalks_99 (by decide) ?_
                  refine lv_istore_n (lv' := [(2, .int (nI (((mw2 ki ii sp u x t y).2) + 1))), (5, .int (nI 1)), (0, .ref h), (1, .int (nI u)), (3, .int (nI x)), (4, .int (nI y))]) hx hb dX4_makeWalks_103 rfl hl (by decide) rfl (fun ls hl => ?_)
                  refine lv_iinc (v := nI (y + 1)) (lv' := [(4, .int (nI (y + 1))), (2, .int (nI (((mw2 ki ii sp u x t y).2) + 1))), (5, .int (nI 1)), (0, .ref h), (1, .int (nI u)), (3, .int (nI x))]) hx hb dX4_makeWalks_104 hl (k := 5) rfl (nI_1 _) (by decide) rfl (fun ls hl => ?_)
                  refine lv_goto (tgt := 24) hx hb dX4_makeWalks_107 (by decide) ?_
                  have f9 : mw2 ki ii sp u x t (y + 1) = (va_up (mw2 ki ii sp u x t y).1 (1024 * u + 32 * x + y) (min 1 1000000), (mw2 ki ii sp u x t y).2 + 1) := by rw [mw2, if_pos (by clear hts hP hK hx hb hown hS hRm hcs hl ih; grind)]
                  have e8 : (mW g w h rf nt np mo gb wr nr su pr ob ki fi se (tN (va_up ((mw2 ki ii sp u x t y).1) (1024 * u + 32 * x + y) (min (1) 1000000))) nd ii sp qu rF rT rD) = (mW g w h rf nt np mo gb wr nr su pr ob ki fi se (tN (mw2 ki ii sp u x t (y + 1)).1) nd ii sp qu rF rT rD) := by rw [f9]
                  rw [e8] at hP
                  have hl : lv_has ls 6 [(0, .ref h), (1, .int (nI u)), (2, .int (nI (((mw2 ki ii sp u x t y).2) + 1))), (3, .int (nI x)), (4, .int (nI (y + 1)))] := lv_sub hl [3, 4, 1, 5, 0] rfl
                  have e8 : ([(0, .ref h), (1, .int (nI u)), (2, .int (nI (((mw2 ki ii sp u x t y).2) + 1))), (3, .int (nI x)), (4, .int (nI (y + 1)))] : List (Nat × Value)) = [(0, .ref h), (1, .int (nI u)), (2, .int (nI ((mw2 ki ii sp u x t (y + 1)).2))), (3, .int (nI x)), (4, .int (nI (y + 1)))] := by rw [f9]
                  rw [e8] at hl
                  exact ih (y + 1) (by omega) (by omega) _ _ ls hP hS hl

set_option maxHeartbeats 4000000 in
set_option maxRecDepth 100000 in
theorem lp_mw1 {p : Program} {l : Launch} {e : Env} {R : Room} {s : State} {m : MethodId} {args : Array Value} {below : List Frame} {meth : Method} {c : Code} {Q : State → Prop} {H0 : Heap} {cells slots : Nat} (g : gX) (s0 : Nat) (w : wd_M) (h : Nat) (hs0 : s0 ≤ h) (rf nt np mo gb wr nr : Int32) (su pr ob ki fi se nd ii sp qu rF rT rD : Nat → Int32) (M : Nat → Nat) (hM9 : mB M) (u a : Nat) (hu : u ≤ 40) (hfa : fi u = nI a ∧ a ≤ 40) (hx : p.tables.exec = Jvm.exec) (hb : c.code = cX4_makeWalks) (hml : c.maxLocals = 6) (hown : s.vm.findClass RX4 = some m.cls) (hts : ∀ w ∈ Cond.code yX4_makeWalks cX4_makeWalks 6 (none) :: tg, w.before args s = true) (hK : gK g s) (h0s : s0 ≤ H0.size) (hRm : 2 ≤ R.frames ∧ 49 ≤ R.locals) (hcs : cells + 0 ≤ R.cells ∧ slots + 0 ≤ R.slots)  (kx : ∀ (H : Heap) (locs : List Loc) (ls : Array Slot), gP g (mW g w h rf nt np mo gb wr nr su pr ob ki fi se (tN (mw1 ki ii u a M sp qu 32).1) nd ii ((mw1 ki ii u a M sp qu 32).2.1) ((mw1 ki ii u a M sp qu 32).2.2.1) rF rT rD) H → gS s0 H0 H locs → lv_has ls 6 [(0, .ref h), (1, .int (nI u)), (2, .int (nI ((mw1 ki ii u a M sp qu 32).2.2.2))), (3, .int (nI 32))] → W p l e R s m args below meth c H locs cells slots Q (F0 m 116 ls [])) :
    ∀ (n x : Nat), x ≤ 32 → 32 + 1 ≤ x + n → ∀ (H : Heap) (locs : List Loc) (ls : Array Slot), gP g (mW g w h rf nt np mo gb wr nr su pr ob ki fi se (tN (mw1 ki ii u a M sp qu x).1) nd ii ((mw1 ki ii u a M sp qu x).2.1) ((mw1 ki ii u a M sp qu x).2.2.1) rF rT rD) H → gS s0 H0 H locs → lv_has ls 6 [(0, .ref h), (1, .int (nI u)), (2, .int (nI ((mw1 ki ii u a M sp qu x).2.2.2))), (3, .int (nI x))] → W p l e R s m args below meth c H locs cells slots Q (F0 m 4 ls []) := by
  intro n
  induction n with
  | zero =>
    intro x h1 h2
    exact absurd h2 (by omega)
  | succ n ih =>
    intro x hi hin H locs ls hP hS hl
    refine lv_iload_n hx hb dX4_makeWalks_4 rfl (lv_at hl 3 rfl) ?_
    refine lv_bipush (v := nI 32) hx hb dX4_makeWalks_5 (by decide) ?_
    refine lv_icmp_ge (tgt := 116) hx hb dX4_makeWalks_7 (by decide) (fun c_7 => ?_) (fun c_7 => ?_)
    · have c_7 := (nI_leI (a := 32) (b := x) (by omega) (by omega)).mp c_7
      have e9 : x = 32 := by omega
      try rw [e9] at hP
      try rw [e9] at hl
      exact kx H locs ls hP hS (lv_sub hl [0, 1, 2, 3] rfl)
    · have c_7 := mt (nI_leI (a := 32) (b := x) (by omega) (by omega)).mpr c_7
      refine lv_aload_n hx hb dX4_makeWalks_10 rfl (lv_at hl 0 rfl) ?_
      refine lv_aload_n hx hb dX4_makeWalks_11 rfl (lv_at hl 0 rfl) ?_
      refine wd_get (ci := 5) (v := .ref (h + 5)) (C := RX4) (T := TX4) (N := 21) hx hb hts iwX4 hown hK.1 hP (mW_0) rfl 6 (by decide) (hts _ (tg_tail _ tw_429)) (fun _ h9 => h9) rfl dX4_makeWalks_12 ?_
      refine lv_iload_n hx hb dX4_makeWalks_15 rfl (lv_at hl 1 rfl) ?_
      refine wd_ildN hx hb hK.1 hP 0 (k := u) (mW_5) rfl (by omega) (by decide) dX4_makeWalks_16 ?_
      refine wd_ti (x' := nI a) (hfa.1) ?_
      refine lv_iload_n hx hb dX4_makeWalks_17 rfl (lv_at hl 3 rfl) ?_
      refine cr_Vv (As := [.int (nI a), .int (nI x)]) (rest := []) ⟨hx, hb, hml, hown, hts⟩ (c_X4_walk l g s0  w h hs0 rf nt np mo gb wr nr su pr ob ki fi se nd ii ((mw1 ki ii u a M sp qu x).2.1) ((mw1 ki ii u a M sp qu x).2.2.1) rF rT rD ((mw1 ki ii u a M sp qu x).1) (mw1_B hM9 x) a x hfa.2 (by omega)) (cw_V 2 hts tg_tail tw_570 tw_572 tp_31 tw_4 tw_573 rfl rfl (by decide +kernel) ⟨Nat.le_trans (by decide) hRm.1, Nat.le_trans (by decide) hRm.2⟩) hK hP h0s hS (mW_0) rfl rfl rfl hl.1 rfl (Nat.le_of_ble_eq_true rfl) dX4_makeWalks_18 hcs (fun w9 H locs hw hP hS => ?_)
      rw [hw] at hP
      refine lv_iconst (v := nI 0) hx hb dX4_makeWalks_21 (by decide) ?_
      refine lv_istore (lv' := [(4, .int (nI 0)), (0, .ref h), (1, .int (nI u)), (2, .int (nI ((mw1 ki ii u a M sp qu x).2.2.2))), (3, .int (nI x))]) hx hb dX4_makeWalks_22 hl (by decide) rfl (fun ls hl => ?_)
      have e8 : (mW g w h rf nt np mo gb wr nr su pr ob ki fi se (tN (mw1 ki ii u a M sp qu x).1) nd ii ((wkF ((mw1 ki ii u a M sp qu x).1) a x ((mw1 ki ii u a M sp qu x).2.1) ((mw1 ki ii u a M sp qu x).2.2.1)).1) ((wkF ((mw1 ki ii u a M sp qu x).1) a x ((mw1 ki ii u a M sp qu x).2.1) ((mw1 ki ii u a M sp qu x).2.2.1)).2.1) rF rT rD) = (mW g w h rf nt np mo gb wr nr su pr ob ki fi se (tN (mw2 ki ii ((wkF ((mw1 ki ii u a M sp qu x).1) a x ((mw1 ki ii u a M sp qu x).2.1) ((mw1 ki ii u a M sp qu x).2.2.1)).1) u x (((mw1 ki ii u a M sp qu x).1, (mw1 ki ii u a M sp qu x).2.2.2)) 0).1) nd ii ((wkF ((mw1 ki ii u a M sp qu x).1) a x ((mw1 ki ii u a M sp qu x).2.1) ((mw1 ki ii u a M sp qu x).2.2.1)).1) ((wkF ((mw1 ki ii u a M sp qu x).1) a x ((mw1 ki ii u a M sp qu x).2.1) ((mw1 ki ii u a M sp qu x).2.2.1)).2.1) rF rT rD) := by rw [mw2]
      rw [e8] at hP
      have hl : lv_has ls 6 [(0, .ref h), (1, .int (nI u)), (2, .int (nI ((mw1 ki ii u a M sp qu x).2.2.2))), (3, .int (nI x)), (4, .int (nI 0))] := lv_sub hl [1, 2, 3, 4, 0] rfl
      have e8 : ([(0, .ref h), (1, .int (nI u)), (2, .int (nI ((mw1 ki ii u a M sp qu x).2.2.2))), (3, .int (nI x)), (4, .int (nI 0))] : List (Nat × Value)) = [(0, .ref h), (1, .int (nI u)), (2, .int (nI ((mw2 ki ii ((wkF ((mw1 ki ii u a M sp qu x).1) a x ((mw1 ki ii u a M sp qu x).2.1) ((mw1 ki ii u a M sp qu x).2.2.1)).1) u x (((mw1 ki ii u a M sp qu x).1, (mw1 ki ii u a M sp qu x).2.2.2)) 0).2))), (3, .int (nI x)), (4, .int (nI 0))] := by rw [mw2]
      rw [e8] at hl
      refine lp_mw2 g s0 w h hs0 rf nt np mo gb wr nr su pr ob ki fi se nd ii ((wkF ((mw1 ki ii u a M sp qu x).1) a x ((mw1 ki ii u a M sp qu x).2.1) ((mw1 ki ii u a M sp qu x).2.2.1)).1) ((wkF ((mw1 ki ii u a M sp qu x).1) a x ((mw1 ki ii u a M sp qu x).2.1) ((mw1 ki ii u a M sp qu x).2.2.1)).2.1) rF rT rD u x hu (by omega) ((mw1 ki ii u a M sp qu x).1, (mw1 ki ii u a M sp qu x).2.2.2) hx hb hml hown hts hK h0s hRm hcs  ?_ (32 + 1) 0 (by omega) (by omega) _ _ ls hP hS hl
      intro H locs ls hP hS hl
      refine lv_iinc (v := nI (x + 1)) (lv' := [(3, .int (nI (x + 1))), (0, .ref h), (1, .int (nI u)), (2, .int (nI ((mw2 ki ii ((wkF ((mw1 ki ii u a M sp qu x).1) a x ((mw1 ki ii u a M sp qu x).2.1) ((mw1 ki ii u a M sp qu x).2.2.1)).1) u x (((mw1 ki ii u a M sp qu x).1, (mw1 ki ii u a M sp qu x).2.2.2)) 32).2))), (4, .int (nI 32))]) hx hb dX4_makeWalks_110 hl (k := 3) rfl (nI_1 _) (by decide) rfl (fun ls hl => ?_)
      refine lv_goto (tgt := 4) hx hb dX4_makeWalks_113 (by decide) ?_
      have e8 : (mW g w h rf nt np mo gb wr nr su pr ob ki fi se (tN (mw2 ki ii ((wkF ((mw1 ki ii u a M sp qu x).1) a x ((mw1 ki ii u a M sp qu x).2.1) ((mw1 ki ii u a M sp qu x).2.2.1)).1) u x (((mw1 ki ii u a M sp qu x).1, (mw1 ki ii u a M sp qu x).2.2.2)) 32).1) nd ii ((wkF ((mw1 ki ii u a M sp qu x).1) a x ((mw1 ki ii u a M sp qu x).2.1) ((mw1 ki ii u a M sp qu x).2.2.1)).1) ((wkF ((mw1 ki ii u a M sp qu x).1) a x ((mw1 ki ii u a M sp qu x).2.1) ((mw1 ki ii u a M sp qu x).2.2.1)).2.1) rF rT rD) = (mW g w h rf nt np mo gb wr nr su pr ob ki fi se (tN (mw1 ki ii u a M sp qu (x + 1)).1) nd ii ((mw1 ki ii u a M sp qu (x + 1)).2.1) ((mw1 ki ii u a M sp qu (x + 1)).2.2.1) rF rT rD) := by rw [mw1, mwS]
      rw [e8] at hP
      have hl : lv_has ls 6 [(0, .ref h), (1, .int (nI u)), (2, .int (nI ((mw2 ki ii ((wkF ((mw1 ki ii u a M sp qu x).1) a x ((mw1 ki ii u a M sp qu x).2.1) ((mw1 ki ii u a M sp qu x).2.2.1)).1) u x (((mw1 ki ii u a M sp qu x).1, (mw1 ki ii u a M sp qu x).2.2.2)) 32).2))), (3, .int (nI (x + 1)))] := lv_sub hl [1, 2, 3, 0] rfl
      have e8 : ([(0, .ref h), (1, .int (nI u)), (2, .int (nI ((mw2 ki ii ((wkF ((mw1 ki ii u a M sp qu x).1) a x ((mw1 ki ii u a M sp qu x).2.1) ((mw1 ki ii u a M sp qu x).2.2.1)).1) u x (((mw1 ki ii u a M sp qu x).1, (mw1 ki ii u a M sp qu x).2.2.2)) 32).2))), (3, .int (nI (x + 1)))] : List (Nat × Value)) = [(0, .ref h), (1, .int (nI u)), (2, .int (nI ((mw1 ki ii u a M sp qu (x + 1)).2.2.2))), (3, .int (nI (x + 1)))] := by rw [mw1, mwS]
      rw [e8] at hl
      exact ih (x + 1) (by omega) (by omega) _ _ ls hP hS hl

set_option maxHeartbeats 4000000 in
set_option maxRecDepth 100000 in
theorem c_X4_makeWalks (l : Launch) (g : gX) (s0 : Nat) (w : wd_M) (h : Nat) (hs0 : s0 ≤ h) (rf nt np mo gb wr nr : Int32) (su pr ob ki fi se nd ii sp qu rF rT rD : Nat → Int32) (M : Nat → Nat) (hM9 : mB M) (u a : Nat) (hu : u ≤ 40) (hfa : fi u = nI a ∧ a ≤ 40) : Met l yX4_makeWalks (Cond.code yX4_makeWalks cX4_makeWalks 6 (none) :: tg) ({ frames := 2, cells := 0, slots := 0, locals := 49 }) (cP g s0 (mW g w h rf nt np mo gb wr nr su pr ob ki fi se (tN M) nd ii sp qu rF rT rD) [.ref h, .int (nI u)]) (cV g s0 (fun w' => w' = (mW g w h rf nt np mo (zB (¬ gb = 0 ∨ ¬ nI (mw1 ki ii u a M sp qu 32).2.2.2 ≤ mo)) wr nr su pr ob ki fi se (tN (mw1 ki ii u a M sp qu 32).1) nd ii ((mw1 ki ii u a M sp qu 32).2.1) ((mw1 ki ii u a M sp qu 32).2.2.1) rF rT rD))) 0 0 (cA s0) := by
  refine Met.ofW (cc := cX4_makeWalks) (maxL := 6) (ret := none) (by decide) rfl ?_
  intro p e s m args below meth c s₁ B9 hml hv
  obtain ⟨rfl, h0s, hP, hK⟩ := hv
  have hx := B9.exec
  have hb := B9.bytes
  have hr := B9.returns
  have hts := atoms_spec (ws := Cond.code yX4_makeWalks cX4_makeWalks 6 (none) :: tg) B9.pre
  have hown : s.vm.findClass RX4 = some m.cls := findClass_of_methodNamed B9.named
  have hlocks := B9.notSynchronized
  have hS : gS s0 s.heap s.heap [] := va_S.rf
  have hRm : 2 ≤ (headSpec (Cond.code yX4_makeWalks cX4_makeWalks 6 (none) :: tg) ({ frames := 2, cells := 0, slots := 0, locals := 49 })).room.frames ∧ 49 ≤ (headSpec (Cond.code yX4_makeWalks cX4_makeWalks 6 (none) :: tg) ({ frames := 2, cells := 0, slots := 0, locals := 49 })).room.locals := ⟨Nat.le_refl _, Nat.le_refl _⟩
  have hcs : 0 + 0 ≤ (headSpec (Cond.code yX4_makeWalks cX4_makeWalks 6 (none) :: tg) ({ frames := 2, cells := 0, slots := 0, locals := 49 })).room.cells ∧ 0 + 0 ≤ (headSpec (Cond.code yX4_makeWalks cX4_makeWalks 6 (none) :: tg) ({ frames := 2, cells := 0, slots := 0, locals := 49 })).room.slots := ⟨Nat.zero_le _, Nat.zero_le _⟩
  have hl := lv_entry ([.ref h, .int (nI u)]) (n := 6) (Nat.le_of_ble_eq_true rfl)
  rw [lg_entry_eq]
  generalize (lg_sl ([.ref h, .int (nI u)]) ++ List.replicate (6 - (lg_sl ([.ref h, .int (nI u)])).length) Slot.unset).toArray = ls at hl ⊢
  have hl : lv_has ls 6 [(0, .ref h), (1, .int (nI u))] := hl
  refine lv_iconst (v := nI 0) hx hb dX4_makeWalks_0 (by decide) ?_
  refine lv_istore_n (lv' := [(2, .int (nI 0)), (0, .ref h), (1, .int (nI u))]) hx hb dX4_makeWalks_1 rfl hl (by decide) rfl (fun ls hl => ?_)
  refine lv_iconst (v := nI 0) hx hb dX4_makeWalks_2 (by decide) ?_
  refine lv_istore_n (lv' := [(3, .int (nI 0)), (2, .int (nI 0)), (0, .ref h), (1, .int (nI u))]) hx hb dX4_makeWalks_3 rfl hl (by decide) rfl (fun ls hl => ?_)
  have e8 : (mW g w h rf nt np mo gb wr nr su pr ob ki fi se (tN M) nd ii sp qu rF rT rD) = (mW g w h rf nt np mo gb wr nr su pr ob ki fi se (tN (mw1 ki ii u a M sp qu 0).1) nd ii ((mw1 ki ii u a M sp qu 0).2.1) ((mw1 ki ii u a M sp qu 0).2.2.1) rF rT rD) := by rw [mw1]
  rw [e8] at hP
  have hl : lv_has ls 6 [(0, .ref h), (1, .int (nI u)), (2, .int (nI 0)), (3, .int (nI 0))] := lv_sub hl [2, 3, 1, 0] rfl
  have e8 : ([(0, .ref h), (1, .int (nI u)), (2, .int (nI 0)), (3, .int (nI 0))] : List (Nat × Value)) = [(0, .ref h), (1, .int (nI u)), (2, .int (nI ((mw1 ki ii u a M sp qu 0).2.2.2))), (3, .int (nI 0))] := by rw [mw1]
  rw [e8] at hl
  refine lp_mw1 g s0 w h hs0 rf nt np mo gb wr nr su pr ob ki fi se nd ii sp qu rF rT rD M hM9 u a hu hfa hx hb hml hown hts hK h0s hRm hcs  ?_ (32 + 1) 0 (by omega) (by omega) _ _ ls hP hS hl
  intro H locs ls hP hS hl
  refine lv_aload_n hx hb dX4_makeWalks_116 rfl (lv_at hl 0 rfl) ?_
  refine lv_aload_n hx hb dX4_makeWalks_117 rfl (lv_at hl 0 rfl) ?_
  refine wd_get (ci := 5) (v := .int (gb)) (C := RX4) (T := TX4) (N := 21) hx hb hts iwX4 hown hK.1 hP (mW_0) rfl 13 (by decide) (hts _ (tg_tail _ tw_436)) (fun _ h9 => h9) rfl dX4_makeWalks_118 ?_
  refine lv_if_ne (tgt := 132) hx hb dX4_makeWalks_121 (by decide) (fun c_121 => ?_) (fun c_121 => ?_)
  · refine lv_iconst (v := nI 1) hx hb dX4_makeWalks_132 (by decide) ?_
    refine lv_goto (tgt := 137) hx hb dX4_makeWalks_133 (by decide) ?_
    refine wd_put (ci := 5) (v := .int (nI 1)) (ty := .boolean) (C := RX4) (T := TX4) (N := 21) hx hb hts iwX4 tyX4 tyX4_ok nmX4 hown hK.1 hP hS (by omega) (mW_0) rfl 13 (by decide) (hts _ (tg_tail _ tw_436)) (fun _ h9 => h9) rfl (by decide +kernel) (rfl) (rfl) (Nat.le_of_ble_eq_true rfl) dX4_makeWalks_137 (fun H locs hP hS hz => ?_)
    have hP : gP g (mW g w h rf nt np mo (nI 1) wr nr su pr ob ki fi se (tN (mw1 ki ii u a M sp qu 32).1) nd ii ((mw1 ki ii u a M sp qu 32).2.1) ((mw1 ki ii u a M sp qu 32).2.2.1) rF rT rD) H := by have h9 : gP g (wd_up (mW g w h rf nt np mo gb wr nr su pr ob ki fi se (tN (mw1 ki ii u a M sp qu 32).1) nd ii ((mw1 ki ii u a M sp qu 32).2.1) ((mw1 ki ii u a M sp qu 32).2.2.1) rF rT rD) h (.inr (5, [.int (rf), .ref (h + 1), .ref (h + 2), .ref (h + 3), .int (nt), .ref (h + 4), .ref (h + 5), .ref (h + 6), .int (np), .int (mo), .ref (h + 7), .ref (h + 8), .ref (h + 9), .int (nI 1), .ref (h + 10), .ref (h + 11), .int (wr), .int (nr), .ref (h + 12), .ref (h + 13), .ref (h + 14)]))) H := hP; rw [mW_s0] at h9; exact h9
    exact W.vret hx hb hr (fun t9 ht hW => ⟨⟨(mW g w h rf nt np mo (nI 1) wr nr su pr ob ki fi se (tN (mw1 ki ii u a M sp qu 32).1) nd ii ((mw1 ki ii u a M sp qu 32).2.1) ((mw1 ki ii u a M sp qu 32).2.2.1) rF rT rD), rfl, by rw [zB_t (Or.inl c_121)], cB_of ht hP⟩, hS.F ht⟩) hS.2.2 dX4_makeWalks_140
  · refine lv_iload_n hx hb dX4_makeWalks_124 rfl (lv_at hl 2 rfl) ?_
    refine lv_aload_n hx hb dX4_makeWalks_125 rfl (lv_at hl 0 rfl) ?_
    refine wd_get (ci := 5) (v := .int (mo)) (C := RX4) (T := TX4) (N := 21) hx hb hts iwX4 hown hK.1 hP (mW_0) rfl 9 (by decide) (hts _ (tg_tail _ tw_432)) (fun _ h9 => h9) rfl dX4_makeWalks_126 ?_
    refine lv_icmp_le (tgt := 136) hx hb dX4_makeWalks_129 (by decide) (fun c_129 => ?_) (fun c_129 => ?_)
    · refine lv_iconst (v := nI 0) hx hb dX4_makeWalks_136 (by decide) ?_
      refine wd_put (ci := 5) (v := .int (nI 0)) (ty := .boolean) (C := RX4) (T := TX4) (N := 21) hx hb hts iwX4 tyX4 tyX4_ok nmX4 hown hK.1 hP hS (by omega) (mW_0) rfl 13 (by decide) (hts _ (tg_tail _ tw_436)) (fun _ h9 => h9) rfl (by decide +kernel) (rfl) (rfl) (Nat.le_of_ble_eq_true rfl) dX4_makeWalks_137 (fun H locs hP hS hz => ?_)
      have hP : gP g (mW g w h rf nt np mo (nI 0) wr nr su pr ob ki fi se (tN (mw1 ki ii u a M sp qu 32).1) nd ii ((mw1 ki ii u a M sp qu 32).2.1) ((mw1 ki ii u a M sp qu 32).2.2.1) rF rT rD) H := by have h9 : gP g (wd_up (mW g w h rf nt np mo gb wr nr su pr ob ki fi se (tN (mw1 ki ii u a M sp qu 32).1) nd ii ((mw1 ki ii u a M sp qu 32).2.1) ((mw1 ki ii u a M sp qu 32).2.2.1) rF rT rD) h (.inr (5, [.int (rf), .ref (h + 1), .ref (h + 2), .ref (h + 3), .int (nt), .ref (h + 4), .ref (h + 5), .ref (h + 6), .int (np), .int (mo), .ref (h + 7), .ref (h + 8), .ref (h + 9), .int (nI 0), .ref (h + 10), .ref (h + 11), .int (wr), .int (nr), .ref (h + 12), .ref (h + 13), .ref (h + 14)]))) H := hP; rw [mW_s0] at h9; exact h9
      exact W.vret hx hb hr (fun t9 ht hW => ⟨⟨(mW g w h rf nt np mo (nI 0) wr nr su pr ob ki fi se (tN (mw1 ki ii u a M sp qu 32).1) nd ii ((mw1 ki ii u a M sp qu 32).2.1) ((mw1 ki ii u a M sp qu 32).2.2.1) rF rT rD), rfl, by rw [zB_f (fun q => q.elim (fun r => r c_121) (fun r => r c_129))], cB_of ht hP⟩, hS.F ht⟩) hS.2.2 dX4_makeWalks_140
    · refine lv_iconst (v := nI 1) hx hb dX4_makeWalks_132 (by decide) ?_
      refine lv_goto (tgt := 137) hx hb dX4_makeWalks_133 (by decide) ?_
      refine wd_put (ci := 5) (v := .int (nI 1)) (ty := .boolean) (C := RX4) (T := TX4) (N := 21) hx hb hts iwX4 tyX4 tyX4_ok nmX4 hown hK.1 hP hS (by omega) (mW_0) rfl 13 (by decide) (hts _ (tg_tail _ tw_436)) (fun _ h9 => h9) rfl (by decide +kernel) (rfl) (rfl) (Nat.le_of_ble_eq_true rfl) dX4_makeWalks_137 (fun H locs hP hS hz => ?_)
      have hP : gP g (mW g w h rf nt np mo (nI 1) wr nr su pr ob ki fi se (tN (mw1 ki ii u a M sp qu 32).1) nd ii ((mw1 ki ii u a M sp qu 32).2.1) ((mw1 ki ii u a M sp qu 32).2.2.1) rF rT rD) H := by have h9 : gP g (wd_up (mW g w h rf nt np mo gb wr nr su pr ob ki fi se (tN (mw1 ki ii u a M sp qu 32).1) nd ii ((mw1 ki ii u a M sp qu 32).2.1) ((mw1 ki ii u a M sp qu 32).2.2.1) rF rT rD) h (.inr (5, [.int (rf), .ref (h + 1), .ref (h + 2), .ref (h + 3), .int (nt), .ref (h + 4), .ref (h + 5), .ref (h + 6), .int (np), .int (mo), .ref (h + 7), .ref (h + 8), .ref (h + 9), .int (nI 1), .ref (h + 10), .ref (h + 11), .int (wr), .int (nr), .ref (h + 12), .ref (h + 13), .ref (h + 14)]))) H := hP; rw [mW_s0] at h9; exact h9
      exact W.vret hx hb hr (fun t9 ht hW => ⟨⟨(mW g w h rf nt np mo (nI 1) wr nr su pr ob ki fi se (tN (mw1 ki ii u a M sp qu 32).1) nd ii ((mw1 ki ii u a M sp qu 32).2.1) ((mw1 ki ii u a M sp qu 32).2.2.1) rF rT rD), rfl, by rw [zB_t (Or.inr c_129)], cB_of ht hP⟩, hS.F ht⟩) hS.2.2 dX4_makeWalks_140

set_option maxHeartbeats 4000000 in
set_option maxRecDepth 100000 in
theorem lp_mt0 {p : Program} {l : Launch} {e : Env} {R : Room} {s : State} {m : MethodId} {args : Array Value} {below : List Frame} {meth : Method} {c : Code} {Q : State → Prop} {H0 : Heap} {cells slots : Nat} (g : gX) (s0 : Nat) (w : wd_M) (h : Nat) (hs0 : s0 ≤ h) (rf nt np mo gb wr nr : Int32) (su pr ob ki fi se nd ii sp qu rF rT rD : Nat → Int32) (M : Nat → Nat) (u : Nat) (hu : u ≤ 40) (hx : p.tables.exec = Jvm.exec) (hb : c.code = cX4_makeTable) (hml : c.maxLocals = 4) (hown : s.vm.findClass RX4 = some m.cls) (hts : ∀ w ∈ Cond.code yX4_makeTable cX4_makeTable 4 (none) :: tg, w.before args s = true) (hK : gK g s) (h0s : s0 ≤ H0.size) (hRm : 3 ≤ R.frames ∧ 74 ≤ R.locals) (hcs : cells + 0 ≤ R.cells ∧ slots + 0 ≤ R.slots)  (kx : ∀ (H : Heap) (locs : List Loc) (ls : Array Slot), gP g (mW g w h rf nt np mo gb wr nr su pr ob ki fi se (tN (mt0 M u 1024)) nd ii sp qu rF rT rD) H → gS s0 H0 H locs → lv_has ls 4 [(0, .ref h), (1, .int (nI u)), (2, .int (nI 1024))] → W p l e R s m args below meth c H locs cells slots Q (F0 m 28 ls [])) :
    ∀ (n k : Nat), k ≤ 1024 → 1024 + 1 ≤ k + n → ∀ (H : Heap) (locs : List Loc) (ls : Array Slot), gP g (mW g w h rf nt np mo gb wr nr su pr ob ki fi se (tN (mt0 M u k)) nd ii sp qu rF rT rD) H → gS s0 H0 H locs → lv_has ls 4 [(0, .ref h), (1, .int (nI u)), (2, .int (nI k))] → W p l e R s m args below meth c H locs cells slots Q (F0 m 2 ls []) := by
  intro n
  induction n with
  | zero =>
    intro k h1 h2
    exact absurd h2 (by omega)
  | succ n ih =>
    intro k hi hin H locs ls hP hS hl
    refine lv_iload_n hx hb dX4_makeTable_2 rfl (lv_at hl 2 rfl) ?_
    refine lv_sipush (v := nI 1024) hx hb dX4_makeTable_3 (by decide +kernel) ?_
    refine lv_icmp_ge (tgt := 28) hx hb dX4_makeTable_6 (by decide) (fun c_6 => ?_) (fun c_6 => ?_)
    · have c_6 := (nI_leI (a := 1024) (b := k) (by omega) (by omega)).mp c_6
      have e9 : k = 1024 := by omega
      try rw [e9] at hP
      try rw [e9] at hl
      exact kx H locs ls hP hS (lv_sub hl [0, 1, 2] rfl)
    · have c_6 := mt (nI_leI (a := 1024) (b := k) (by omega) (by omega)).mpr c_6
      refine lv_aload_n hx hb dX4_makeTable_9 rfl (lv_at hl 0 rfl) ?_
      refine wd_get (ci := 5) (v := .ref (h + 7)) (C := RX4) (T := TX4) (N := 21) hx hb hts iwX4 hown hK.1 hP (mW_0) rfl 10 (by decide) (hts _ (tg_tail _ tw_433)) (fun _ h9 => h9) rfl dX4_makeTable_10 ?_
      refine lv_sipush (v := nI 1024) hx hb dX4_makeTable_13 (by decide +kernel) ?_
      refine lv_iload_n hx hb dX4_makeTable_16 rfl (lv_at hl 1 rfl) ?_
      refine lv_imul hx hb dX4_makeTable_17 ?_
      refine wd_ti (x' := nI (1024 * u)) (pk_mul _ _) ?_
      refine lv_iload_n hx hb dX4_makeTable_18 rfl (lv_at hl 2 rfl) ?_
      refine lv_iadd hx hb dX4_makeTable_19 ?_
      refine wd_ti (x' := nI ((1024 * u) + k)) (nI_add _ _) ?_
      refine lv_iconst (v := nI 0) hx hb dX4_makeTable_20 (by decide) ?_
      refine wd_istN hx hb hK.1 hP hS (by omega) 0 (k := ((1024 * u) + k)) (mW_7) rfl (by omega) (by decide) dX4_makeTable_21 (fun H locs hP hS hz => ?_)
      have hP : gP g (mW g w h rf nt np mo gb wr nr su pr ob ki fi se (upd (tN (mt0 M u k)) ((1024 * u) + k) (nI 0)) nd ii sp qu rF rT rD) H := by have h9 : gP g (wd_up (mW g w h rf nt np mo gb wr nr su pr ob ki fi se (tN (mt0 M u k)) nd ii sp qu rF rT rD) (h + 7) (wd_iA (g.2 0) 41984 (upd (tN (mt0 M u k)) ((1024 * u) + k) (nI 0)))) H := hP; rw [mW_s7] at h9; exact h9
      refine lv_iinc (v := nI (k + 1)) (lv' := [(2, .int (nI (k + 1))), (0, .ref h), (1, .int (nI u))]) hx hb dX4_makeTable_22 hl (k := 2) rfl (nI_1 _) (by decide) rfl (fun ls hl => ?_)
      refine lv_goto (tgt := 2) hx hb dX4_makeTable_25 (by decide) ?_
      have e8 : (mW g w h rf nt np mo gb wr nr su pr ob ki fi se (upd (tN (mt0 M u k)) ((1024 * u) + k) (nI 0)) nd ii sp qu rF rT rD) = (mW g w h rf nt np mo gb wr nr su pr ob ki fi se (tN (mt0 M u (k + 1))) nd ii sp qu rF rT rD) := by rw [mt0, tN_up]
      rw [e8] at hP
      have hl : lv_has ls 4 [(0, .ref h), (1, .int (nI u)), (2, .int (nI (k + 1)))] := lv_sub hl [1, 2, 0] rfl
      exact ih (k + 1) (by omega) (by omega) _ _ ls hP hS hl

set_option maxHeartbeats 4000000 in
set_option maxRecDepth 100000 in
theorem lp_jf2 {p : Program} {l : Launch} {e : Env} {R : Room} {s : State} {m : MethodId} {args : Array Value} {below : List Frame} {meth : Method} {c : Code} {Q : State → Prop} {H0 : Heap} {cells slots : Nat} (g : gX) (s0 : Nat) (w : wd_M) (h : Nat) (hs0 : s0 ≤ h) (rf nt np mo gb wr nr : Int32) (su pr ob ki fi se nd ii sp qu rF rT rD : Nat → Int32) (M : Nat → Nat) (hM9 : mB M) (u a b kd : Nat) (hu : u ≤ 40) (hkd : ki u = nI kd) (hk : kd = 1 ∨ kd = 2 ∨ kd = 3 ∨ kd = 6) (hfa : fi u = nI a ∧ a ≤ 40) (hfb : kd = 2 ∨ kd = 3 → se u = nI b ∧ b ≤ 40) (x : Nat) (hx1 : x < 32) (hx : p.tables.exec = Jvm.exec) (hb : c.code = cX4_makeTable) (hml : c.maxLocals = 4) (hown : s.vm.findClass RX4 = some m.cls) (hts : ∀ w ∈ Cond.code yX4_makeTable cX4_makeTable 4 (none) :: tg, w.before args s = true) (hK : gK g s) (h0s : s0 ≤ H0.size) (hRm : 3 ≤ R.frames ∧ 74 ≤ R.locals) (hcs : cells + 0 ≤ R.cells ∧ slots + 0 ≤ R.slots)  (kx : ∀ (H : Heap) (locs : List Loc) (ls : Array Slot), gP g (mW g w h rf nt np mo gb wr nr su pr ob ki fi se (tN (jf2 kd ii a b u x M 32)) nd ii sp qu rF rT rD) H → gS s0 H0 H locs → lv_has ls 4 [(0, .ref h), (1, .int (nI u)), (2, .int (nI x)), (3, .int (nI 32))] → W p l e R s m args below meth c H locs cells slots Q (F0 m 120 ls [])) :
    ∀ (n y : Nat), y ≤ 32 → 32 + 1 ≤ y + n → ∀ (H : Heap) (locs : List Loc) (ls : Array Slot), gP g (mW g w h rf nt np mo gb wr nr su pr ob ki fi se (tN (jf2 kd ii a b u x M y)) nd ii sp qu rF rT rD) H → gS s0 H0 H locs → lv_has ls 4 [(0, .ref h), (1, .int (nI u)), (2, .int (nI x)), (3, .int (nI y))] → W p l e R s m args below meth c H locs cells slots Q (F0 m 94 ls []) := by
  intro n
  induction n with
  | zero =>
    intro y h1 h2
    exact absurd h2 (by omega)
  | succ n ih =>
    intro y hi hin H locs ls hP hS hl
    refine lv_iload_n hx hb dX4_makeTable_94 rfl (lv_at hl 3 rfl) ?_
    refine lv_bipush (v := nI 32) hx hb dX4_makeTable_95 (by decide) ?_
    refine lv_icmp_ge (tgt := 120) hx hb dX4_makeTable_97 (by decide) (fun c_97 => ?_) (fun c_97 => ?_)
    · have c_97 := (nI_leI (a := 32) (b := y) (by omega) (by omega)).mp c_97
      have e9 : y = 32 := by omega
      try rw [e9] at hP
      try rw [e9] at hl
      exact kx H locs ls hP hS (lv_sub hl [0, 1, 2, 3] rfl)
    · have c_97 := mt (nI_leI (a := 32) (b := y) (by omega) (by omega)).mpr c_97
      refine lv_aload_n hx hb dX4_makeTable_100 rfl (lv_at hl 0 rfl) ?_
      refine lv_iload_n hx hb dX4_makeTable_101 rfl (lv_at hl 1 rfl) ?_
      refine lv_iload_n hx hb dX4_makeTable_102 rfl (lv_at hl 2 rfl) ?_
      refine lv_iload_n hx hb dX4_makeTable_103 rfl (lv_at hl 3 rfl) ?_
      refine lv_aload_n hx hb dX4_makeTable_104 rfl (lv_at hl 0 rfl) ?_
      refine lv_iload_n hx hb dX4_makeTable_105 rfl (lv_at hl 1 rfl) ?_
      refine lv_iload_n hx hb dX4_makeTable_106 rfl (lv_at hl 2 rfl) ?_
      refine lv_iload_n hx hb dX4_makeTable_107 rfl (lv_at hl 3 rfl) ?_
      refine cr_Vl (As := [.int (nI u), .int (nI x), .int (nI y)]) (rest := [.int (nI y), .int (nI x), .int (nI u), .ref h]) ⟨hx, hb, hml, hown, hts⟩ (c_X4_joined l g s0  w h hs0 rf nt np mo gb wr nr su pr ob ki fi se nd ii sp qu rF rT rD (jf2 kd ii a b u x M y) (jf2_B hM9 y) u a b x y kd hu (by omega) (by omega) hkd hk hfa hfb) (cw_V 3 hts tg_tail tw_574 tw_576 tp_32 tw_4 tw_577 rfl rfl (by decide +kernel) ⟨Nat.le_trans (by decide) hRm.1, Nat.le_trans (by decide) hRm.2⟩) hK hP h0s hS (mW_0) rfl rfl rfl hl.1 rfl (Nat.le_of_ble_eq_true rfl) dX4_makeTable_108 hcs (fun r9 w9 H locs hw hP hS => ?_)
      obtain ⟨e_r9, hw9⟩ := hw
      rw [hw9] at hP
      subst e_r9
      have hjn := jn_le (kd := kd) (ii := ii) (a := a) (b := b) (x := x) (y := y) (jf2_B (kd := kd) (ii := ii) (a := a) (b := b) (u := u) (x := x) hM9 y)
      refine cr_Vv (As := [.int (nI u), .int (nI x), .int (nI y), .long (lN (jn kd (jf2 kd ii a b u x M y) ii a b x y))]) (rest := []) ⟨hx, hb, hml, hown, hts⟩ (c_X4_put l g s0  w h hs0 rf nt np mo gb wr nr su pr ob ki fi se (tN (jf2 kd ii a b u x M y)) nd ii sp qu rF rT rD (u) (x) (y) (jn kd (jf2 kd ii a b u x M y) ii a b x y) (by omega) (by omega) (by omega) (by omega)) (cw_V 4 hts tg_tail tw_561 tw_563 tp_29 tw_4 tw_564 rfl rfl (by decide +kernel) ⟨Nat.le_trans (by decide) hRm.1, Nat.le_trans (by decide) hRm.2⟩) hK hP h0s hS (mW_0) rfl rfl rfl hl.1 rfl (Nat.le_of_ble_eq_true rfl) dX4_makeTable_111 hcs (fun w9 H locs hw hP hS => ?_)
      rw [hw, tN_up] at hP
      refine lv_iinc (v := nI (y + 1)) (lv' := [(3, .int (nI (y + 1))), (0, .ref h), (1, .int (nI u)), (2, .int (nI x))]) hx hb dX4_makeTable_114 hl (k := 3) rfl (nI_1 _) (by decide) rfl (fun ls hl => ?_)
      refine lv_goto (tgt := 94) hx hb dX4_makeTable_117 (by decide) ?_
      have e8 : (mW g w h rf nt np mo gb wr nr su pr ob ki fi se (tN (va_up ((jf2 kd ii a b u x M y)) (1024 * u + 32 * x + y) (min (jn kd (jf2 kd ii a b u x M y) ii a b x y) 1000000))) nd ii sp qu rF rT rD) = (mW g w h rf nt np mo gb wr nr su pr ob ki fi se (tN (jf2 kd ii a b u x M (y + 1))) nd ii sp qu rF rT rD) := by rw [jf2]
      rw [e8] at hP
      have hl : lv_has ls 4 [(0, .ref h), (1, .int (nI u)), (2, .int (nI x)), (3, .int (nI (y + 1)))] := lv_sub hl [1, 2, 3, 0] rfl
      exact ih (y + 1) (by omega) (by omega) _ _ ls hP hS hl

set_option maxHeartbeats 4000000 in
set_option maxRecDepth 100000 in
theorem lp_jf1 {p : Program} {l : Launch} {e : Env} {R : Room} {s : State} {m : MethodId} {args : Array Value} {below : List Frame} {meth : Method} {c : Code} {Q : State → Prop} {H0 : Heap} {cells slots : Nat} (g : gX) (s0 : Nat) (w : wd_M) (h : Nat) (hs0 : s0 ≤ h) (rf nt np mo gb wr nr : Int32) (su pr ob ki fi se nd ii sp qu rF rT rD : Nat → Int32) (M : Nat → Nat) (hM9 : mB M) (u a b kd : Nat) (hu : u ≤ 40) (hkd : ki u = nI kd) (hk : kd = 1 ∨ kd = 2 ∨ kd = 3 ∨ kd = 6) (hfa : fi u = nI a ∧ a ≤ 40) (hfb : kd = 2 ∨ kd = 3 → se u = nI b ∧ b ≤ 40)  (hx : p.tables.exec = Jvm.exec) (hb : c.code = cX4_makeTable) (hml : c.maxLocals = 4) (hown : s.vm.findClass RX4 = some m.cls) (hts : ∀ w ∈ Cond.code yX4_makeTable cX4_makeTable 4 (none) :: tg, w.before args s = true) (hK : gK g s) (h0s : s0 ≤ H0.size) (hRm : 3 ≤ R.frames ∧ 74 ≤ R.locals) (hcs : cells + 0 ≤ R.cells ∧ slots + 0 ≤ R.slots)  (kx : ∀ (H : Heap) (locs : List Loc) (ls : Array Slot), gP g (mW g w h rf nt np mo gb wr nr su pr ob ki fi se (tN (jf1 kd ii a b u M 32)) nd ii sp qu rF rT rD) H → gS s0 H0 H locs → lv_has ls 4 [(0, .ref h)] → W p l e R s m args below meth c H locs cells slots Q (F0 m 126 ls [])) :
    ∀ (n x : Nat), x ≤ 32 → 32 + 1 ≤ x + n → ∀ (H : Heap) (locs : List Loc) (ls : Array Slot), gP g (mW g w h rf nt np mo gb wr nr su pr ob ki fi se (tN (jf1 kd ii a b u M x)) nd ii sp qu rF rT rD) H → gS s0 H0 H locs → lv_has ls 4 [(0, .ref h), (1, .int (nI u)), (2, .int (nI x))] → W p l e R s m args below meth c H locs cells slots Q (F0 m 86 ls []) := by
  intro n
  induction n with
  | zero =>
    intro x h1 h2
    exact absurd h2 (by omega)
  | succ n ih =>
    intro x hi hin H locs ls hP hS hl
    refine lv_iload_n hx hb dX4_makeTable_86 rfl (lv_at hl 2 rfl) ?_
    refine lv_bipush (v := nI 32) hx hb dX4_makeTable_87 (by decide) ?_
    refine lv_icmp_ge (tgt := 126) hx hb dX4_makeTable_89 (by decide) (fun c_89 => ?_) (fun c_89 => ?_)
    · have c_89 := (nI_leI (a := 32) (b := x) (by omega) (by omega)).mp c_89
      have e9 : x = 32 := by omega
      try rw [e9] at hP
      try rw [e9] at hl
      exact kx H locs ls hP hS (lv_sub hl [0] rfl)
    · have c_89 := mt (nI_leI (a := 32) (b := x) (by omega) (by omega)).mpr c_89
      refine lv_iconst (v := nI 0) hx hb dX4_makeTable_92 (by decide) ?_
      refine lv_istore_n (lv' := [(3, .int (nI 0)), (0, .ref h), (1, .int (nI u)), (2, .int (nI x))]) hx hb dX4_makeTable_93 rfl hl (by decide) rfl (fun ls hl => ?_)
      have e8 : (mW g w h rf nt np mo gb wr nr su pr ob ki fi se (tN (jf1 kd ii a b u M x)) nd ii sp qu rF rT rD) = (mW g w h rf nt np mo gb wr nr su pr ob ki fi se (tN (jf2 kd ii a b u x ((jf1 kd ii a b u M x)) 0)) nd ii sp qu rF rT rD) := by rw [jf2]
      rw [e8] at hP
      have hl : lv_has ls 4 [(0, .ref h), (1, .int (nI u)), (2, .int (nI x)), (3, .int (nI 0))] := lv_sub hl [1, 2, 3, 0] rfl
      refine lp_jf2 g s0 w h hs0 rf nt np mo gb wr nr su pr ob ki fi se nd ii sp qu rF rT rD (jf1 kd ii a b u M x) (jf1_B hM9 x) u a b kd hu hkd hk hfa hfb x (by omega) hx hb hml hown hts hK h0s hRm hcs  ?_ (32 + 1) 0 (by omega) (by omega) _ _ ls hP hS hl
      intro H locs ls hP hS hl
      refine lv_iinc (v := nI (x + 1)) (lv' := [(2, .int (nI (x + 1))), (0, .ref h), (1, .int (nI u)), (3, .int (nI 32))]) hx hb dX4_makeTable_120 hl (k := 2) rfl (nI_1 _) (by decide) rfl (fun ls hl => ?_)
      refine lv_goto (tgt := 86) hx hb dX4_makeTable_123 (by decide) ?_
      have e8 : (mW g w h rf nt np mo gb wr nr su pr ob ki fi se (tN (jf2 kd ii a b u x ((jf1 kd ii a b u M x)) 32)) nd ii sp qu rF rT rD) = (mW g w h rf nt np mo gb wr nr su pr ob ki fi se (tN (jf1 kd ii a b u M (x + 1))) nd ii sp qu rF rT rD) := by rw [jf1]
      rw [e8] at hP
      have hl : lv_has ls 4 [(0, .ref h), (1, .int (nI u)), (2, .int (nI (x + 1)))] := lv_sub hl [1, 2, 0] rfl
      exact ih (x + 1) (by omega) (by omega) _ _ ls hP hS hl

set_option maxHeartbeats 4000000 in
set_option maxRecDepth 100000 in
theorem c_X4_makeTable (l : Launch) (g : gX) (s0 : Nat) (w : wd_M) (h : Nat) (hs0 : s0 ≤ h) (rf np mo gb wr nr : Int32) (su pr ob ki fi se nd ii sp qu rF rT rD : Nat → Int32) (T : Nat) (hT : T ≤ 150) (S O : Nat → Nat) (hS9 : ∀ k, k < T → su k = nI (S k) ∧ S k < 32) (hO9 : ∀ k, k < T → ob k = nI (O k) ∧ O k < 32) (M : Nat → Nat) (hM9 : mB M) (u a b kd : Nat) (hu : u ≤ 40) (hkd : ki u = nI kd) (hk : kd ≤ 7) (hfa : 1 ≤ kd → kd ≤ 6 → fi u = nI a ∧ a ≤ 40) (hfb : kd = 2 ∨ kd = 3 → se u = nI b ∧ b ≤ 40)  : Met l yX4_makeTable (Cond.code yX4_makeTable cX4_makeTable 4 (none) :: tg) ({ frames := 3, cells := 0, slots := 0, locals := 74 }) (cP g s0 (mW g w h rf (nI T) np mo gb wr nr su pr ob ki fi se (tN M) nd ii sp qu rF rT rD) [.ref h, .int (nI u)]) (cV g s0 (fun w' => w' = (mW g w h rf (nI T) np mo ((mkT ki fi se pr ii S O T mo kd u a b (M, sp, qu, gb)).2.2.2) wr nr su pr ob ki fi se (tN (mkT ki fi se pr ii S O T mo kd u a b (M, sp, qu, gb)).1) nd ii ((mkT ki fi se pr ii S O T mo kd u a b (M, sp, qu, gb)).2.1) ((mkT ki fi se pr ii S O T mo kd u a b (M, sp, qu, gb)).2.2.1) rF rT rD))) 0 0 (cA s0) := by
  refine Met.ofW (cc := cX4_makeTable) (maxL := 4) (ret := none) (by decide) rfl ?_
  intro p e s m args below meth c s₁ B9 hml hv
  obtain ⟨rfl, h0s, hP, hK⟩ := hv
  have hx := B9.exec
  have hb := B9.bytes
  have hr := B9.returns
  have hts := atoms_spec (ws := Cond.code yX4_makeTable cX4_makeTable 4 (none) :: tg) B9.pre
  have hown : s.vm.findClass RX4 = some m.cls := findClass_of_methodNamed B9.named
  have hlocks := B9.notSynchronized
  have hS : gS s0 s.heap s.heap [] := va_S.rf
  have hRm : 3 ≤ (headSpec (Cond.code yX4_makeTable cX4_makeTable 4 (none) :: tg) ({ frames := 3, cells := 0, slots := 0, locals := 74 })).room.frames ∧ 74 ≤ (headSpec (Cond.code yX4_makeTable cX4_makeTable 4 (none) :: tg) ({ frames := 3, cells := 0, slots := 0, locals := 74 })).room.locals := ⟨Nat.le_refl _, Nat.le_refl _⟩
  have hcs : 0 + 0 ≤ (headSpec (Cond.code yX4_makeTable cX4_makeTable 4 (none) :: tg) ({ frames := 3, cells := 0, slots := 0, locals := 74 })).room.cells ∧ 0 + 0 ≤ (headSpec (Cond.code yX4_makeTable cX4_makeTable 4 (none) :: tg) ({ frames := 3, cells := 0, slots := 0, locals := 74 })).room.slots := ⟨Nat.zero_le _, Nat.zero_le _⟩
  have hl := lv_entry ([.ref h, .int (nI u)]) (n := 4) (Nat.le_of_ble_eq_true rfl)
  rw [lg_entry_eq]
  generalize (lg_sl ([.ref h, .int (nI u)]) ++ List.replicate (4 - (lg_sl ([.ref h, .int (nI u)])).length) Slot.unset).toArray = ls at hl ⊢
  have hl : lv_has ls 4 [(0, .ref h), (1, .int (nI u))] := hl
  refine lv_iconst (v := nI 0) hx hb dX4_makeTable_0 (by decide) ?_
  refine lv_istore_n (lv' := [(2, .int (nI 0)), (0, .ref h), (1, .int (nI u))]) hx hb dX4_makeTable_1 rfl hl (by decide) rfl (fun ls hl => ?_)
  have e8 : (mW g w h rf (nI T) np mo gb wr nr su pr ob ki fi se (tN M) nd ii sp qu rF rT rD) = (mW g w h rf (nI T) np mo gb wr nr su pr ob ki fi se (tN (mt0 M u 0)) nd ii sp qu rF rT rD) := by rw [mt0]
  rw [e8] at hP
  have hl : lv_has ls 4 [(0, .ref h), (1, .int (nI u)), (2, .int (nI 0))] := lv_sub hl [1, 2, 0] rfl
  refine lp_mt0 g s0 w h hs0 rf (nI T) np mo gb wr nr su pr ob ki fi se nd ii sp qu rF rT rD M u hu hx hb hml hown hts hK h0s hRm hcs  ?_ (1024 + 1) 0 (by omega) (by omega) _ _ ls hP hS hl
  intro H locs ls hP hS hl
  refine lv_aload_n hx hb dX4_makeTable_28 rfl (lv_at hl 0 rfl) ?_
  refine wd_get (ci := 5) (v := .ref (h + 4)) (C := RX4) (T := TX4) (N := 21) hx hb hts iwX4 hown hK.1 hP (mW_0) rfl 5 (by decide) (hts _ (tg_tail _ tw_428)) (fun _ h9 => h9) rfl dX4_makeTable_29 ?_
  refine lv_iload_n hx hb dX4_makeTable_32 rfl (lv_at hl 1 rfl) ?_
  refine wd_ildN hx hb hK.1 hP 0 (k := u) (mW_4) rfl (by omega) (by decide) dX4_makeTable_33 ?_
  refine wd_ti (x' := nI kd) (hkd) ?_
  refine lv_if_eq (tgt := 48) hx hb dX4_makeTable_34 (by decide) (fun c_34 => ?_) (fun c_34 => ?_)
  · have c_34 := (nI_eq (a := kd) (b := 0) (by omega) (by omega)).mp (show nI kd = nI 0 from c_34)
    refine lv_aload_n hx hb dX4_makeTable_48 rfl (lv_at hl 0 rfl) ?_
    refine lv_iload_n hx hb dX4_makeTable_49 rfl (lv_at hl 1 rfl) ?_
    refine cr_Vv (As := [.int (nI u)]) (rest := []) ⟨hx, hb, hml, hown, hts⟩ (c_X4_makeLinks l g s0  w h hs0 rf np mo gb wr nr su pr ob ki fi se nd ii sp qu rF rT rD T hT S O hS9 hO9 (mt0 M u 1024) (mt0_B hM9 1024) u hu) (cw_V 1 hts tg_tail tw_553 tw_555 tp_27 tw_4 tw_556 rfl rfl (by decide +kernel) ⟨Nat.le_trans (by decide) hRm.1, Nat.le_trans (by decide) hRm.2⟩) hK hP h0s hS (mW_0) rfl rfl rfl hl.1 rfl (Nat.le_of_ble_eq_true rfl) dX4_makeTable_50 hcs (fun w9 H locs hw hP hS => ?_)
    rw [hw] at hP
    refine lv_goto (tgt := 126) hx hb dX4_makeTable_53 (by decide) ?_
    exact W.vret hx hb hr (fun t9 ht hW => ⟨⟨(mW g w h rf (nI T) np mo gb wr nr su pr ob ki fi se (tN (ml ki fi se pr S O u (mt0 M u 1024) T)) nd ii sp qu rF rT rD), rfl, by rw [mkT, if_pos (by omega)], cB_of ht hP⟩, hS.F ht⟩) hS.2.2 dX4_makeTable_126
  · have c_34 := mt (nI_eq (a := kd) (b := 0) (by omega) (by omega)).mpr (show ¬ (nI kd = nI 0) from c_34)
    refine lv_aload_n hx hb dX4_makeTable_37 rfl (lv_at hl 0 rfl) ?_
    refine wd_get (ci := 5) (v := .ref (h + 4)) (C := RX4) (T := TX4) (N := 21) hx hb hts iwX4 hown hK.1 hP (mW_0) rfl 5 (by decide) (hts _ (tg_tail _ tw_428)) (fun _ h9 => h9) rfl dX4_makeTable_38 ?_
    refine lv_iload_n hx hb dX4_makeTable_41 rfl (lv_at hl 1 rfl) ?_
    refine wd_ildN hx hb hK.1 hP 0 (k := u) (mW_4) rfl (by omega) (by decide) dX4_makeTable_42 ?_
    refine wd_ti (x' := nI kd) (hkd) ?_
    refine lv_bipush (v := nI 7) hx hb dX4_makeTable_43 (by decide) ?_
    refine lv_icmp_ne (tgt := 56) hx hb dX4_makeTable_45 (by decide) (fun c_45 => ?_) (fun c_45 => ?_)
    · have c_45 := mt (nI_eq (a := kd) (b := 7) (by omega) (by omega)).mpr c_45
      refine lv_aload_n hx hb dX4_makeTable_56 rfl (lv_at hl 0 rfl) ?_
      refine wd_get (ci := 5) (v := .ref (h + 4)) (C := RX4) (T := TX4) (N := 21) hx hb hts iwX4 hown hK.1 hP (mW_0) rfl 5 (by decide) (hts _ (tg_tail _ tw_428)) (fun _ h9 => h9) rfl dX4_makeTable_57 ?_
      refine lv_iload_n hx hb dX4_makeTable_60 rfl (lv_at hl 1 rfl) ?_
      refine wd_ildN hx hb hK.1 hP 0 (k := u) (mW_4) rfl (by omega) (by decide) dX4_makeTable_61 ?_
      refine wd_ti (x' := nI kd) (hkd) ?_
      refine lv_iconst (v := nI 4) hx hb dX4_makeTable_62 (by decide) ?_
      refine lv_icmp_eq (tgt := 76) hx hb dX4_makeTable_63 (by decide) (fun c_63 => ?_) (fun c_63 => ?_)
      · have c_63 := (nI_eq (a := kd) (b := 4) (by omega) (by omega)).mp c_63
        refine lv_aload_n hx hb dX4_makeTable_76 rfl (lv_at hl 0 rfl) ?_
        refine lv_iload_n hx hb dX4_makeTable_77 rfl (lv_at hl 1 rfl) ?_
        refine cr_Vv (As := [.int (nI u)]) (rest := []) ⟨hx, hb, hml, hown, hts⟩ (c_X4_makeWalks l g s0  w h hs0 rf (nI T) np mo gb wr nr su pr ob ki fi se nd ii sp qu rF rT rD (mt0 M u 1024) (mt0_B hM9 1024) u a hu (hfa (by omega) (by omega))) (cw_V 1 hts tg_tail tw_566 tw_568 tp_30 tw_4 tw_569 rfl rfl (by decide +kernel) ⟨Nat.le_trans (by decide) hRm.1, Nat.le_trans (by decide) hRm.2⟩) hK hP h0s hS (mW_0) rfl rfl rfl hl.1 rfl (Nat.le_of_ble_eq_true rfl) dX4_makeTable_78 hcs (fun w9 H locs hw hP hS => ?_)
        rw [hw] at hP
        refine lv_goto (tgt := 126) hx hb dX4_makeTable_81 (by decide) ?_
        exact W.vret hx hb hr (fun t9 ht hW => ⟨⟨(mW g w h rf (nI T) np mo (zB (¬ gb = 0 ∨ ¬ nI (mw1 ki ii u a (mt0 M u 1024) sp qu 32).2.2.2 ≤ mo)) wr nr su pr ob ki fi se (tN (mw1 ki ii u a (mt0 M u 1024) sp qu 32).1) nd ii ((mw1 ki ii u a (mt0 M u 1024) sp qu 32).2.1) ((mw1 ki ii u a (mt0 M u 1024) sp qu 32).2.2.1) rF rT rD), rfl, by rw [mkT, if_neg (by omega), if_pos (by omega)], cB_of ht hP⟩, hS.F ht⟩) hS.2.2 dX4_makeTable_126
      · have c_63 := mt (nI_eq (a := kd) (b := 4) (by omega) (by omega)).mpr c_63
        refine lv_aload_n hx hb dX4_makeTable_66 rfl (lv_at hl 0 rfl) ?_
        refine wd_get (ci := 5) (v := .ref (h + 4)) (C := RX4) (T := TX4) (N := 21) hx hb hts iwX4 hown hK.1 hP (mW_0) rfl 5 (by decide) (hts _ (tg_tail _ tw_428)) (fun _ h9 => h9) rfl dX4_makeTable_67 ?_
        refine lv_iload_n hx hb dX4_makeTable_70 rfl (lv_at hl 1 rfl) ?_
        refine wd_ildN hx hb hK.1 hP 0 (k := u) (mW_4) rfl (by omega) (by decide) dX4_makeTable_71 ?_
        refine wd_ti (x' := nI kd) (hkd) ?_
        refine lv_iconst (v := nI 5) hx hb dX4_makeTable_72 (by decide) ?_
        refine lv_icmp_ne (tgt := 84) hx hb dX4_makeTable_73 (by decide) (fun c_73 => ?_) (fun c_73 => ?_)
        · have c_73 := mt (nI_eq (a := kd) (b := 5) (by omega) (by omega)).mpr c_73
          refine lv_iconst (v := nI 0) hx hb dX4_makeTable_84 (by decide) ?_
          refine lv_istore_n (lv' := [(2, .int (nI 0)), (0, .ref h), (1, .int (nI u))]) hx hb dX4_makeTable_85 rfl hl (by decide) rfl (fun ls hl => ?_)
          have e8 : (mW g w h rf (nI T) np mo gb wr nr su pr ob ki fi se (tN (mt0 M u 1024)) nd ii sp qu rF rT rD) = (mW g w h rf (nI T) np mo gb wr nr su pr ob ki fi se (tN (jf1 kd ii a b u (mt0 M u 1024) 0)) nd ii sp qu rF rT rD) := by rw [jf1]
          rw [e8] at hP
          have hl : lv_has ls 4 [(0, .ref h), (1, .int (nI u)), (2, .int (nI 0))] := lv_sub hl [1, 2, 0] rfl
          refine lp_jf1 g s0 w h hs0 rf (nI T) np mo gb wr nr su pr ob ki fi se nd ii sp qu rF rT rD (mt0 M u 1024) (mt0_B hM9 1024) u a b kd hu hkd (by omega) (hfa (by omega) (by omega)) hfb hx hb hml hown hts hK h0s hRm hcs  ?_ (32 + 1) 0 (by omega) (by omega) _ _ ls hP hS hl
          intro H locs ls hP hS hl
          exact W.vret hx hb hr (fun t9 ht hW => ⟨⟨(mW g w h rf (nI T) np mo gb wr nr su pr ob ki fi se (tN (jf1 kd ii a b u (mt0 M u 1024) 32)) nd ii sp qu rF rT rD), rfl, by rw [mkT, if_neg (by omega), if_neg (by omega)], cB_of ht hP⟩, hS.F ht⟩) hS.2.2 dX4_makeTable_126
        · have c_73 := (nI_eq (a := kd) (b := 5) (by omega) (by omega)).mp c_73
          refine lv_aload_n hx hb dX4_makeTable_76 rfl (lv_at hl 0 rfl) ?_
          refine lv_iload_n hx hb dX4_makeTable_77 rfl (lv_at hl 1 rfl) ?_
          refine cr_Vv (As := [.int (nI u)]) (rest := []) ⟨hx, hb, hml, hown, hts⟩ (c_X4_makeWalks l g s0  w h hs0 rf (nI T) np mo gb wr nr su pr ob ki fi se nd ii sp qu rF rT rD (mt0 M u 1024) (mt0_B hM9 1024) u a hu (hfa (by omega) (by omega))) (cw_V 1 hts tg_tail tw_566 tw_568 tp_30 tw_4 tw_569 rfl rfl (by decide +kernel) ⟨Nat.le_trans (by decide) hRm.1, Nat.le_trans (by decide) hRm.2⟩) hK hP h0s hS (mW_0) rfl rfl rfl hl.1 rfl (Nat.le_of_ble_eq_true rfl) dX4_makeTable_78 hcs (fun w9 H locs hw hP hS => ?_)
          rw [hw] at hP
          refine lv_goto (tgt := 126) hx hb dX4_makeTable_81 (by decide) ?_
          exact W.vret hx hb hr (fun t9 ht hW => ⟨⟨(mW g w h rf (nI T) np mo (zB (¬ gb = 0 ∨ ¬ nI (mw1 ki ii u a (mt0 M u 1024) sp qu 32).2.2.2 ≤ mo)) wr nr su pr ob ki fi se (tN (mw1 ki ii u a (mt0 M u 1024) sp qu 32).1) nd ii ((mw1 ki ii u a (mt0 M u 1024) sp qu 32).2.1) ((mw1 ki ii u a (mt0 M u 1024) sp qu 32).2.2.1) rF rT rD), rfl, by rw [mkT, if_neg (by omega), if_pos (by omega)], cB_of ht hP⟩, hS.F ht⟩) hS.2.2 dX4_makeTable_126
    · have c_45 := (nI_eq (a := kd) (b := 7) (by omega) (by omega)).mp c_45
      refine lv_aload_n hx hb dX4_makeTable_48 rfl (lv_at hl 0 rfl) ?_
      refine lv_iload_n hx hb dX4_makeTable_49 rfl (lv_at hl 1 rfl) ?_
      refine cr_Vv (As := [.int (nI u)]) (rest := []) ⟨hx, hb, hml, hown, hts⟩ (c_X4_makeLinks l g s0  w h hs0 rf np mo gb wr nr su pr ob ki fi se nd ii sp qu rF rT rD T hT S O hS9 hO9 (mt0 M u 1024) (mt0_B hM9 1024) u hu) (cw_V 1 hts tg_tail tw_553 tw_555 tp_27 tw_4 tw_556 rfl rfl (by decide +kernel) ⟨Nat.le_trans (by decide) hRm.1, Nat.le_trans (by decide) hRm.2⟩) hK hP h0s hS (mW_0) rfl rfl rfl hl.1 rfl (Nat.le_of_ble_eq_true rfl) dX4_makeTable_50 hcs (fun w9 H locs hw hP hS => ?_)
      rw [hw] at hP
      refine lv_goto (tgt := 126) hx hb dX4_makeTable_53 (by decide) ?_
      exact W.vret hx hb hr (fun t9 ht hW => ⟨⟨(mW g w h rf (nI T) np mo gb wr nr su pr ob ki fi se (tN (ml ki fi se pr S O u (mt0 M u 1024) T)) nd ii sp qu rF rT rD), rfl, by rw [mkT, if_pos (by omega)], cB_of ht hP⟩, hS.F ht⟩) hS.2.2 dX4_makeTable_126

