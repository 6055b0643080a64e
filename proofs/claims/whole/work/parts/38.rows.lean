/-! THE CLASS: keepRows, run, plain -/
set_option maxHeartbeats 4000000 in
set_option maxRecDepth 100000 in
theorem lp_kr2 {p : Program} {l : Launch} {e : Env} {R : Room} {s : State} {m : MethodId} {args : Array Value} {below : List Frame} {meth : Method} {c : Code} {Q : State → Prop} {H0 : Heap} {cells slots : Nat} (g : gX) (s0 : Nat) (w : wd_M) (x : Nat) (hs0 : s0 ≤ x) (mo : Int32) (no : Int32) (wr : Int32) (lk : Nat → Int32) (ps : Nat → Option Nat) (lv : Nat → Int32) (t : rT) (P : Nat) (hP4 : P ≤ 40) (Z : Nat) (qa : Nat → Nat) (KD LI : Nat → Int32) (ia ib PM : Nat → Nat) (hsh : shp P qa ia ib PM) (CS CG : Nat → Int32) (TF : Nat → Nat → Nat) (JF : Nat → Nat → Int32) (hpl : poolN g w x P ps qa KD LI ia ib PM CS CG TF JF) (a : Nat) (ha1 : 1 ≤ a) (haP : a ≤ P) (sv ov : Int32) (sl sh ol oh : Nat) (hs1 : (if sv = -1 then nI 0 else sv) = nI sl) (hs2 : (if sv = -1 then nI 31 else sv) = nI sh) (hs3 : sl ≤ sh + 1) (hs4 : sh < 32) (ho1 : (if ov = -1 then nI 0 else ov) = nI ol) (ho2 : (if ov = -1 then nI 31 else ov) = nI oh) (ho3 : ol ≤ oh + 1) (ho4 : oh < 32) (x1 : Nat) (hx1 : x1 < 32) (hbd : bw2 (TF a) x1 ol t.2.2.2 (oh + 1 - ol) ≤ 2000) (hx : p.tables.exec = Jvm.exec) (hb : c.code = cX3_keepRows) (hml : c.maxLocals = 6) (hown : s.vm.findClass RX3 = some m.cls) (hts : ∀ w ∈ Cond.code yX3_keepRows cX3_keepRows 6 (none) :: tg, w.before args s = true) (hK : gK g s) (h0s : s0 ≤ H0.size) (hRm : 3 ≤ R.frames ∧ 71 ≤ R.locals) (hcs : cells + 0 ≤ R.cells ∧ slots + 0 ≤ R.slots)  (kx : ∀ (H : Heap) (locs : List Loc) (ls : Array Slot), gP g (xW g w x (nI P) mo no (nI Z) (nI ((kr2 (TF a) lv x1 ol t (oh + 1 - ol)).2.2.2)) wr lk ps ((kr2 (TF a) lv x1 ol t (oh + 1 - ol)).1) ((kr2 (TF a) lv x1 ol t (oh + 1 - ol)).2.1) ((kr2 (TF a) lv x1 ol t (oh + 1 - ol)).2.2.1) lv) H → gS s0 H0 H locs → lv_has ls 6 [(0, .ref x), (1, .ref (qa a)), (2, .int (sv)), (3, .int (ov)), (4, .int (nI x1))] → W p l e R s m args below meth c H locs cells slots Q (F0 m 89 ls [])) :
    ∀ (n i : Nat), i ≤ (oh + 1 - ol) → (oh + 1 - ol) + 1 ≤ i + n → ∀ (H : Heap) (locs : List Loc) (ls : Array Slot), gP g (xW g w x (nI P) mo no (nI Z) (nI ((kr2 (TF a) lv x1 ol t i).2.2.2)) wr lk ps ((kr2 (TF a) lv x1 ol t i).1) ((kr2 (TF a) lv x1 ol t i).2.1) ((kr2 (TF a) lv x1 ol t i).2.2.1) lv) H → gS s0 H0 H locs → lv_has ls 6 [(0, .ref x), (1, .ref (qa a)), (2, .int (sv)), (3, .int (ov)), (4, .int (nI x1)), (5, .int (nI (ol + i)))] → W p l e R s m args below meth c H locs cells slots Q (F0 m 48 ls []) := by
  intro n
  induction n with
  | zero =>
    intro i h1 h2
    exact absurd h2 (by omega)
  | succ n ih =>
    intro i hi hin H locs ls hP hS hl
    have hI : poolN g w x P ps qa KD LI ia ib PM CS CG TF JF ∧ True := ⟨hpl, trivial⟩
    obtain ⟨a1_a, a2_a, a3_a, a4_a, a5_a, a6_a⟩ := hI.1 a ha1 haP
    dsimp only at a4_a
    refine lv_iload hx hb dX3_keepRows_48 (lv_at hl 5 rfl) ?_
    refine lv_iload_n hx hb dX3_keepRows_50 rfl (lv_at hl 3 rfl) ?_
    refine cr_Si (As := [.int (ov)]) (rest := [.int (nI (ol + i))]) ⟨hx, hb, hml, hown, hts⟩ (c_X3_highest l g s0 (xW g w x (nI P) mo no (nI Z) (nI ((kr2 (TF a) lv x1 ol t i).2.2.2)) wr lk ps ((kr2 (TF a) lv x1 ol t i).1) ((kr2 (TF a) lv x1 ol t i).2.1) ((kr2 (TF a) lv x1 ol t i).2.2.1) lv) ov) (cw_S 1 hts tg_tail tw_295 tw_284 tw_1 tw_285 rfl rfl (by decide +kernel) ⟨Nat.le_trans (by decide) hRm.1, Nat.le_trans (by decide) hRm.2⟩) hK hP h0s hS rfl hl.1 rfl (Nat.le_of_ble_eq_true rfl) dX3_keepRows_51 hcs (fun r9 w9 H locs hw hP hS => ?_)
    obtain ⟨e_r9, hw9⟩ := hw
    rw [hw9] at hP
    rw [ho2] at e_r9
    subst e_r9
    refine lv_icmp_gt (tgt := 89) hx hb dX3_keepRows_54 (by decide) (fun c_54 => ?_) (fun c_54 => ?_)
    · have c_54 := (nI_ltI (a := oh) (b := (ol + i)) (by omega) (by omega)).mp c_54
      have e9 : i = (oh + 1 - ol) := by omega
      try rw [e9] at hP
      try rw [e9] at hl
      exact kx H locs ls hP hS (lv_sub hl [0, 1, 2, 3, 4] rfl)
    · have c_54 := mt (nI_ltI (a := oh) (b := (ol + i)) (by omega) (by omega)).mpr c_54
      refine lv_aload_n hx hb dX3_keepRows_57 rfl (lv_at hl 0 rfl) ?_
      refine wd_get (ci := 4) (v := .ref (x + 4)) (C := RX3) (T := TX3) (N := 6) hx hb hts iwX3 hown hK.1 hP (xW_0) rfl 2 (by decide) (hts _ (tg_tail _ tw_71)) (fun _ h9 => h9) rfl dX3_keepRows_58 ?_
      refine lv_iload hx hb dX3_keepRows_61 (lv_at hl 4 rfl) ?_
      refine lv_iload hx hb dX3_keepRows_63 (lv_at hl 5 rfl) ?_
      refine lv_aload_n hx hb dX3_keepRows_65 rfl (lv_at hl 0 rfl) ?_
      refine wd_get (ci := 4) (v := .ref (x + 8)) (C := RX3) (T := TX3) (N := 6) hx hb hts iwX3 hown hK.1 hP (xW_0) rfl 3 (by decide) (hts _ (tg_tail _ tw_72)) (fun _ h9 => h9) rfl dX3_keepRows_66 ?_
      refine lv_iload hx hb dX3_keepRows_69 (lv_at hl 5 rfl) ?_
      refine wd_ildN hx hb hK.1 hP 0 (k := (ol + i)) (xW_8) rfl (by omega) (by decide) dX3_keepRows_71 ?_
      refine lv_aload_n hx hb dX3_keepRows_72 rfl (lv_at hl 1 rfl) ?_
      refine lv_iload hx hb dX3_keepRows_73 (lv_at hl 4 rfl) ?_
      refine lv_iload hx hb dX3_keepRows_75 (lv_at hl 5 rfl) ?_
      refine cr_Vi (As := [.int (nI x1), .int (nI (ol + i))]) (rest := [.int (lv (ol + i)), .int (nI (ol + i)), .int (nI x1), .ref (x + 4)]) ⟨hx, hb, hml, hown, hts⟩ (c_X0_timesOf l g s0 (xW g w x (nI P) mo no (nI Z) (nI ((kr2 (TF a) lv x1 ol t i).2.2.2)) wr lk ps ((kr2 (TF a) lv x1 ol t i).1) ((kr2 (TF a) lv x1 ol t i).2.1) ((kr2 (TF a) lv x1 ol t i).2.2.1) lv) (qa a) (qa a + 1) (qa a + 2) (nI a) (KD a) (LI a) (oN qa (ia a)) (oN qa (ib a)) (lN (PM a)) (CS a) (CG a) ((xW_out (by omega)).trans a4_a) (tN (TF a)) ((xW_out (by omega)).trans a5_a) x1 (ol + i) (by omega) (by omega)) (cw_V 2 hts tg_tail tw_303 tw_227 tw_228 tw_5 tw_229 rfl rfl (by decide +kernel) ⟨Nat.le_trans (by decide) hRm.1, Nat.le_trans (by decide) hRm.2⟩) hK hP h0s hS ((xW_out (by omega)).trans a4_a) rfl rfl rfl hl.1 rfl (Nat.le_of_ble_eq_true rfl) dX3_keepRows_77 hcs (fun r9 w9 H locs hw hP hS => ?_)
      obtain ⟨e_r9, hw9⟩ := hw
      rw [hw9] at hP
      subst e_r9
      refine wd_ti (x' := nI (TF a (x1 * 32 + (ol + i)))) (rfl) ?_
      have hb9 := kr_b2 (lv := lv) (i := i) hbd (by omega)
      refine cr_Vv (As := [.int (nI x1), .int (nI (ol + i)), .int (lv (ol + i)), .int (nI (TF a (x1 * 32 + (ol + i))))]) (rest := []) ⟨hx, hb, hml, hown, hts⟩ (c_X1_add l g s0  w x hs0 (nI P) mo no (nI Z) wr lk ps lv x1 (ol + i) (TF a (x1 * 32 + (ol + i))) (lv (ol + i)) (kr2 (TF a) lv x1 ol t i) hb9 (by omega)) (cw_V 4 hts tg_tail tw_304 tw_305 tw_306 tw_3 tw_307 rfl rfl (by decide +kernel) ⟨Nat.le_trans (by decide) hRm.1, Nat.le_trans (by decide) hRm.2⟩) hK hP h0s hS (xW_4) rfl rfl rfl hl.1 rfl (Nat.le_of_ble_eq_true rfl) dX3_keepRows_80 hcs (fun w9 H locs hw hP hS => ?_)
      rw [hw] at hP
      refine lv_iinc (v := nI (ol + i + 1)) (lv' := [(5, .int (nI (ol + i + 1))), (0, .ref x), (1, .ref (qa a)), (2, .int (sv)), (3, .int (ov)), (4, .int (nI x1))]) hx hb dX3_keepRows_83 hl (k := 5) rfl (nI_1 _) (by decide) rfl (fun ls hl => ?_)
      refine lv_goto (tgt := 48) hx hb dX3_keepRows_86 (by decide) ?_
      have e8 : (xW g w x (nI P) mo no (nI Z) (nI ((rk x1 (ol + i) (lv (ol + i)) (kr2 (TF a) lv x1 ol t i) (TF a (x1 * 32 + (ol + i)))).2.2.2)) wr lk ps ((rk x1 (ol + i) (lv (ol + i)) (kr2 (TF a) lv x1 ol t i) (TF a (x1 * 32 + (ol + i)))).1) ((rk x1 (ol + i) (lv (ol + i)) (kr2 (TF a) lv x1 ol t i) (TF a (x1 * 32 + (ol + i)))).2.1) ((rk x1 (ol + i) (lv (ol + i)) (kr2 (TF a) lv x1 ol t i) (TF a (x1 * 32 + (ol + i)))).2.2.1) lv) = (xW g w x (nI P) mo no (nI Z) (nI ((kr2 (TF a) lv x1 ol t (i + 1)).2.2.2)) wr lk ps ((kr2 (TF a) lv x1 ol t (i + 1)).1) ((kr2 (TF a) lv x1 ol t (i + 1)).2.1) ((kr2 (TF a) lv x1 ol t (i + 1)).2.2.1) lv) := by rw [kr2]
      rw [e8] at hP
      have hl : lv_has ls 6 [(0, .ref x), (1, .ref (qa a)), (2, .int (sv)), (3, .int (ov)), (4, .int (nI x1)), (5, .int (nI (ol + i + 1)))] := lv_sub hl [1, 2, 3, 4, 5, 0] rfl
      have e8 : ([(0, .ref x), (1, .ref (qa a)), (2, .int (sv)), (3, .int (ov)), (4, .int (nI x1)), (5, .int (nI (ol + i + 1)))] : List (Nat × Value)) = [(0, .ref x), (1, .ref (qa a)), (2, .int (sv)), (3, .int (ov)), (4, .int (nI x1)), (5, .int (nI (ol + (i + 1))))] := by rfl
      rw [e8] at hl
      exact ih (i + 1) (by omega) (by omega) _ _ ls hP hS hl

set_option maxHeartbeats 4000000 in
set_option maxRecDepth 100000 in
theorem lp_kr1 {p : Program} {l : Launch} {e : Env} {R : Room} {s : State} {m : MethodId} {args : Array Value} {below : List Frame} {meth : Method} {c : Code} {Q : State → Prop} {H0 : Heap} {cells slots : Nat} (g : gX) (s0 : Nat) (w : wd_M) (x : Nat) (hs0 : s0 ≤ x) (mo : Int32) (no : Int32) (wr : Int32) (lk : Nat → Int32) (ps : Nat → Option Nat) (lv : Nat → Int32) (t : rT) (ht0 : t.2.2.2 = 0) (P : Nat) (hP4 : P ≤ 40) (Z : Nat) (qa : Nat → Nat) (KD LI : Nat → Int32) (ia ib PM : Nat → Nat) (hsh : shp P qa ia ib PM) (CS CG : Nat → Int32) (TF : Nat → Nat → Nat) (JF : Nat → Nat → Int32) (hpl : poolN g w x P ps qa KD LI ia ib PM CS CG TF JF) (a : Nat) (ha1 : 1 ≤ a) (haP : a ≤ P) (sv ov : Int32) (sl sh ol oh : Nat) (hs1 : (if sv = -1 then nI 0 else sv) = nI sl) (hs2 : (if sv = -1 then nI 31 else sv) = nI sh) (hs3 : sl ≤ sh + 1) (hs4 : sh < 32) (ho1 : (if ov = -1 then nI 0 else ov) = nI ol) (ho2 : (if ov = -1 then nI 31 else ov) = nI oh) (ho3 : ol ≤ oh + 1) (ho4 : oh < 32) (hbd : bw1 (TF a) sl ol (oh + 1 - ol) (sh + 1 - sl) ≤ 2000) (hx : p.tables.exec = Jvm.exec) (hb : c.code = cX3_keepRows) (hml : c.maxLocals = 6) (hown : s.vm.findClass RX3 = some m.cls) (hts : ∀ w ∈ Cond.code yX3_keepRows cX3_keepRows 6 (none) :: tg, w.before args s = true) (hK : gK g s) (h0s : s0 ≤ H0.size) (hRm : 3 ≤ R.frames ∧ 71 ≤ R.locals) (hcs : cells + 0 ≤ R.cells ∧ slots + 0 ≤ R.slots)  (kx : ∀ (H : Heap) (locs : List Loc) (ls : Array Slot), gP g (xW g w x (nI P) mo no (nI Z) (nI ((kr1 (KD a) (ia a) (JF (ia a)) (JF a) (TF a) sl ol (oh + 1 - ol) (t, lv) (sh + 1 - sl)).1.2.2.2)) wr lk ps ((kr1 (KD a) (ia a) (JF (ia a)) (JF a) (TF a) sl ol (oh + 1 - ol) (t, lv) (sh + 1 - sl)).1.1) ((kr1 (KD a) (ia a) (JF (ia a)) (JF a) (TF a) sl ol (oh + 1 - ol) (t, lv) (sh + 1 - sl)).1.2.1) ((kr1 (KD a) (ia a) (JF (ia a)) (JF a) (TF a) sl ol (oh + 1 - ol) (t, lv) (sh + 1 - sl)).1.2.2.1) ((kr1 (KD a) (ia a) (JF (ia a)) (JF a) (TF a) sl ol (oh + 1 - ol) (t, lv) (sh + 1 - sl)).2)) H → gS s0 H0 H locs → lv_has ls 6 [(0, .ref x)] → W p l e R s m args below meth c H locs cells slots Q (F0 m 95 ls [])) :
    ∀ (n i : Nat), i ≤ (sh + 1 - sl) → (sh + 1 - sl) + 1 ≤ i + n → ∀ (H : Heap) (locs : List Loc) (ls : Array Slot), gP g (xW g w x (nI P) mo no (nI Z) (nI ((kr1 (KD a) (ia a) (JF (ia a)) (JF a) (TF a) sl ol (oh + 1 - ol) (t, lv) i).1.2.2.2)) wr lk ps ((kr1 (KD a) (ia a) (JF (ia a)) (JF a) (TF a) sl ol (oh + 1 - ol) (t, lv) i).1.1) ((kr1 (KD a) (ia a) (JF (ia a)) (JF a) (TF a) sl ol (oh + 1 - ol) (t, lv) i).1.2.1) ((kr1 (KD a) (ia a) (JF (ia a)) (JF a) (TF a) sl ol (oh + 1 - ol) (t, lv) i).1.2.2.1) ((kr1 (KD a) (ia a) (JF (ia a)) (JF a) (TF a) sl ol (oh + 1 - ol) (t, lv) i).2)) H → gS s0 H0 H locs → lv_has ls 6 [(0, .ref x), (1, .ref (qa a)), (2, .int (sv)), (3, .int (ov)), (4, .int (nI (sl + i)))] → W p l e R s m args below meth c H locs cells slots Q (F0 m 13 ls []) := by
  intro n
  induction n with
  | zero =>
    intro i h1 h2
    exact absurd h2 (by omega)
  | succ n ih =>
    intro i hi hin H locs ls hP hS hl
    have hI : poolN g w x P ps qa KD LI ia ib PM CS CG TF JF ∧ True := ⟨hpl, trivial⟩
    obtain ⟨a1_a, a2_a, a3_a, a4_a, a5_a, a6_a⟩ := hI.1 a ha1 haP
    dsimp only at a4_a
    refine lv_iload hx hb dX3_keepRows_13 (lv_at hl 4 rfl) ?_
    refine lv_iload_n hx hb dX3_keepRows_15 rfl (lv_at hl 2 rfl) ?_
    refine cr_Si (As := [.int (sv)]) (rest := [.int (nI (sl + i))]) ⟨hx, hb, hml, hown, hts⟩ (c_X3_highest l g s0 (xW g w x (nI P) mo no (nI Z) (nI ((kr1 (KD a) (ia a) (JF (ia a)) (JF a) (TF a) sl ol (oh + 1 - ol) (t, lv) i).1.2.2.2)) wr lk ps ((kr1 (KD a) (ia a) (JF (ia a)) (JF a) (TF a) sl ol (oh + 1 - ol) (t, lv) i).1.1) ((kr1 (KD a) (ia a) (JF (ia a)) (JF a) (TF a) sl ol (oh + 1 - ol) (t, lv) i).1.2.1) ((kr1 (KD a) (ia a) (JF (ia a)) (JF a) (TF a) sl ol (oh + 1 - ol) (t, lv) i).1.2.2.1) ((kr1 (KD a) (ia a) (JF (ia a)) (JF a) (TF a) sl ol (oh + 1 - ol) (t, lv) i).2)) sv) (cw_S 1 hts tg_tail tw_295 tw_284 tw_1 tw_285 rfl rfl (by decide +kernel) ⟨Nat.le_trans (by decide) hRm.1, Nat.le_trans (by decide) hRm.2⟩) hK hP h0s hS rfl hl.1 rfl (Nat.le_of_ble_eq_true rfl) dX3_keepRows_16 hcs (fun r9 w9 H locs hw hP hS => ?_)
    obtain ⟨e_r9, hw9⟩ := hw
    rw [hw9] at hP
    rw [hs2] at e_r9
    subst e_r9
    refine lv_icmp_gt (tgt := 95) hx hb dX3_keepRows_19 (by decide) (fun c_19 => ?_) (fun c_19 => ?_)
    · have c_19 := (nI_ltI (a := sh) (b := (sl + i)) (by omega) (by omega)).mp c_19
      have e9 : i = (sh + 1 - sl) := by omega
      try rw [e9] at hP
      try rw [e9] at hl
      exact kx H locs ls hP hS (lv_sub hl [0] rfl)
    · have c_19 := mt (nI_ltI (a := sh) (b := (sl + i)) (by omega) (by omega)).mpr c_19
      refine lv_aload_n hx hb dX3_keepRows_22 rfl (lv_at hl 1 rfl) ?_
      refine wd_get (ci := 1) (v := .ref (qa a + 2)) (C := RX0) (T := TX0) (N := 10) hx hb hts iwX0 hown hK.1 hP ((xW_out (by omega)).trans a4_a) rfl 7 (by decide) (hts _ (tg_tail _ tw_131)) (fun _ h9 => h9) rfl dX3_keepRows_23 ?_
      refine lv_iload hx hb dX3_keepRows_26 (lv_at hl 4 rfl) ?_
      refine wd_ildN hx hb hK.1 hP 0 (k := (sl + i)) ((xW_out (by omega)).trans a6_a) rfl (by omega) (by decide) dX3_keepRows_28 ?_
      refine lv_if_eq (tgt := 89) hx hb dX3_keepRows_29 (by decide) (fun c_29 => ?_) (fun c_29 => ?_)
      · refine lv_iinc (v := nI (sl + i + 1)) (lv' := [(4, .int (nI (sl + i + 1))), (0, .ref x), (1, .ref (qa a)), (2, .int (sv)), (3, .int (ov))]) hx hb dX3_keepRows_89 hl (k := 4) rfl (nI_1 _) (by decide) rfl (fun ls hl => ?_)
        refine lv_goto (tgt := 13) hx hb dX3_keepRows_92 (by decide) ?_
        have f9 : kr1 (KD a) (ia a) (JF (ia a)) (JF a) (TF a) sl ol (oh + 1 - ol) (t, lv) (i + 1) = (kr1 (KD a) (ia a) (JF (ia a)) (JF a) (TF a) sl ol (oh + 1 - ol) (t, lv) i) := by rw [kr1, krS, if_pos c_29]
        have e8 : (xW g w x (nI P) mo no (nI Z) (nI ((kr1 (KD a) (ia a) (JF (ia a)) (JF a) (TF a) sl ol (oh + 1 - ol) (t, lv) i).1.2.2.2)) wr lk ps ((kr1 (KD a) (ia a) (JF (ia a)) (JF a) (TF a) sl ol (oh + 1 - ol) (t, lv) i).1.1) ((kr1 (KD a) (ia a) (JF (ia a)) (JF a) (TF a) sl ol (oh + 1 - ol) (t, lv) i).1.2.1) ((kr1 (KD a) (ia a) (JF (ia a)) (JF a) (TF a) sl ol (oh + 1 - ol) (t, lv) i).1.2.2.1) ((kr1 (KD a) (ia a) (JF (ia a)) (JF a) (TF a) sl ol (oh + 1 - ol) (t, lv) i).2)) = (xW g w x (nI P) mo no (nI Z) (nI ((kr1 (KD a) (ia a) (JF (ia a)) (JF a) (TF a) sl ol (oh + 1 - ol) (t, lv) (i + 1)).1.2.2.2)) wr lk ps ((kr1 (KD a) (ia a) (JF (ia a)) (JF a) (TF a) sl ol (oh + 1 - ol) (t, lv) (i + 1)).1.1) ((kr1 (KD a) (ia a) (JF (ia a)) (JF a) (TF a) sl ol (oh + 1 - ol) (t, lv) (i + 1)).1.2.1) ((kr1 (KD a) (ia a) (JF (ia a)) (JF a) (TF a) sl ol (oh + 1 - ol) (t, lv) (i + 1)).1.2.2.1) ((kr1 (KD a) (ia a) (JF (ia a)) (JF a) (TF a) sl ol (oh + 1 - ol) (t, lv) (i + 1)).2)) := by rw [f9]
        rw [e8] at hP
        have hl : lv_has ls 6 [(0, .ref x), (1, .ref (qa a)), (2, .int (sv)), (3, .int (ov)), (4, .int (nI (sl + i + 1)))] := lv_sub hl [1, 2, 3, 4, 0] rfl
        have e8 : ([(0, .ref x), (1, .ref (qa a)), (2, .int (sv)), (3, .int (ov)), (4, .int (nI (sl + i + 1)))] : List (Nat × Value)) = [(0, .ref x), (1, .ref (qa a)), (2, .int (sv)), (3, .int (ov)), (4, .int (nI (sl + (i + 1))))] := by rfl
        rw [e8] at hl
        exact ih (i + 1) (by omega) (by omega) _ _ ls hP hS hl
      · refine lv_aload_n hx hb dX3_keepRows_32 rfl (lv_at hl 1 rfl) ?_
        refine lv_iload hx hb dX3_keepRows_33 (lv_at hl 4 rfl) ?_
        refine lv_aload_n hx hb dX3_keepRows_35 rfl (lv_at hl 0 rfl) ?_
        refine wd_get (ci := 4) (v := .ref (x + 8)) (C := RX3) (T := TX3) (N := 6) hx hb hts iwX3 hown hK.1 hP (xW_0) rfl 3 (by decide) (hts _ (tg_tail _ tw_72)) (fun _ h9 => h9) rfl dX3_keepRows_36 ?_
        refine cr_Vv (As := [.int (nI (sl + i)), .ref (x + 8)]) (rest := []) ⟨hx, hb, hml, hown, hts⟩ (c_mea l g s0  w x hs0 mo no (nI ((kr1 (KD a) (ia a) (JF (ia a)) (JF a) (TF a) sl ol (oh + 1 - ol) (t, lv) i).1.2.2.2)) wr lk ps ((kr1 (KD a) (ia a) (JF (ia a)) (JF a) (TF a) sl ol (oh + 1 - ol) (t, lv) i).1.1) ((kr1 (KD a) (ia a) (JF (ia a)) (JF a) (TF a) sl ol (oh + 1 - ol) (t, lv) i).1.2.1) ((kr1 (KD a) (ia a) (JF (ia a)) (JF a) (TF a) sl ol (oh + 1 - ol) (t, lv) i).1.2.2.1) ((kr1 (KD a) (ia a) (JF (ia a)) (JF a) (TF a) sl ol (oh + 1 - ol) (t, lv) i).2) P hP4 Z qa KD LI ia ib PM hsh CS CG TF JF hpl a ha1 haP (sl + i) (by omega)) (cw_V 2 hts tg_tail tw_296 tw_297 tw_298 tw_5 tw_299 rfl rfl (by decide +kernel) ⟨Nat.le_trans (by decide) hRm.1, Nat.le_trans (by decide) hRm.2⟩) hK hP h0s hS ((xW_out (by omega)).trans a4_a) rfl rfl rfl hl.1 rfl (Nat.le_of_ble_eq_true rfl) dX3_keepRows_39 hcs (fun w9 H locs hw hP hS => ?_)
        rw [hw] at hP
        refine lv_iload_n hx hb dX3_keepRows_42 rfl (lv_at hl 3 rfl) ?_
        refine cr_Si (As := [.int (ov)]) (rest := []) ⟨hx, hb, hml, hown, hts⟩ (c_X3_lowest l g s0 (xW g w x (nI P) mo no (nI Z) (nI ((kr1 (KD a) (ia a) (JF (ia a)) (JF a) (TF a) sl ol (oh + 1 - ol) (t, lv) i).1.2.2.2)) wr lk ps ((kr1 (KD a) (ia a) (JF (ia a)) (JF a) (TF a) sl ol (oh + 1 - ol) (t, lv) i).1.1) ((kr1 (KD a) (ia a) (JF (ia a)) (JF a) (TF a) sl ol (oh + 1 - ol) (t, lv) i).1.2.1) ((kr1 (KD a) (ia a) (JF (ia a)) (JF a) (TF a) sl ol (oh + 1 - ol) (t, lv) i).1.2.2.1) (lvF (KD a) (ia a) (JF (ia a)) (sl + i) (kr1 (KD a) (ia a) (JF (ia a)) (JF a) (TF a) sl ol (oh + 1 - ol) (t, lv) i).2)) ov) (cw_S 1 hts tg_tail tw_294 tw_281 tw_1 tw_282 rfl rfl (by decide +kernel) ⟨Nat.le_trans (by decide) hRm.1, Nat.le_trans (by decide) hRm.2⟩) hK hP h0s hS rfl hl.1 rfl (Nat.le_of_ble_eq_true rfl) dX3_keepRows_43 hcs (fun r9 w9 H locs hw hP hS => ?_)
        obtain ⟨e_r9, hw9⟩ := hw
        rw [hw9] at hP
        rw [ho1] at e_r9
        subst e_r9
        refine lv_istore (lv' := [(5, .int (nI ol)), (0, .ref x), (1, .ref (qa a)), (2, .int (sv)), (3, .int (ov)), (4, .int (nI (sl + i)))]) hx hb dX3_keepRows_46 hl (by decide) rfl (fun ls hl => ?_)
        have hb9 := kr_b (kd := KD a) (v := ia a) (J2 := JF (ia a)) (J := JF a) (i := i) (t := (t, lv)) ht0 hbd (by omega)
        have e8 : (xW g w x (nI P) mo no (nI Z) (nI ((kr1 (KD a) (ia a) (JF (ia a)) (JF a) (TF a) sl ol (oh + 1 - ol) (t, lv) i).1.2.2.2)) wr lk ps ((kr1 (KD a) (ia a) (JF (ia a)) (JF a) (TF a) sl ol (oh + 1 - ol) (t, lv) i).1.1) ((kr1 (KD a) (ia a) (JF (ia a)) (JF a) (TF a) sl ol (oh + 1 - ol) (t, lv) i).1.2.1) ((kr1 (KD a) (ia a) (JF (ia a)) (JF a) (TF a) sl ol (oh + 1 - ol) (t, lv) i).1.2.2.1) (lvF (KD a) (ia a) (JF (ia a)) (sl + i) (kr1 (KD a) (ia a) (JF (ia a)) (JF a) (TF a) sl ol (oh + 1 - ol) (t, lv) i).2)) = (xW g w x (nI P) mo no (nI Z) (nI ((kr2 (TF a) (lvF (KD a) (ia a) (JF (ia a)) (sl + i) (kr1 (KD a) (ia a) (JF (ia a)) (JF a) (TF a) sl ol (oh + 1 - ol) (t, lv) i).2) (sl + i) ol ((kr1 (KD a) (ia a) (JF (ia a)) (JF a) (TF a) sl ol (oh + 1 - ol) (t, lv) i).1) 0).2.2.2)) wr lk ps ((kr2 (TF a) (lvF (KD a) (ia a) (JF (ia a)) (sl + i) (kr1 (KD a) (ia a) (JF (ia a)) (JF a) (TF a) sl ol (oh + 1 - ol) (t, lv) i).2) (sl + i) ol ((kr1 (KD a) (ia a) (JF (ia a)) (JF a) (TF a) sl ol (oh + 1 - ol) (t, lv) i).1) 0).1) ((kr2 (TF a) (lvF (KD a) (ia a) (JF (ia a)) (sl + i) (kr1 (KD a) (ia a) (JF (ia a)) (JF a) (TF a) sl ol (oh + 1 - ol) (t, lv) i).2) (sl + i) ol ((kr1 (KD a) (ia a) (JF (ia a)) (JF a) (TF a) sl ol (oh + 1 - ol) (t, lv) i).1) 0).2.1) ((kr2 (TF a) (lvF (KD a) (ia a) (JF (ia a)) (sl + i) (kr1 (KD a) (ia a) (JF (ia a)) (JF a) (TF a) sl ol (oh + 1 - ol) (t, lv) i).2) (sl + i) ol ((kr1 (KD a) (ia a) (JF (ia a)) (JF a) (TF a) sl ol (oh + 1 - ol) (t, lv) i).1) 0).2.2.1) (lvF (KD a) (ia a) (JF (ia a)) (sl + i) (kr1 (KD a) (ia a) (JF (ia a)) (JF a) (TF a) sl ol (oh + 1 - ol) (t, lv) i).2)) := by rw [kr2]
        rw [e8] at hP
        have hl : lv_has ls 6 [(0, .ref x), (1, .ref (qa a)), (2, .int (sv)), (3, .int (ov)), (4, .int (nI (sl + i))), (5, .int (nI ol))] := lv_sub hl [1, 2, 3, 4, 5, 0] rfl
        have e8 : ([(0, .ref x), (1, .ref (qa a)), (2, .int (sv)), (3, .int (ov)), (4, .int (nI (sl + i))), (5, .int (nI ol))] : List (Nat × Value)) = [(0, .ref x), (1, .ref (qa a)), (2, .int (sv)), (3, .int (ov)), (4, .int (nI (sl + i))), (5, .int (nI (ol + 0)))] := by rfl
        rw [e8] at hl
        refine lp_kr2 g s0 w x hs0 mo no wr lk ps (lvF (KD a) (ia a) (JF (ia a)) (sl + i) (kr1 (KD a) (ia a) (JF (ia a)) (JF a) (TF a) sl ol (oh + 1 - ol) (t, lv) i).2) (kr1 (KD a) (ia a) (JF (ia a)) (JF a) (TF a) sl ol (oh + 1 - ol) (t, lv) i).1 P hP4 Z qa KD LI ia ib PM hsh CS CG TF JF hpl a ha1 haP sv ov sl sh ol oh hs1 hs2 hs3 hs4 ho1 ho2 ho3 ho4 (sl + i) (by omega) hb9 hx hb hml hown hts hK h0s hRm hcs  ?_ (((oh + 1 - ol)) + 1) 0 (by omega) (by omega) _ _ ls hP hS hl
        intro H locs ls hP hS hl
        refine lv_iinc (v := nI (sl + i + 1)) (lv' := [(4, .int (nI (sl + i + 1))), (0, .ref x), (1, .ref (qa a)), (2, .int (sv)), (3, .int (ov))]) hx hb dX3_keepRows_89 hl (k := 4) rfl (nI_1 _) (by decide) rfl (fun ls hl => ?_)
        refine lv_goto (tgt := 13) hx hb dX3_keepRows_92 (by decide) ?_
        have f9 : kr1 (KD a) (ia a) (JF (ia a)) (JF a) (TF a) sl ol (oh + 1 - ol) (t, lv) (i + 1) = (kr2 (TF a) (lvF (KD a) (ia a) (JF (ia a)) (sl + i) (kr1 (KD a) (ia a) (JF (ia a)) (JF a) (TF a) sl ol (oh + 1 - ol) (t, lv) i).2) (sl + i) ol (kr1 (KD a) (ia a) (JF (ia a)) (JF a) (TF a) sl ol (oh + 1 - ol) (t, lv) i).1 (oh + 1 - ol), lvF (KD a) (ia a) (JF (ia a)) (sl + i) (kr1 (KD a) (ia a) (JF (ia a)) (JF a) (TF a) sl ol (oh + 1 - ol) (t, lv) i).2) := by rw [kr1, krS, if_neg c_29]
        have e8 : (xW g w x (nI P) mo no (nI Z) (nI ((kr2 (TF a) (lvF (KD a) (ia a) (JF (ia a)) (sl + i) (kr1 (KD a) (ia a) (JF (ia a)) (JF a) (TF a) sl ol (oh + 1 - ol) (t, lv) i).2) (sl + i) ol ((kr1 (KD a) (ia a) (JF (ia a)) (JF a) (TF a) sl ol (oh + 1 - ol) (t, lv) i).1) ((oh + 1 - ol))).2.2.2)) wr lk ps ((kr2 (TF a) (lvF (KD a) (ia a) (JF (ia a)) (sl + i) (kr1 (KD a) (ia a) (JF (ia a)) (JF a) (TF a) sl ol (oh + 1 - ol) (t, lv) i).2) (sl + i) ol ((kr1 (KD a) (ia a) (JF (ia a)) (JF a) (TF a) sl ol (oh + 1 - ol) (t, lv) i).1) ((oh + 1 - ol))).1) ((kr2 (TF a) (lvF (KD a) (ia a) (JF (ia a)) (sl + i) (kr1 (KD a) (ia a) (JF (ia a)) (JF a) (TF a) sl ol (oh + 1 - ol) (t, lv) i).2) (sl + i) ol ((kr1 (KD a) (ia a) (JF (ia a)) (JF a) (TF a) sl ol (oh + 1 - ol) (t, lv) i).1) ((oh + 1 - ol))).2.1) ((kr2 (TF a) (lvF (KD a) (ia a) (JF (ia a)) (sl + i) (kr1 (KD a) (ia a) (JF (ia a)) (JF a) (TF a) sl ol (oh + 1 - ol) (t, lv) i).2) (sl + i) ol ((kr1 (KD a) (ia a) (JF (ia a)) (JF a) (TF a) sl ol (oh + 1 - ol) (t, lv) i).1) ((oh + 1 - ol))).2.2.1) (lvF (KD a) (ia a) (JF (ia a)) (sl + i) (kr1 (KD a) (ia a) (JF (ia a)) (JF a) (TF a) sl ol (oh + 1 - ol) (t, lv) i).2)) = (xW g w x (nI P) mo no (nI Z) (nI ((kr1 (KD a) (ia a) (JF (ia a)) (JF a) (TF a) sl ol (oh + 1 - ol) (t, lv) (i + 1)).1.2.2.2)) wr lk ps ((kr1 (KD a) (ia a) (JF (ia a)) (JF a) (TF a) sl ol (oh + 1 - ol) (t, lv) (i + 1)).1.1) ((kr1 (KD a) (ia a) (JF (ia a)) (JF a) (TF a) sl ol (oh + 1 - ol) (t, lv) (i + 1)).1.2.1) ((kr1 (KD a) (ia a) (JF (ia a)) (JF a) (TF a) sl ol (oh + 1 - ol) (t, lv) (i + 1)).1.2.2.1) ((kr1 (KD a) (ia a) (JF (ia a)) (JF a) (TF a) sl ol (oh + 1 - ol) (t, lv) (i + 1)).2)) := by rw [f9]
        rw [e8] at hP
        have hl : lv_has ls 6 [(0, .ref x), (1, .ref (qa a)), (2, .int (sv)), (3, .int (ov)), (4, .int (nI (sl + i + 1)))] := lv_sub hl [1, 2, 3, 4, 0] rfl
        have e8 : ([(0, .ref x), (1, .ref (qa a)), (2, .int (sv)), (3, .int (ov)), (4, .int (nI (sl + i + 1)))] : List (Nat × Value)) = [(0, .ref x), (1, .ref (qa a)), (2, .int (sv)), (3, .int (ov)), (4, .int (nI (sl + (i + 1))))] := by rfl
        rw [e8] at hl
        exact ih (i + 1) (by omega) (by omega) _ _ ls hP hS hl

set_option maxHeartbeats 4000000 in
set_option maxRecDepth 100000 in
theorem c_X3_keepRows (l : Launch) (g : gX) (s0 : Nat) (w : wd_M) (x : Nat) (hs0 : s0 ≤ x) (mo : Int32) (no : Int32) (rs : Int32) (wr : Int32) (lk : Nat → Int32) (ps : Nat → Option Nat) (fs : Nat → Int32) (ss : Nat → Int32) (ds : Nat → Int32) (lv : Nat → Int32) (P : Nat) (hP4 : P ≤ 40) (Z : Nat) (qa : Nat → Nat) (KD LI : Nat → Int32) (ia ib PM : Nat → Nat) (hsh : shp P qa ia ib PM) (CS CG : Nat → Int32) (TF : Nat → Nat → Nat) (JF : Nat → Nat → Int32) (hpl : poolN g w x P ps qa KD LI ia ib PM CS CG TF JF) (a : Nat) (ha1 : 1 ≤ a) (haP : a ≤ P) (sv ov : Int32) (sl sh ol oh : Nat) (hs1 : (if sv = -1 then nI 0 else sv) = nI sl) (hs2 : (if sv = -1 then nI 31 else sv) = nI sh) (hs3 : sl ≤ sh + 1) (hs4 : sh < 32) (ho1 : (if ov = -1 then nI 0 else ov) = nI ol) (ho2 : (if ov = -1 then nI 31 else ov) = nI oh) (ho3 : ol ≤ oh + 1) (ho4 : oh < 32) (hbd : bw1 (TF a) sl ol (oh + 1 - ol) (sh + 1 - sl) ≤ 2000) : Met l yX3_keepRows (Cond.code yX3_keepRows cX3_keepRows 6 (none) :: tg) ({ frames := 3, cells := 0, slots := 0, locals := 71 }) (cP g s0 (xW g w x (nI P) mo no (nI Z) rs wr lk ps fs ss ds lv) [.ref x, .ref (qa a), .int (sv), .int (ov)]) (cV g s0 (fun w' => w' = (xW g w x (nI P) mo no (nI Z) (nI ((kr1 (KD a) (ia a) (JF (ia a)) (JF a) (TF a) sl ol (oh + 1 - ol) ((fs, ss, ds, 0), lv) (sh + 1 - sl)).1.2.2.2)) (nI 1) lk ps ((kr1 (KD a) (ia a) (JF (ia a)) (JF a) (TF a) sl ol (oh + 1 - ol) ((fs, ss, ds, 0), lv) (sh + 1 - sl)).1.1) ((kr1 (KD a) (ia a) (JF (ia a)) (JF a) (TF a) sl ol (oh + 1 - ol) ((fs, ss, ds, 0), lv) (sh + 1 - sl)).1.2.1) ((kr1 (KD a) (ia a) (JF (ia a)) (JF a) (TF a) sl ol (oh + 1 - ol) ((fs, ss, ds, 0), lv) (sh + 1 - sl)).1.2.2.1) ((kr1 (KD a) (ia a) (JF (ia a)) (JF a) (TF a) sl ol (oh + 1 - ol) ((fs, ss, ds, 0), lv) (sh + 1 - sl)).2)))) 0 0 (cA s0) := by
  refine Met.ofW (cc := cX3_keepRows) (maxL := 6) (ret := none) (by decide) rfl ?_
  intro p e s m args below meth c s₁ B9 hml hv
  obtain ⟨rfl, h0s, hP, hK⟩ := hv
  have hx := B9.exec
  have hb := B9.bytes
  have hr := B9.returns
  have hts := atoms_spec (ws := Cond.code yX3_keepRows cX3_keepRows 6 (none) :: tg) B9.pre
  have hown : s.vm.findClass RX3 = some m.cls := findClass_of_methodNamed B9.named
  have hlocks := B9.notSynchronized
  have hS : gS s0 s.heap s.heap [] := va_S.rf
  have hRm : 3 ≤ (headSpec (Cond.code yX3_keepRows cX3_keepRows 6 (none) :: tg) ({ frames := 3, cells := 0, slots := 0, locals := 71 })).room.frames ∧ 71 ≤ (headSpec (Cond.code yX3_keepRows cX3_keepRows 6 (none) :: tg) ({ frames := 3, cells := 0, slots := 0, locals := 71 })).room.locals := ⟨Nat.le_refl _, Nat.le_refl _⟩
  have hcs : 0 + 0 ≤ (headSpec (Cond.code yX3_keepRows cX3_keepRows 6 (none) :: tg) ({ frames := 3, cells := 0, slots := 0, locals := 71 })).room.cells ∧ 0 + 0 ≤ (headSpec (Cond.code yX3_keepRows cX3_keepRows 6 (none) :: tg) ({ frames := 3, cells := 0, slots := 0, locals := 71 })).room.slots := ⟨Nat.zero_le _, Nat.zero_le _⟩
  have hl := lv_entry ([.ref x, .ref (qa a), .int (sv), .int (ov)]) (n := 6) (Nat.le_of_ble_eq_true rfl)
  rw [lg_entry_eq]
  generalize (lg_sl ([.ref x, .ref (qa a), .int (sv), .int (ov)]) ++ List.replicate (6 - (lg_sl ([.ref x, .ref (qa a), .int (sv), .int (ov)])).length) Slot.unset).toArray = ls at hl ⊢
  have hl : lv_has ls 6 [(0, .ref x), (1, .ref (qa a)), (2, .int (sv)), (3, .int (ov))] := hl
  refine lv_aload_n hx hb dX3_keepRows_0 rfl (lv_at hl 0 rfl) ?_
  refine wd_get (ci := 4) (v := .ref (x + 4)) (C := RX3) (T := TX3) (N := 6) hx hb hts iwX3 hown hK.1 hP (xW_0) rfl 2 (by decide) (hts _ (tg_tail _ tw_71)) (fun _ h9 => h9) rfl dX3_keepRows_1 ?_
  refine cr_Vv (As := []) (rest := []) ⟨hx, hb, hml, hown, hts⟩ (c_X1_begin l g s0  w x hs0 (nI P) mo no (nI Z) rs wr lk ps fs ss ds lv) (cw_V 0 hts tg_tail tw_290 tw_291 tw_292 tw_3 tw_293 rfl rfl (by decide +kernel) ⟨Nat.le_trans (by decide) hRm.1, Nat.le_trans (by decide) hRm.2⟩) hK hP h0s hS (xW_4) rfl rfl rfl hl.1 rfl (Nat.le_of_ble_eq_true rfl) dX3_keepRows_4 hcs (fun w9 H locs hw hP hS => ?_)
  rw [hw] at hP
  refine lv_iload_n hx hb dX3_keepRows_7 rfl (lv_at hl 2 rfl) ?_
  refine cr_Si (As := [.int (sv)]) (rest := []) ⟨hx, hb, hml, hown, hts⟩ (c_X3_lowest l g s0 (xW g w x (nI P) mo no (nI Z) (nI 0) (nI 1) lk ps fs ss ds lv) sv) (cw_S 1 hts tg_tail tw_294 tw_281 tw_1 tw_282 rfl rfl (by decide +kernel) ⟨Nat.le_trans (by decide) hRm.1, Nat.le_trans (by decide) hRm.2⟩) hK hP h0s hS rfl hl.1 rfl (Nat.le_of_ble_eq_true rfl) dX3_keepRows_8 hcs (fun r9 w9 H locs hw hP hS => ?_)
  obtain ⟨e_r9, hw9⟩ := hw
  rw [hw9] at hP
  rw [hs1] at e_r9
  subst e_r9
  refine lv_istore (lv' := [(4, .int (nI sl)), (0, .ref x), (1, .ref (qa a)), (2, .int (sv)), (3, .int (ov))]) hx hb dX3_keepRows_11 hl (by decide) rfl (fun ls hl => ?_)
  have e8 : (xW g w x (nI P) mo no (nI Z) (nI 0) (nI 1) lk ps fs ss ds lv) = (xW g w x (nI P) mo no (nI Z) (nI ((kr1 (KD a) (ia a) (JF (ia a)) (JF a) (TF a) sl ol (oh + 1 - ol) ((((fs, ss, ds, 0) : rT)), lv) 0).1.2.2.2)) (nI 1) lk ps ((kr1 (KD a) (ia a) (JF (ia a)) (JF a) (TF a) sl ol (oh + 1 - ol) ((((fs, ss, ds, 0) : rT)), lv) 0).1.1) ((kr1 (KD a) (ia a) (JF (ia a)) (JF a) (TF a) sl ol (oh + 1 - ol) ((((fs, ss, ds, 0) : rT)), lv) 0).1.2.1) ((kr1 (KD a) (ia a) (JF (ia a)) (JF a) (TF a) sl ol (oh + 1 - ol) ((((fs, ss, ds, 0) : rT)), lv) 0).1.2.2.1) ((kr1 (KD a) (ia a) (JF (ia a)) (JF a) (TF a) sl ol (oh + 1 - ol) ((((fs, ss, ds, 0) : rT)), lv) 0).2)) := by rw [kr1]
  rw [e8] at hP
  have hl : lv_has ls 6 [(0, .ref x), (1, .ref (qa a)), (2, .int (sv)), (3, .int (ov)), (4, .int (nI sl))] := lv_sub hl [1, 2, 3, 4, 0] rfl
  have e8 : ([(0, .ref x), (1, .ref (qa a)), (2, .int (sv)), (3, .int (ov)), (4, .int (nI sl))] : List (Nat × Value)) = [(0, .ref x), (1, .ref (qa a)), (2, .int (sv)), (3, .int (ov)), (4, .int (nI (sl + 0)))] := by rfl
  rw [e8] at hl
  refine lp_kr1 g s0 w x hs0 mo no (nI 1) lk ps lv (fs, ss, ds, 0) rfl P hP4 Z qa KD LI ia ib PM hsh CS CG TF JF hpl a ha1 haP sv ov sl sh ol oh hs1 hs2 hs3 hs4 ho1 ho2 ho3 ho4 hbd hx hb hml hown hts hK h0s hRm hcs  ?_ (((sh + 1 - sl)) + 1) 0 (by omega) (by omega) _ _ ls hP hS hl
  intro H locs ls hP hS hl
  exact W.vret hx hb hr (fun t9 ht hW => ⟨⟨(xW g w x (nI P) mo no (nI Z) (nI ((kr1 (KD a) (ia a) (JF (ia a)) (JF a) (TF a) sl ol (oh + 1 - ol) ((fs, ss, ds, 0), lv) (sh + 1 - sl)).1.2.2.2)) (nI 1) lk ps ((kr1 (KD a) (ia a) (JF (ia a)) (JF a) (TF a) sl ol (oh + 1 - ol) ((fs, ss, ds, 0), lv) (sh + 1 - sl)).1.1) ((kr1 (KD a) (ia a) (JF (ia a)) (JF a) (TF a) sl ol (oh + 1 - ol) ((fs, ss, ds, 0), lv) (sh + 1 - sl)).1.2.1) ((kr1 (KD a) (ia a) (JF (ia a)) (JF a) (TF a) sl ol (oh + 1 - ol) ((fs, ss, ds, 0), lv) (sh + 1 - sl)).1.2.2.1) ((kr1 (KD a) (ia a) (JF (ia a)) (JF a) (TF a) sl ol (oh + 1 - ol) ((fs, ss, ds, 0), lv) (sh + 1 - sl)).2)), rfl, rfl, cB_of ht hP⟩, hS.F ht⟩) hS.2.2 dX3_keepRows_95

