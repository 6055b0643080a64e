/-! THE REFERENCE: prepare, plain -/
/-- the PATHS as the reference keeps them: kinds K, parts A and B -/
def hK9 (P : Nat) (ki fi se : Nat → Int32) (K A B : Nat → Nat) : Prop := ∀ q, 1 ≤ q → q ≤ P → ki q = nI (K q) ∧ K q ≤ 7 ∧ (1 ≤ K q → K q ≤ 6 → fi q = nI (A q) ∧ A q ≤ 40) ∧ (K q = 2 ∨ K q = 3 → se q = nI (B q) ∧ B q ≤ 40)
theorem hK9.a {P : Nat} {ki fi se : Nat → Int32} {K A B : Nat → Nat} (h : hK9 P ki fi se K A B) : ∀ q, 1 ≤ q → q ≤ P → (nI 1 ≤ ki q ∧ ki q ≤ nI 6) → fi q = nI (A q) ∧ A q ≤ 40 := by
  intro q h1 h2 h3
  obtain ⟨e1, e2, e3, e4⟩ := h q h1 h2
  rw [e1, nI_leI (by decide) (by omega), nI_leI (by omega) (by decide)] at h3
  exact e3 h3.1 h3.2
theorem hK9.b {P : Nat} {ki fi se : Nat → Int32} {K A B : Nat → Nat} (h : hK9 P ki fi se K A B) : ∀ q, 1 ≤ q → q ≤ P → (nI 2 ≤ ki q ∧ ki q ≤ nI 3) → se q = nI (B q) ∧ B q ≤ 40 := by
  intro q h1 h2 h3
  obtain ⟨e1, e2, e3, e4⟩ := h q h1 h2
  rw [e1, nI_leI (by decide) (by omega), nI_leI (by omega) (by decide)] at h3
  exact e4 (by omega)
def pp1 (ki fi se pr ii : Nat → Int32) (S O K A B : Nat → Nat) (T : Nat) (mo : Int32) (N : Nat → Int32) (t : mS) : Nat → mS
  | 0 => t
  | k + 1 => if N (k + 1) = 0 then pp1 ki fi se pr ii S O K A B T mo N t k else mkT ki fi se pr ii S O T mo (K (k + 1)) (k + 1) (A (k + 1)) (B (k + 1)) (pp1 ki fi se pr ii S O K A B T mo N t k)
termination_by k => k
theorem pp1_B {ki fi se pr ii : Nat → Int32} {S O K A B : Nat → Nat} {T : Nat} {mo : Int32} {N : Nat → Int32} {t : mS} (h : mB t.1) : ∀ k, mB (pp1 ki fi se pr ii S O K A B T mo N t k).1 := by
  intro k
  induction k with
  | zero => rw [pp1]; exact h
  | succ k ih =>
    rw [pp1]
    split
    · exact ih
    · exact mkT_B ih
def sm2 (M : Nat → Nat) (u : Nat) (sv ov : Int32) (x n0 : Nat) : Nat → Nat
  | 0 => n0
  | y + 1 => if (sv < 0 ∨ sv = nI x) ∧ (ov < 0 ∨ ov = nI y) then sm2 M u sv ov x n0 y + M (1024 * u + 32 * x + y) else sm2 M u sv ov x n0 y
termination_by y => y
def sm1 (M : Nat → Nat) (u : Nat) (sv ov : Int32) : Nat → Nat
  | 0 => 0
  | x + 1 => sm2 M u sv ov x (sm1 M u sv ov x) 32
termination_by x => x
set_option maxRecDepth 100000 in
theorem sm2_le {M : Nat → Nat} {u : Nat} {sv ov : Int32} {x n0 : Nat} (h : mB M) : ∀ y, n0 ≤ sm2 M u sv ov x n0 y ∧ sm2 M u sv ov x n0 y ≤ n0 + y * 1000000 := by
  intro y
  induction y with
  | zero => rw [sm2]; omega
  | succ y ih =>
    have h9 : M (1024 * u + 32 * x + y) ≤ 1000000 := h (1024 * u + 32 * x + y)
    rw [sm2]
    generalize sm2 M u sv ov x n0 y = s9 at ih ⊢
    generalize M (1024 * u + 32 * x + y) = v9 at h9 ⊢
    by_cases c9 : (sv < 0 ∨ sv = nI x) ∧ (ov < 0 ∨ ov = nI y)
    · rw [if_pos c9]
      clear c9
      omega
    · rw [if_neg c9]
      exact ⟨ih.1, Nat.le_trans ih.2 (Nat.add_le_add_left (Nat.mul_le_mul_right _ (Nat.le_succ y)) n0)⟩
theorem sm2_mono {M : Nat → Nat} {u : Nat} {sv ov : Int32} {x n0 : Nat} : ∀ d y, sm2 M u sv ov x n0 y ≤ sm2 M u sv ov x n0 (y + d) := by
  intro d y
  induction d with
  | zero => exact Nat.le_refl _
  | succ d ih =>
    show _ ≤ sm2 M u sv ov x n0 (y + d + 1)
    rw [sm2.eq_2]
    split <;> omega
set_option maxRecDepth 100000 in
theorem sm1_le {M : Nat → Nat} {u : Nat} {sv ov : Int32} (h : mB M) : ∀ x, sm1 M u sv ov x ≤ x * 32000000 := by
  intro x
  induction x with
  | zero => rw [sm1]; omega
  | succ x ih =>
    rw [sm1]
    have := (sm2_le (u := u) (sv := sv) (ov := ov) (x := x) (n0 := sm1 M u sv ov x) h 32).2
    omega
theorem sm1_mono {M : Nat → Nat} {u : Nat} {sv ov : Int32} (h : mB M) : ∀ d x, sm1 M u sv ov x ≤ sm1 M u sv ov (x + d) := by
  intro d x
  induction d with
  | zero => exact Nat.le_refl _
  | succ d ih =>
    show _ ≤ sm1 M u sv ov (x + d + 1)
    rw [sm1.eq_2]
    have := (sm2_le (u := u) (sv := sv) (ov := ov) (x := x + d) (n0 := sm1 M u sv ov (x + d)) h 32).1
    omega
set_option maxHeartbeats 4000000 in
set_option maxRecDepth 100000 in
theorem lp_pp1 {p : Program} {l : Launch} {e : Env} {R : Room} {s : State} {m : MethodId} {args : Array Value} {below : List Frame} {meth : Method} {c : Code} {Q : State → Prop} {H0 : Heap} {cells slots : Nat} (g : gX) (s0 : Nat) (w : wd_M) (h : Nat) (hs0 : s0 ≤ h) (rf mo gb wr nr : Int32) (su pr ob ki fi se nd ii sp qu rF rT rD : Nat → Int32) (P : Nat) (hP4 : P ≤ 40) (T : Nat) (hT : T ≤ 150) (S O : Nat → Nat) (hS9 : ∀ k, k < T → su k = nI (S k) ∧ S k < 32) (hO9 : ∀ k, k < T → ob k = nI (O k) ∧ O k < 32) (M : Nat → Nat) (hM9 : mB M) (K A B : Nat → Nat) (hKK : hK9 P ki fi se K A B) (u : Nat) (hu1 : 1 ≤ u) (hu : u ≤ P) (sv ov : Int32)  (hx : p.tables.exec = Jvm.exec) (hb : c.code = cX4_prepare) (hml : c.maxLocals = 7) (hown : s.vm.findClass RX4 = some m.cls) (hts : ∀ w ∈ Cond.code yX4_prepare cX4_prepare 7 (some .int) :: tg, w.before args s = true) (hK : gK g s) (h0s : s0 ≤ H0.size) (hRm : 4 ≤ R.frames ∧ 97 ≤ R.locals) (hcs : cells + 0 ≤ R.cells ∧ slots + 0 ≤ R.slots)  (kx : ∀ (H : Heap) (locs : List Loc) (ls : Array Slot), gP g (mW g w h rf (nI T) (nI P) mo ((pp1 ki fi se pr ii S O K A B T mo nd (M, sp, qu, gb) u).2.2.2) wr nr su pr ob ki fi se (tN (pp1 ki fi se pr ii S O K A B T mo nd (M, sp, qu, gb) u).1) nd ii ((pp1 ki fi se pr ii S O K A B T mo nd (M, sp, qu, gb) u).2.1) ((pp1 ki fi se pr ii S O K A B T mo nd (M, sp, qu, gb) u).2.2.1) rF rT rD) H → gS s0 H0 H locs → lv_has ls 7 [(0, .ref h), (1, .int (nI u)), (2, .int (sv)), (3, .int (ov))] → W p l e R s m args below meth c H locs cells slots Q (F0 m 47 ls [])) :
    ∀ (n k : Nat), k ≤ u → u + 1 ≤ k + n → ∀ (H : Heap) (locs : List Loc) (ls : Array Slot), gP g (mW g w h rf (nI T) (nI P) mo ((pp1 ki fi se pr ii S O K A B T mo nd (M, sp, qu, gb) k).2.2.2) wr nr su pr ob ki fi se (tN (pp1 ki fi se pr ii S O K A B T mo nd (M, sp, qu, gb) k).1) nd ii ((pp1 ki fi se pr ii S O K A B T mo nd (M, sp, qu, gb) k).2.1) ((pp1 ki fi se pr ii S O K A B T mo nd (M, sp, qu, gb) k).2.2.1) rF rT rD) H → gS s0 H0 H locs → lv_has ls 7 [(0, .ref h), (1, .int (nI u)), (2, .int (sv)), (3, .int (ov)), (4, .int (nI (k + 1)))] → W p l e R s m args below meth c H locs cells slots Q (F0 m 19 ls []) := by
  intro n
  induction n with
  | zero =>
    intro k h1 h2
    exact absurd h2 (by omega)
  | succ n ih =>
    intro k hi hin H locs ls hP hS hl
    refine lv_iload hx hb dX4_prepare_19 (lv_at hl 4 rfl) ?_
    refine lv_iload_n hx hb dX4_prepare_21 rfl (lv_at hl 1 rfl) ?_
    refine lv_icmp_gt (tgt := 47) hx hb dX4_prepare_22 (by decide) (fun c_22 => ?_) (fun c_22 => ?_)
    · have c_22 := (nI_ltI (a := u) (b := (k + 1)) (by omega) (by omega)).mp c_22
      have e9 : k = u := by omega
      try rw [e9] at hP
      try rw [e9] at hl
      exact kx H locs ls hP hS (lv_sub hl [0, 1, 2, 3] rfl)
    · have c_22 := mt (nI_ltI (a := u) (b := (k + 1)) (by omega) (by omega)).mpr c_22
      refine lv_aload_n hx hb dX4_prepare_25 rfl (lv_at hl 0 rfl) ?_
      refine wd_get (ci := 5) (v := .ref (h + 8)) (C := RX4) (T := TX4) (N := 21) hx hb hts iwX4 hown hK.1 hP (mW_0) rfl 11 (by decide) (hts _ (tg_tail _ tw_434)) (fun _ h9 => h9) rfl dX4_prepare_26 ?_
      refine lv_iload hx hb dX4_prepare_29 (lv_at hl 4 rfl) ?_
      refine wd_zldN hx hb hK.1 hP 1 (k := (k + 1)) (mW_8) rfl (by omega) (by decide) dX4_prepare_31 ?_
      refine lv_if_eq (tgt := 41) hx hb dX4_prepare_32 (by decide) (fun c_32 => ?_) (fun c_32 => ?_)
      · refine lv_iinc (v := nI (k + 1 + 1)) (lv' := [(4, .int (nI (k + 1 + 1))), (0, .ref h), (1, .int (nI u)), (2, .int (sv)), (3, .int (ov))]) hx hb dX4_prepare_41 hl (k := 4) rfl (nI_1 _) (by decide) rfl (fun ls hl => ?_)
        refine lv_goto (tgt := 19) hx hb dX4_prepare_44 (by decide) ?_
        have e8 : (mW g w h rf (nI T) (nI P) mo ((pp1 ki fi se pr ii S O K A B T mo nd (M, sp, qu, gb) k).2.2.2) wr nr su pr ob ki fi se (tN (pp1 ki fi se pr ii S O K A B T mo nd (M, sp, qu, gb) k).1) nd ii ((pp1 ki fi se pr ii S O K A B T mo nd (M, sp, qu, gb) k).2.1) ((pp1 ki fi se pr ii S O K A B T mo nd (M, sp, qu, gb) k).2.2.1) rF rT rD) = (mW g w h rf (nI T) (nI P) mo ((pp1 ki fi se pr ii S O K A B T mo nd (M, sp, qu, gb) (k + 1)).2.2.2) wr nr su pr ob ki fi se (tN (pp1 ki fi se pr ii S O K A B T mo nd (M, sp, qu, gb) (k + 1)).1) nd ii ((pp1 ki fi se pr ii S O K A B T mo nd (M, sp, qu, gb) (k + 1)).2.1) ((pp1 ki fi se pr ii S O K A B T mo nd (M, sp, qu, gb) (k + 1)).2.2.1) rF rT rD) := by rw [pp1, if_pos c_32]
        rw [e8] at hP
        have hl : lv_has ls 7 [(0, .ref h), (1, .int (nI u)), (2, .int (sv)), (3, .int (ov)), (4, .int (nI (k + 1 + 1)))] := lv_sub hl [1, 2, 3, 4, 0] rfl
        have e8 : ([(0, .ref h), (1, .int (nI u)), (2, .int (sv)), (3, .int (ov)), (4, .int (nI (k + 1 + 1)))] : List (Nat × Value)) = [(0, .ref h), (1, .int (nI u)), (2, .int (sv)), (3, .int (ov)), (4, .int (nI ((k + 1) + 1)))] := by rfl
        rw [e8] at hl
        exact ih (k + 1) (by omega) (by omega) _ _ ls hP hS hl
      · refine lv_aload_n hx hb dX4_prepare_35 rfl (lv_at hl 0 rfl) ?_
        refine lv_iload hx hb dX4_prepare_36 (lv_at hl 4 rfl) ?_
        obtain ⟨g1, g2, g3, g4⟩ := hKK (k + 1) (by omega) (by omega)
        refine cr_Vv (As := [.int (nI (k + 1))]) (rest := []) ⟨hx, hb, hml, hown, hts⟩ (c_X4_makeTable l g s0  w h hs0 rf (nI P) mo ((pp1 ki fi se pr ii S O K A B T mo nd (M, sp, qu, gb) k).2.2.2) wr nr su pr ob ki fi se nd ii ((pp1 ki fi se pr ii S O K A B T mo nd (M, sp, qu, gb) k).2.1) ((pp1 ki fi se pr ii S O K A B T mo nd (M, sp, qu, gb) k).2.2.1) rF rT rD T hT S O hS9 hO9 (pp1 ki fi se pr ii S O K A B T mo nd (M, sp, qu, gb) k).1 (pp1_B hM9 k) (k + 1) (A (k + 1)) (B (k + 1)) (K (k + 1)) (by omega) g1 g2 g3 g4) (cw_V 1 hts tg_tail tw_549 tw_551 tp_26 tw_4 tw_552 rfl rfl (by decide +kernel) ⟨Nat.le_trans (by decide) hRm.1, Nat.le_trans (by decide) hRm.2⟩) hK hP h0s hS (mW_0) rfl rfl rfl hl.1 rfl (Nat.le_of_ble_eq_true rfl) dX4_prepare_38 hcs (fun w9 H locs hw hP hS => ?_)
        rw [hw] at hP
        have f9 : (pp1 ki fi se pr ii S O K A B T mo nd (M, sp, qu, gb) (k + 1)) = (mkT ki fi se pr ii S O T mo (K (k + 1)) (k + 1) (A (k + 1)) (B (k + 1)) (pp1 ki fi se pr ii S O K A B T mo nd (M, sp, qu, gb) k)) := by rw [pp1, if_neg c_32]
        refine lv_iinc (v := nI (k + 1 + 1)) (lv' := [(4, .int (nI (k + 1 + 1))), (0, .ref h), (1, .int (nI u)), (2, .int (sv)), (3, .int (ov))]) hx hb dX4_prepare_41 hl (k := 4) rfl (nI_1 _) (by decide) rfl (fun ls hl => ?_)
        refine lv_goto (tgt := 19) hx hb dX4_prepare_44 (by decide) ?_
        rw [show ((pp1 ki fi se pr ii S O K A B T mo nd (M, sp, qu, gb) k).1, (pp1 ki fi se pr ii S O K A B T mo nd (M, sp, qu, gb) k).2.1, (pp1 ki fi se pr ii S O K A B T mo nd (M, sp, qu, gb) k).2.2.1, (pp1 ki fi se pr ii S O K A B T mo nd (M, sp, qu, gb) k).2.2.2) = (pp1 ki fi se pr ii S O K A B T mo nd (M, sp, qu, gb) k) from rfl, ← f9] at hP
        have hl : lv_has ls 7 [(0, .ref h), (1, .int (nI u)), (2, .int (sv)), (3, .int (ov)), (4, .int (nI (k + 1 + 1)))] := lv_sub hl [1, 2, 3, 4, 0] rfl
        have e8 : ([(0, .ref h), (1, .int (nI u)), (2, .int (sv)), (3, .int (ov)), (4, .int (nI (k + 1 + 1)))] : List (Nat × Value)) = [(0, .ref h), (1, .int (nI u)), (2, .int (sv)), (3, .int (ov)), (4, .int (nI ((k + 1) + 1)))] := by rfl
        rw [e8] at hl
        exact ih (k + 1) (by omega) (by omega) _ _ ls hP hS hl

set_option maxHeartbeats 4000000 in
set_option maxRecDepth 100000 in
theorem lp_sm2 {p : Program} {l : Launch} {e : Env} {R : Room} {s : State} {m : MethodId} {args : Array Value} {below : List Frame} {meth : Method} {c : Code} {Q : State → Prop} {H0 : Heap} {cells slots : Nat} (g : gX) (s0 : Nat) (w : wd_M) (h : Nat) (hs0 : s0 ≤ h) (rf nt np mo gb wr nr : Int32) (su pr ob ki fi se nd ii sp qu rF rT rD : Nat → Int32) (M : Nat → Nat) (u x n0 : Nat) (hu : u ≤ 40) (hx1 : x < 32) (sv ov : Int32) (hx : p.tables.exec = Jvm.exec) (hb : c.code = cX4_prepare) (hml : c.maxLocals = 7) (hown : s.vm.findClass RX4 = some m.cls) (hts : ∀ w ∈ Cond.code yX4_prepare cX4_prepare 7 (some .int) :: tg, w.before args s = true) (hK : gK g s) (h0s : s0 ≤ H0.size) (hRm : 4 ≤ R.frames ∧ 97 ≤ R.locals) (hcs : cells + 0 ≤ R.cells ∧ slots + 0 ≤ R.slots)  (kx : ∀ (H : Heap) (locs : List Loc) (ls : Array Slot), gP g (mW g w h rf nt np mo gb wr nr su pr ob ki fi se (tN M) nd ii sp qu rF rT rD) H → gS s0 H0 H locs → lv_has ls 7 [(0, .ref h), (1, .int (nI u)), (2, .int (sv)), (3, .int (ov)), (4, .int (nI (sm2 M u sv ov x n0 32))), (5, .int (nI x))] → W p l e R s m args below meth c H locs cells slots Q (F0 m 107 ls [])) :
    ∀ (n y : Nat), y ≤ 32 → 32 + 1 ≤ y + n → ∀ (H : Heap) (locs : List Loc) (ls : Array Slot), gP g (mW g w h rf nt np mo gb wr nr su pr ob ki fi se (tN M) nd ii sp qu rF rT rD) H → gS s0 H0 H locs → lv_has ls 7 [(0, .ref h), (1, .int (nI u)), (2, .int (sv)), (3, .int (ov)), (4, .int (nI (sm2 M u sv ov x n0 y))), (5, .int (nI x)), (6, .int (nI y))] → W p l e R s m args below meth c H locs cells slots Q (F0 m 63 ls []) := by
  intro n
  induction n with
  | zero =>
    intro y h1 h2
    exact absurd h2 (by omega)
  | succ n ih =>
    intro y hi hin H locs ls hP hS hl
    refine lv_iload hx hb dX4_prepare_63 (lv_at hl 6 rfl) ?_
    refine lv_bipush (v := nI 32) hx hb dX4_prepare_65 (by decide) ?_
    refine lv_icmp_ge (tgt := 107) hx hb dX4_prepare_67 (by decide) (fun c_67 => ?_) (fun c_67 => ?_)
    · have c_67 := (nI_leI (a := 32) (b := y) (by omega) (by omega)).mp c_67
      have e9 : y = 32 := by omega
      try rw [e9] at hP
      try rw [e9] at hl
      exact kx H locs ls hP hS (lv_sub hl [0, 1, 2, 3, 4, 5] rfl)
    · have c_67 := mt (nI_leI (a := 32) (b := y) (by omega) (by omega)).mpr c_67
      refine lv_iload hx hb dX4_prepare_70 (lv_at hl 5 rfl) ?_
      refine lv_iload hx hb dX4_prepare_72 (lv_at hl 6 rfl) ?_
      refine lv_iload_n hx hb dX4_prepare_74 rfl (lv_at hl 2 rfl) ?_
      refine lv_iload_n hx hb dX4_prepare_75 rfl (lv_at hl 3 rfl) ?_
      refine cr_Si (As := [.int (nI x), .int (nI y), .int (sv), .int (ov)]) (rest := []) ⟨hx, hb, hml, hown, hts⟩ (c_X4_fits l g s0 (mW g w h rf nt np mo gb wr nr su pr ob ki fi se (tN M) nd ii sp qu rF rT rD) (nI x) (nI y) sv ov) (cw_S 4 hts tg_tail tw_578 tw_579 tw_4 tw_580 rfl rfl (by decide +kernel) ⟨Nat.le_trans (by decide) hRm.1, Nat.le_trans (by decide) hRm.2⟩) hK hP h0s hS rfl hl.1 rfl (Nat.le_of_ble_eq_true rfl) dX4_prepare_76 hcs (fun r9 w9 H locs hw hP hS => ?_)
      obtain ⟨e_r9, hw9⟩ := hw
      rw [hw9] at hP
      subst e_r9
      refine lv_if_eq (tgt := 97) hx hb dX4_prepare_79 (by decide) (fun c_79 => ?_) (fun c_79 => ?_)
      · have c_79 := zB_0.mp c_79
        refine lv_iload hx hb dX4_prepare_97 (lv_at hl 4 rfl) ?_
        refine lv_istore (lv' := [(4, .int (nI (sm2 M u sv ov x n0 y))), (0, .ref h), (1, .int (nI u)), (2, .int (sv)), (3, .int (ov)), (5, .int (nI x)), (6, .int (nI y))]) hx hb dX4_prepare_99 hl (by decide) rfl (fun ls hl => ?_)
        refine lv_iinc (v := nI (y + 1)) (lv' := [(6, .int (nI (y + 1))), (4, .int (nI (sm2 M u sv ov x n0 y))), (0, .ref h), (1, .int (nI u)), (2, .int (sv)), (3, .int (ov)), (5, .int (nI x))]) hx hb dX4_prepare_101 hl (k := 6) rfl (nI_1 _) (by decide) rfl (fun ls hl => ?_)
        refine lv_goto (tgt := 63) hx hb dX4_prepare_104 (by decide) ?_
        have hl : lv_has ls 7 [(0, .ref h), (1, .int (nI u)), (2, .int (sv)), (3, .int (ov)), (4, .int (nI (sm2 M u sv ov x n0 y))), (5, .int (nI x)), (6, .int (nI (y + 1)))] := lv_sub hl [2, 3, 4, 5, 1, 6, 0] rfl
        have e8 : ([(0, .ref h), (1, .int (nI u)), (2, .int (sv)), (3, .int (ov)), (4, .int (nI (sm2 M u sv ov x n0 y))), (5, .int (nI x)), (6, .int (nI (y + 1)))] : List (Nat × Value)) = [(0, .ref h), (1, .int (nI u)), (2, .int (sv)), (3, .int (ov)), (4, .int (nI (sm2 M u sv ov x n0 (y + 1)))), (5, .int (nI x)), (6, .int (nI (y + 1)))] := by rw [sm2, if_neg c_79]
        rw [e8] at hl
        exact ih (y + 1) (by omega) (by omega) _ _ ls hP hS hl
      · have c_79 := zB_1.mp c_79
        refine lv_iload hx hb dX4_prepare_82 (lv_at hl 4 rfl) ?_
        refine lv_aload_n hx hb dX4_prepare_84 rfl (lv_at hl 0 rfl) ?_
        refine lv_iload_n hx hb dX4_prepare_85 rfl (lv_at hl 1 rfl) ?_
        refine lv_iload hx hb dX4_prepare_86 (lv_at hl 5 rfl) ?_
        refine lv_iload hx hb dX4_prepare_88 (lv_at hl 6 rfl) ?_
        refine cr_Vi (As := [.int (nI u), .int (nI x), .int (nI y)]) (rest := [.int (nI (sm2 M u sv ov x n0 y))]) ⟨hx, hb, hml, hown, hts⟩ (c_X4_cell l g s0  w h hs0 rf nt np mo gb wr nr su pr ob ki fi se (tN M) nd ii sp qu rF rT rD (u) (x) (y) (by omega) (by omega) (by omega)) (cw_V 3 hts tg_tail tw_557 tw_559 tp_28 tw_4 tw_560 rfl rfl (by decide +kernel) ⟨Nat.le_trans (by decide) hRm.1, Nat.le_trans (by decide) hRm.2⟩) hK hP h0s hS (mW_0) rfl rfl rfl hl.1 rfl (Nat.le_of_ble_eq_true rfl) dX4_prepare_90 hcs (fun r9 w9 H locs hw hP hS => ?_)
        obtain ⟨e_r9, hw9⟩ := hw
        rw [hw9] at hP
        subst e_r9
        refine wd_ti (x' := nI (M (1024 * u + 32 * x + y))) (rfl) ?_
        refine lv_iadd hx hb dX4_prepare_93 ?_
        refine wd_ti (x' := nI ((sm2 M u sv ov x n0 y) + (M (1024 * u + 32 * x + y)))) (nI_add _ _) ?_
        refine lv_goto (tgt := 99) hx hb dX4_prepare_94 (by decide) ?_
        refine lv_istore (lv' := [(4, .int (nI ((sm2 M u sv ov x n0 y) + (M (1024 * u + 32 * x + y))))), (0, .ref h), (1, .int (nI u)), (2, .int (sv)), (3, .int (ov)), (5, .int (nI x)), (6, .int (nI y))]) hx hb dX4_prepare_99 hl (by decide) rfl (fun ls hl => ?_)
        refine lv_iinc (v := nI (y + 1)) (lv' := [(6, .int (nI (y + 1))), (4, .int (nI ((sm2 M u sv ov x n0 y) + (M (1024 * u + 32 * x + y))))), (0, .ref h), (1, .int (nI u)), (2, .int (sv)), (3, .int (ov)), (5, .int (nI x))]) hx hb dX4_prepare_101 hl (k := 6) rfl (nI_1 _) (by decide) rfl (fun ls hl => ?_)
        refine lv_goto (tgt := 63) hx hb dX4_prepare_104 (by decide) ?_
        have hl : lv_has ls 7 [(0, .ref h), (1, .int (nI u)), (2, .int (sv)), (3, .int (ov)), (4, .int (nI ((sm2 M u sv ov x n0 y) + (M (1024 * u + 32 * x + y))))), (5, .int (nI x)), (6, .int (nI (y + 1)))] := lv_sub hl [2, 3, 4, 5, 1, 6, 0] rfl
        have e8 : ([(0, .ref h), (1, .int (nI u)), (2, .int (sv)), (3, .int (ov)), (4, .int (nI ((sm2 M u sv ov x n0 y) + (M (1024 * u + 32 * x + y))))), (5, .int (nI x)), (6, .int (nI (y + 1)))] : List (Nat × Value)) = [(0, .ref h), (1, .int (nI u)), (2, .int (sv)), (3, .int (ov)), (4, .int (nI (sm2 M u sv ov x n0 (y + 1)))), (5, .int (nI x)), (6, .int (nI (y + 1)))] := by rw [sm2, if_pos c_79]
        rw [e8] at hl
        exact ih (y + 1) (by omega) (by omega) _ _ ls hP hS hl

set_option maxHeartbeats 4000000 in
set_option maxRecDepth 100000 in
theorem lp_sm1 {p : Program} {l : Launch} {e : Env} {R : Room} {s : State} {m : MethodId} {args : Array Value} {below : List Frame} {meth : Method} {c : Code} {Q : State → Prop} {H0 : Heap} {cells slots : Nat} (g : gX) (s0 : Nat) (w : wd_M) (h : Nat) (hs0 : s0 ≤ h) (rf nt np mo gb wr nr : Int32) (su pr ob ki fi se nd ii sp qu rF rT rD : Nat → Int32) (M : Nat → Nat) (u : Nat) (hu : u ≤ 40) (sv ov : Int32) (hx : p.tables.exec = Jvm.exec) (hb : c.code = cX4_prepare) (hml : c.maxLocals = 7) (hown : s.vm.findClass RX4 = some m.cls) (hts : ∀ w ∈ Cond.code yX4_prepare cX4_prepare 7 (some .int) :: tg, w.before args s = true) (hK : gK g s) (h0s : s0 ≤ H0.size) (hRm : 4 ≤ R.frames ∧ 97 ≤ R.locals) (hcs : cells + 0 ≤ R.cells ∧ slots + 0 ≤ R.slots)  (kx : ∀ (H : Heap) (locs : List Loc) (ls : Array Slot), gP g (mW g w h rf nt np mo gb wr nr su pr ob ki fi se (tN M) nd ii sp qu rF rT rD) H → gS s0 H0 H locs → lv_has ls 7 [(0, .ref h), (4, .int (nI (sm1 M u sv ov 32)))] → W p l e R s m args below meth c H locs cells slots Q (F0 m 113 ls [])) :
    ∀ (n x : Nat), x ≤ 32 → 32 + 1 ≤ x + n → ∀ (H : Heap) (locs : List Loc) (ls : Array Slot), gP g (mW g w h rf nt np mo gb wr nr su pr ob ki fi se (tN M) nd ii sp qu rF rT rD) H → gS s0 H0 H locs → lv_has ls 7 [(0, .ref h), (1, .int (nI u)), (2, .int (sv)), (3, .int (ov)), (4, .int (nI (sm1 M u sv ov x))), (5, .int (nI x))] → W p l e R s m args below meth c H locs cells slots Q (F0 m 53 ls []) := by
  intro n
  induction n with
  | zero =>
    intro x h1 h2
    exact absurd h2 (by omega)
  | succ n ih =>
    intro x hi hin H locs ls hP hS hl
    refine lv_iload hx hb dX4_prepare_53 (lv_at hl 5 rfl) ?_
    refine lv_bipush (v := nI 32) hx hb dX4_prepare_55 (by decide) ?_
    refine lv_icmp_ge (tgt := 113) hx hb dX4_prepare_57 (by decide) (fun c_57 => ?_) (fun c_57 => ?_)
    · have c_57 := (nI_leI (a := 32) (b := x) (by omega) (by omega)).mp c_57
      have e9 : x = 32 := by omega
      try rw [e9] at hP
      try rw [e9] at hl
      exact kx H locs ls hP hS (lv_sub hl [0, 4] rfl)
    · have c_57 := mt (nI_leI (a := 32) (b := x) (by omega) (by omega)).mpr c_57
      refine lv_iconst (v := nI 0) hx hb dX4_prepare_60 (by decide) ?_
      refine lv_istore (lv' := [(6, .int (nI 0)), (0, .ref h), (1, .int (nI u)), (2, .int (sv)), (3, .int (ov)), (4, .int (nI (sm1 M u sv ov x))), (5, .int (nI x))]) hx hb dX4_prepare_61 hl (by decide) rfl (fun ls hl => ?_)
      have hl : lv_has ls 7 [(0, .ref h), (1, .int (nI u)), (2, .int (sv)), (3, .int (ov)), (4, .int (nI (sm1 M u sv ov x))), (5, .int (nI x)), (6, .int (nI 0))] := lv_sub hl [1, 2, 3, 4, 5, 6, 0] rfl
      have e8 : ([(0, .ref h), (1, .int (nI u)), (2, .int (sv)), (3, .int (ov)), (4, .int (nI (sm1 M u sv ov x))), (5, .int (nI x)), (6, .int (nI 0))] : List (Nat × Value)) = [(0, .ref h), (1, .int (nI u)), (2, .int (sv)), (3, .int (ov)), (4, .int (nI (sm2 M u sv ov x ((sm1 M u sv ov x)) 0))), (5, .int (nI x)), (6, .int (nI 0))] := by rw [sm2]
      rw [e8] at hl
      refine lp_sm2 g s0 w h hs0 rf nt np mo gb wr nr su pr ob ki fi se nd ii sp qu rF rT rD M u x (sm1 M u sv ov x) hu (by omega) sv ov hx hb hml hown hts hK h0s hRm hcs  ?_ (32 + 1) 0 (by omega) (by omega) _ _ ls hP hS hl
      intro H locs ls hP hS hl
      refine lv_iinc (v := nI (x + 1)) (lv' := [(5, .int (nI (x + 1))), (0, .ref h), (1, .int (nI u)), (2, .int (sv)), (3, .int (ov)), (4, .int (nI (sm2 M u sv ov x ((sm1 M u sv ov x)) 32)))]) hx hb dX4_prepare_107 hl (k := 5) rfl (nI_1 _) (by decide) rfl (fun ls hl => ?_)
      refine lv_goto (tgt := 53) hx hb dX4_prepare_110 (by decide) ?_
      have hl : lv_has ls 7 [(0, .ref h), (1, .int (nI u)), (2, .int (sv)), (3, .int (ov)), (4, .int (nI (sm2 M u sv ov x ((sm1 M u sv ov x)) 32))), (5, .int (nI (x + 1)))] := lv_sub hl [1, 2, 3, 4, 5, 0] rfl
      have e8 : ([(0, .ref h), (1, .int (nI u)), (2, .int (sv)), (3, .int (ov)), (4, .int (nI (sm2 M u sv ov x ((sm1 M u sv ov x)) 32))), (5, .int (nI (x + 1)))] : List (Nat × Value)) = [(0, .ref h), (1, .int (nI u)), (2, .int (sv)), (3, .int (ov)), (4, .int (nI (sm1 M u sv ov (x + 1)))), (5, .int (nI (x + 1)))] := by rw [sm1]
      rw [e8] at hl
      exact ih (x + 1) (by omega) (by omega) _ _ ls hP hS hl

set_option maxHeartbeats 4000000 in
set_option maxRecDepth 100000 in
theorem c_X4_prepare (l : Launch) (g : gX) (s0 : Nat) (w : wd_M) (h : Nat) (hs0 : s0 ≤ h) (rf mo gb wr nr : Int32) (su pr ob ki fi se nd ii sp qu rF rT rD : Nat → Int32) (P : Nat) (hP4 : P ≤ 40) (T : Nat) (hT : T ≤ 150) (S O : Nat → Nat) (hS9 : ∀ k, k < T → su k = nI (S k) ∧ S k < 32) (hO9 : ∀ k, k < T → ob k = nI (O k) ∧ O k < 32) (M : Nat → Nat) (hM9 : mB M) (K A B : Nat → Nat) (hKK : hK9 P ki fi se K A B) (u : Nat) (hu1 : 1 ≤ u) (hu : u ≤ P) (sv ov : Int32)  : Met l yX4_prepare (Cond.code yX4_prepare cX4_prepare 7 (some .int) :: tg) ({ frames := 4, cells := 0, slots := 0, locals := 97 }) (cP g s0 (mW g w h rf (nI T) (nI P) mo gb wr nr su pr ob ki fi se (tN M) nd ii sp qu rF rT rD) [.ref h, .int (nI u), .int (sv), .int (ov)]) (cI g s0 (fun r w' => r = nI (sm1 (pp1 ki fi se pr (fg2 (fg1 ii sv ov 32) S O T) S O K A B T mo (fn2 ki A B u (fn1 nd u P) u) (M, sp, qu, nI 0) u).1 u sv ov 32) ∧ w' = (mW g w h rf (nI T) (nI P) mo ((pp1 ki fi se pr (fg2 (fg1 ii sv ov 32) S O T) S O K A B T mo (fn2 ki A B u (fn1 nd u P) u) (M, sp, qu, nI 0) u).2.2.2) wr nr su pr ob ki fi se (tN (pp1 ki fi se pr (fg2 (fg1 ii sv ov 32) S O T) S O K A B T mo (fn2 ki A B u (fn1 nd u P) u) (M, sp, qu, nI 0) u).1) (fn2 ki A B u (fn1 nd u P) u) (fg2 (fg1 ii sv ov 32) S O T) ((pp1 ki fi se pr (fg2 (fg1 ii sv ov 32) S O T) S O K A B T mo (fn2 ki A B u (fn1 nd u P) u) (M, sp, qu, nI 0) u).2.1) ((pp1 ki fi se pr (fg2 (fg1 ii sv ov 32) S O T) S O K A B T mo (fn2 ki A B u (fn1 nd u P) u) (M, sp, qu, nI 0) u).2.2.1) rF rT rD))) 0 0 (cA s0) := by
  refine Met.ofW (cc := cX4_prepare) (maxL := 7) (ret := some .int) (by decide) rfl ?_
  intro p e s m args below meth c s₁ B9 hml hv
  obtain ⟨rfl, h0s, hP, hK⟩ := hv
  have hx := B9.exec
  have hb := B9.bytes
  have hr := B9.returns
  have hts := atoms_spec (ws := Cond.code yX4_prepare cX4_prepare 7 (some .int) :: tg) B9.pre
  have hown : s.vm.findClass RX4 = some m.cls := findClass_of_methodNamed B9.named
  have hlocks := B9.notSynchronized
  have hS : gS s0 s.heap s.heap [] := va_S.rf
  have hRm : 4 ≤ (headSpec (Cond.code yX4_prepare cX4_prepare 7 (some .int) :: tg) ({ frames := 4, cells := 0, slots := 0, locals := 97 })).room.frames ∧ 97 ≤ (headSpec (Cond.code yX4_prepare cX4_prepare 7 (some .int) :: tg) ({ frames := 4, cells := 0, slots := 0, locals := 97 })).room.locals := ⟨Nat.le_refl _, Nat.le_refl _⟩
  have hcs : 0 + 0 ≤ (headSpec (Cond.code yX4_prepare cX4_prepare 7 (some .int) :: tg) ({ frames := 4, cells := 0, slots := 0, locals := 97 })).room.cells ∧ 0 + 0 ≤ (headSpec (Cond.code yX4_prepare cX4_prepare 7 (some .int) :: tg) ({ frames := 4, cells := 0, slots := 0, locals := 97 })).room.slots := ⟨Nat.zero_le _, Nat.zero_le _⟩
  have hl := lv_entry ([.ref h, .int (nI u), .int (sv), .int (ov)]) (n := 7) (Nat.le_of_ble_eq_true rfl)
  rw [lg_entry_eq]
  generalize (lg_sl ([.ref h, .int (nI u), .int (sv), .int (ov)]) ++ List.replicate (7 - (lg_sl ([.ref h, .int (nI u), .int (sv), .int (ov)])).length) Slot.unset).toArray = ls at hl ⊢
  have hl : lv_has ls 7 [(0, .ref h), (1, .int (nI u)), (2, .int (sv)), (3, .int (ov))] := hl
  refine lv_aload_n hx hb dX4_prepare_0 rfl (lv_at hl 0 rfl) ?_
  refine lv_iload_n hx hb dX4_prepare_1 rfl (lv_at hl 1 rfl) ?_
  refine cr_Vv (As := [.int (nI u)]) (rest := []) ⟨hx, hb, hml, hown, hts⟩ (c_X4_findNeeded l g s0  w h hs0 rf (nI T) mo gb wr nr su pr ob ki fi se (tN M) nd ii sp qu rF rT rD P hP4 u hu A B hKK.a hKK.b) (cw_V 1 hts tg_tail tw_541 tw_543 tp_24 tw_4 tw_544 rfl rfl (by decide +kernel) ⟨Nat.le_trans (by decide) hRm.1, Nat.le_trans (by decide) hRm.2⟩) hK hP h0s hS (mW_0) rfl rfl rfl hl.1 rfl (Nat.le_of_ble_eq_true rfl) dX4_prepare_2 hcs (fun w9 H locs hw hP hS => ?_)
  rw [hw] at hP
  refine lv_aload_n hx hb dX4_prepare_5 rfl (lv_at hl 0 rfl) ?_
  refine lv_iload_n hx hb dX4_prepare_6 rfl (lv_at hl 2 rfl) ?_
  refine lv_iload_n hx hb dX4_prepare_7 rfl (lv_at hl 3 rfl) ?_
  refine cr_Vv (As := [.int (sv), .int (ov)]) (rest := []) ⟨hx, hb, hml, hown, hts⟩ (c_X4_findGraph l g s0  w h hs0 rf (nI P) mo gb wr nr su pr ob ki fi se (tN M) (fn2 ki A B u (fn1 nd u P) u) ii sp qu rF rT rD T hT S O hS9 hO9 sv ov) (cw_V 2 hts tg_tail tw_545 tw_547 tp_25 tw_4 tw_548 rfl rfl (by decide +kernel) ⟨Nat.le_trans (by decide) hRm.1, Nat.le_trans (by decide) hRm.2⟩) hK hP h0s hS (mW_0) rfl rfl rfl hl.1 rfl (Nat.le_of_ble_eq_true rfl) dX4_prepare_8 hcs (fun w9 H locs hw hP hS => ?_)
  rw [hw] at hP
  refine lv_aload_n hx hb dX4_prepare_11 rfl (lv_at hl 0 rfl) ?_
  refine lv_iconst (v := nI 0) hx hb dX4_prepare_12 (by decide) ?_
  refine wd_put (ci := 5) (v := .int (nI 0)) (ty := .boolean) (C := RX4) (T := TX4) (N := 21) hx hb hts iwX4 tyX4 tyX4_ok nmX4 hown hK.1 hP hS (by omega) (mW_0) rfl 13 (by decide) (hts _ (tg_tail _ tw_436)) (fun _ h9 => h9) rfl (by decide +kernel) (rfl) (rfl) (Nat.le_of_ble_eq_true rfl) dX4_prepare_13 (fun H locs hP hS hz => ?_)
  have hP : gP g (mW g w h rf (nI T) (nI P) mo (nI 0) wr nr su pr ob ki fi se (tN M) (fn2 ki A B u (fn1 nd u P) u) (fg2 (fg1 ii sv ov 32) S O T) sp qu rF rT rD) H := by have h9 : gP g (wd_up (mW g w h rf (nI T) (nI P) mo gb wr nr su pr ob ki fi se (tN M) (fn2 ki A B u (fn1 nd u P) u) (fg2 (fg1 ii sv ov 32) S O T) sp qu rF rT rD) h (.inr (5, [.int (rf), .ref (h + 1), .ref (h + 2), .ref (h + 3), .int (nI T), .ref (h + 4), .ref (h + 5), .ref (h + 6), .int (nI P), .int (mo), .ref (h + 7), .ref (h + 8), .ref (h + 9), .int (nI 0), .ref (h + 10), .ref (h + 11), .int (wr), .int (nr), .ref (h + 12), .ref (h + 13), .ref (h + 14)]))) H := hP; rw [mW_s0] at h9; exact h9
  refine lv_iconst (v := nI 1) hx hb dX4_prepare_16 (by decide) ?_
  refine lv_istore (lv' := [(4, .int (nI 1)), (0, .ref h), (1, .int (nI u)), (2, .int (sv)), (3, .int (ov))]) hx hb dX4_prepare_17 hl (by decide) rfl (fun ls hl => ?_)
  have e8 : (mW g w h rf (nI T) (nI P) mo (nI 0) wr nr su pr ob ki fi se (tN M) (fn2 ki A B u (fn1 nd u P) u) (fg2 (fg1 ii sv ov 32) S O T) sp qu rF rT rD) = (mW g w h rf (nI T) (nI P) mo ((pp1 ki fi se pr (fg2 (fg1 ii sv ov 32) S O T) S O K A B T mo (fn2 ki A B u (fn1 nd u P) u) (M, sp, qu, (nI 0)) 0).2.2.2) wr nr su pr ob ki fi se (tN (pp1 ki fi se pr (fg2 (fg1 ii sv ov 32) S O T) S O K A B T mo (fn2 ki A B u (fn1 nd u P) u) (M, sp, qu, (nI 0)) 0).1) (fn2 ki A B u (fn1 nd u P) u) (fg2 (fg1 ii sv ov 32) S O T) ((pp1 ki fi se pr (fg2 (fg1 ii sv ov 32) S O T) S O K A B T mo (fn2 ki A B u (fn1 nd u P) u) (M, sp, qu, (nI 0)) 0).2.1) ((pp1 ki fi se pr (fg2 (fg1 ii sv ov 32) S O T) S O K A B T mo (fn2 ki A B u (fn1 nd u P) u) (M, sp, qu, (nI 0)) 0).2.2.1) rF rT rD) := by rw [pp1]
  rw [e8] at hP
  have hl : lv_has ls 7 [(0, .ref h), (1, .int (nI u)), (2, .int (sv)), (3, .int (ov)), (4, .int (nI 1))] := lv_sub hl [1, 2, 3, 4, 0] rfl
  have e8 : ([(0, .ref h), (1, .int (nI u)), (2, .int (sv)), (3, .int (ov)), (4, .int (nI 1))] : List (Nat × Value)) = [(0, .ref h), (1, .int (nI u)), (2, .int (sv)), (3, .int (ov)), (4, .int (nI (0 + 1)))] := by rfl
  rw [e8] at hl
  refine lp_pp1 g s0 w h hs0 rf mo (nI 0) wr nr su pr ob ki fi se (fn2 ki A B u (fn1 nd u P) u) (fg2 (fg1 ii sv ov 32) S O T) sp qu rF rT rD P hP4 T hT S O hS9 hO9 M hM9 K A B hKK u hu1 hu sv ov hx hb hml hown hts hK h0s hRm hcs  ?_ (u + 1) 0 (by omega) (by omega) _ _ ls hP hS hl
  intro H locs ls hP hS hl
  refine lv_iconst (v := nI 0) hx hb dX4_prepare_47 (by decide) ?_
  refine lv_istore (lv' := [(4, .int (nI 0)), (0, .ref h), (1, .int (nI u)), (2, .int (sv)), (3, .int (ov))]) hx hb dX4_prepare_48 hl (by decide) rfl (fun ls hl => ?_)
  refine lv_iconst (v := nI 0) hx hb dX4_prepare_50 (by decide) ?_
  refine lv_istore (lv' := [(5, .int (nI 0)), (4, .int (nI 0)), (0, .ref h), (1, .int (nI u)), (2, .int (sv)), (3, .int (ov))]) hx hb dX4_prepare_51 hl (by decide) rfl (fun ls hl => ?_)
  have e8 : (mW g w h rf (nI T) (nI P) mo ((pp1 ki fi se pr (fg2 (fg1 ii sv ov 32) S O T) S O K A B T mo (fn2 ki A B u (fn1 nd u P) u) (M, sp, qu, (nI 0)) u).2.2.2) wr nr su pr ob ki fi se (tN (pp1 ki fi se pr (fg2 (fg1 ii sv ov 32) S O T) S O K A B T mo (fn2 ki A B u (fn1 nd u P) u) (M, sp, qu, (nI 0)) u).1) (fn2 ki A B u (fn1 nd u P) u) (fg2 (fg1 ii sv ov 32) S O T) ((pp1 ki fi se pr (fg2 (fg1 ii sv ov 32) S O T) S O K A B T mo (fn2 ki A B u (fn1 nd u P) u) (M, sp, qu, (nI 0)) u).2.1) ((pp1 ki fi se pr (fg2 (fg1 ii sv ov 32) S O T) S O K A B T mo (fn2 ki A B u (fn1 nd u P) u) (M, sp, qu, (nI 0)) u).2.2.1) rF rT rD) = (mW g w h rf (nI T) (nI P) mo ((pp1 ki fi se pr (fg2 (fg1 ii sv ov 32) S O T) S O K A B T mo (fn2 ki A B u (fn1 nd u P) u) (M, sp, qu, (nI 0)) u).2.2.2) wr nr su pr ob ki fi se (tN ((pp1 ki fi se pr (fg2 (fg1 ii sv ov 32) S O T) S O K A B T mo (fn2 ki A B u (fn1 nd u P) u) (M, sp, qu, nI 0) u).1)) (fn2 ki A B u (fn1 nd u P) u) (fg2 (fg1 ii sv ov 32) S O T) ((pp1 ki fi se pr (fg2 (fg1 ii sv ov 32) S O T) S O K A B T mo (fn2 ki A B u (fn1 nd u P) u) (M, sp, qu, (nI 0)) u).2.1) ((pp1 ki fi se pr (fg2 (fg1 ii sv ov 32) S O T) S O K A B T mo (fn2 ki A B u (fn1 nd u P) u) (M, sp, qu, (nI 0)) u).2.2.1) rF rT rD) := by rfl
  rw [e8] at hP
  have hl : lv_has ls 7 [(0, .ref h), (1, .int (nI u)), (2, .int (sv)), (3, .int (ov)), (4, .int (nI 0)), (5, .int (nI 0))] := lv_sub hl [2, 3, 4, 5, 1, 0] rfl
  have e8 : ([(0, .ref h), (1, .int (nI u)), (2, .int (sv)), (3, .int (ov)), (4, .int (nI 0)), (5, .int (nI 0))] : List (Nat × Value)) = [(0, .ref h), (1, .int (nI u)), (2, .int (sv)), (3, .int (ov)), (4, .int (nI (sm1 ((pp1 ki fi se pr (fg2 (fg1 ii sv ov 32) S O T) S O K A B T mo (fn2 ki A B u (fn1 nd u P) u) (M, sp, qu, nI 0) u).1) u sv ov 0))), (5, .int (nI 0))] := by rw [sm1]
  rw [e8] at hl
  refine lp_sm1 g s0 w h hs0 rf (nI T) (nI P) mo ((pp1 ki fi se pr (fg2 (fg1 ii sv ov 32) S O T) S O K A B T mo (fn2 ki A B u (fn1 nd u P) u) (M, sp, qu, (nI 0)) u).2.2.2) wr nr su pr ob ki fi se (fn2 ki A B u (fn1 nd u P) u) (fg2 (fg1 ii sv ov 32) S O T) ((pp1 ki fi se pr (fg2 (fg1 ii sv ov 32) S O T) S O K A B T mo (fn2 ki A B u (fn1 nd u P) u) (M, sp, qu, (nI 0)) u).2.1) ((pp1 ki fi se pr (fg2 (fg1 ii sv ov 32) S O T) S O K A B T mo (fn2 ki A B u (fn1 nd u P) u) (M, sp, qu, (nI 0)) u).2.2.1) rF rT rD (pp1 ki fi se pr (fg2 (fg1 ii sv ov 32) S O T) S O K A B T mo (fn2 ki A B u (fn1 nd u P) u) (M, sp, qu, nI 0) u).1 u (by omega) sv ov hx hb hml hown hts hK h0s hRm hcs  ?_ (32 + 1) 0 (by omega) (by omega) _ _ ls hP hS hl
  intro H locs ls hP hS hl
  refine lv_iload hx hb dX4_prepare_113 (lv_at hl 1 rfl) ?_
  exact W.iret (v := nI (sm1 ((pp1 ki fi se pr (fg2 (fg1 ii sv ov 32) S O T) S O K A B T mo (fn2 ki A B u (fn1 nd u P) u) (M, sp, qu, nI 0) u).1) u sv ov 32)) hx hb hr (fun t9 ht hW => ⟨⟨_, (mW g w h rf (nI T) (nI P) mo ((pp1 ki fi se pr (fg2 (fg1 ii sv ov 32) S O T) S O K A B T mo (fn2 ki A B u (fn1 nd u P) u) (M, sp, qu, (nI 0)) u).2.2.2) wr nr su pr ob ki fi se (tN ((pp1 ki fi se pr (fg2 (fg1 ii sv ov 32) S O T) S O K A B T mo (fn2 ki A B u (fn1 nd u P) u) (M, sp, qu, nI 0) u).1)) (fn2 ki A B u (fn1 nd u P) u) (fg2 (fg1 ii sv ov 32) S O T) ((pp1 ki fi se pr (fg2 (fg1 ii sv ov 32) S O T) S O K A B T mo (fn2 ki A B u (fn1 nd u P) u) (M, sp, qu, (nI 0)) u).2.1) ((pp1 ki fi se pr (fg2 (fg1 ii sv ov 32) S O T) S O K A B T mo (fn2 ki A B u (fn1 nd u P) u) (M, sp, qu, (nI 0)) u).2.2.1) rF rT rD), rfl, ⟨rfl, rfl⟩, cB_of ht hP⟩, hS.F ht⟩) hS.2.2 dX4_prepare_115

