/-! THE CLASS: goesBeyond, keepRows -/
def gby (pm : Nat) (KD : Nat → Int32) (JF : Nat → Nat → Int32) (mo : Int32) : Nat → Bool
  | 0 => false
  | k + 1 => gby pm KD JF mo k || decide (pmb pm (k + 1) ∧ (KD (k + 1) = nI 4 ∨ KD (k + 1) = nI 5) ∧ mo < nI (pr1 (JF (k + 1)) 32))
termination_by k => k
theorem gby_t {pm : Nat} {KD : Nat → Int32} {JF : Nat → Nat → Int32} {mo : Int32} {k : Nat} (h : pmb pm (k + 1) ∧ (KD (k + 1) = nI 4 ∨ KD (k + 1) = nI 5) ∧ mo < nI (pr1 (JF (k + 1)) 32)) : ∀ n, gby pm KD JF mo (k + 1 + n) = true := by
  intro n
  induction n with
  | zero => rw [Nat.add_zero, gby, decide_eq_true h, Bool.or_true]
  | succ n ih => rw [show k + 1 + (n + 1) = (k + 1 + n) + 1 by omega, gby, ih, Bool.true_or]
theorem gby_f {pm : Nat} {KD : Nat → Int32} {JF : Nat → Nat → Int32} {mo : Int32} {k : Nat} (h : gby pm KD JF mo k = false) (h2 : ¬ (pmb pm (k + 1) ∧ (KD (k + 1) = nI 4 ∨ KD (k + 1) = nI 5) ∧ mo < nI (pr1 (JF (k + 1)) 32))) : gby pm KD JF mo (k + 1) = false := by
  rw [gby, h, decide_eq_false h2]; rfl
theorem i_nle {a b : Int32} (h : ¬ a ≤ b) : b < a := by
  simp only [Int32.lt_iff_toInt_lt, Int32.le_iff_toInt_le] at *
  omega
theorem i_le {a b : Int32} (h : a ≤ b) : ¬ b < a := by
  simp only [Int32.lt_iff_toInt_lt, Int32.le_iff_toInt_le] at *
  omega
def lvF (kd : Int32) (v : Nat) (J : Nat → Int32) (x : Nat) (lv : Nat → Int32) : Nat → Int32 := if v = 0 then meS kd x (ms1 lv 32) else meF kd J x lv
def kr2 (G : Nat → Nat) (lv : Nat → Int32) (x ol : Nat) (t : rT) : Nat → rT
  | 0 => t
  | i + 1 => rk x (ol + i) (lv (ol + i)) (kr2 G lv x ol t i) (G (x * 32 + (ol + i)))
termination_by i => i
def krS (kd : Int32) (v : Nat) (J2 J : Nat → Int32) (G : Nat → Nat) (ol oc x : Nat) (t : rT × (Nat → Int32)) : rT × (Nat → Int32) := if J x = 0 then t else (kr2 G (lvF kd v J2 x t.2) x ol t.1 oc, lvF kd v J2 x t.2)
def kr1 (kd : Int32) (v : Nat) (J2 J : Nat → Int32) (G : Nat → Nat) (sl ol oc : Nat) (t : rT × (Nat → Int32)) : Nat → rT × (Nat → Int32)
  | 0 => t
  | i + 1 => krS kd v J2 J G ol oc (sl + i) (kr1 kd v J2 J G sl ol oc t i)
termination_by i => i
theorem kr2_n {G : Nat → Nat} {lv : Nat → Int32} {x ol : Nat} {t : rT} : ∀ i, (kr2 G lv x ol t i).2.2.2 = bw2 G x ol t.2.2.2 i := by
  intro i
  induction i with
  | zero => rw [kr2, bw2]
  | succ i ih => rw [kr2, bw2, rk_n, ih]
theorem bw2_m {G : Nat → Nat} {x ol n0 n1 : Nat} (h : n0 ≤ n1) : ∀ i, bw2 G x ol n0 i ≤ bw2 G x ol n1 i := by
  intro i
  induction i with
  | zero => rw [bw2, bw2]; exact h
  | succ i ih => rw [bw2, bw2]; exact Nat.add_le_add_right ih _
theorem bw2_up {G : Nat → Nat} {x ol n0 i : Nat} : ∀ d, bw2 G x ol n0 i ≤ bw2 G x ol n0 (i + d) := by
  intro d
  induction d with
  | zero => exact Nat.le_refl _
  | succ d ih => rw [← Nat.add_assoc, bw2]; exact Nat.le_trans ih (Nat.le_add_right _ _)
theorem bw2_0 {G : Nat → Nat} {x ol n0 : Nat} (i : Nat) : n0 ≤ bw2 G x ol n0 i := by
  have := bw2_up (G := G) (x := x) (ol := ol) (n0 := n0) (i := 0) i
  rw [Nat.zero_add] at this
  have h2 : bw2 G x ol n0 0 = n0 := by rw [bw2]
  omega
theorem bw1_up {G : Nat → Nat} {sl ol oc i : Nat} : ∀ d, bw1 G sl ol oc i ≤ bw1 G sl ol oc (i + d) := by
  intro d
  induction d with
  | zero => exact Nat.le_refl _
  | succ d ih => rw [← Nat.add_assoc, bw1]; exact Nat.le_trans ih (bw2_0 _)
theorem kr1_n {kd : Int32} {v : Nat} {J2 J : Nat → Int32} {G : Nat → Nat} {sl ol oc : Nat} {t : rT × (Nat → Int32)} (h : t.1.2.2.2 = 0) : ∀ i, (kr1 kd v J2 J G sl ol oc t i).1.2.2.2 ≤ bw1 G sl ol oc i := by
  intro i
  induction i with
  | zero => rw [kr1, bw1, h]; exact Nat.le_refl _
  | succ i ih =>
    rw [kr1, bw1, krS]
    split
    · exact Nat.le_trans ih (bw2_0 _)
    · rw [kr2_n]; exact bw2_m ih oc
theorem kr_b {kd : Int32} {v : Nat} {J2 J : Nat → Int32} {G : Nat → Nat} {sl ol oc sc i : Nat} {t : rT × (Nat → Int32)} (h : t.1.2.2.2 = 0) (hb : bw1 G sl ol oc sc ≤ 2000) (hi : i < sc) : bw2 G (sl + i) ol (kr1 kd v J2 J G sl ol oc t i).1.2.2.2 oc ≤ 2000 := by
  refine Nat.le_trans (bw2_m (kr1_n h i) oc) ?_
  have e : bw2 G (sl + i) ol (bw1 G sl ol oc i) oc = bw1 G sl ol oc (i + 1) := by rw [bw1]
  rw [e]
  have := bw1_up (G := G) (sl := sl) (ol := ol) (oc := oc) (i := i + 1) (sc - (i + 1))
  rw [show i + 1 + (sc - (i + 1)) = sc by omega] at this
  omega
theorem kr_b2 {G : Nat → Nat} {lv : Nat → Int32} {x ol oc i : Nat} {t : rT} (hb : bw2 G x ol t.2.2.2 oc ≤ 2000) (hi : i < oc) : (kr2 G lv x ol t i).2.2.2 + G (x * 32 + (ol + i)) ≤ 2000 := by
  rw [kr2_n]
  have e : bw2 G x ol t.2.2.2 i + G (x * 32 + (ol + i)) = bw2 G x ol t.2.2.2 (i + 1) := by rw [bw2]
  rw [e]
  have := bw2_up (G := G) (x := x) (ol := ol) (n0 := t.2.2.2) (i := i + 1) (oc - (i + 1))
  rw [show i + 1 + (oc - (i + 1)) = oc by omega] at this
  omega
theorem lW_xW {g : gX} {w : wd_M} {x : Nat} {pc : Int32} {mo : Int32} {no : Int32} {sz : Int32} {rs : Int32} {wr : Int32} {lk : Nat → Int32} {ps : Nat → Option Nat} {fs : Nat → Int32} {ss : Nat → Int32} {ds : Nat → Int32} {lv : Nat → Int32} {lv' : Nat → Int32} : lW g (xW g w x pc mo no sz rs wr lk ps fs ss ds lv) (x + 8) lv' = xW g w x pc mo no sz rs wr lk ps fs ss ds lv' := by
  exact xW_s8
theorem c_mea (l : Launch) (g : gX) (s0 : Nat) (w : wd_M) (x : Nat) (hs0 : s0 ≤ x) (mo : Int32) (no : Int32) (rs : Int32) (wr : Int32) (lk : Nat → Int32) (ps : Nat → Option Nat) (fs : Nat → Int32) (ss : Nat → Int32) (ds : Nat → Int32) (lv : Nat → Int32) (P : Nat) (hP4 : P ≤ 40) (Z : Nat) (qa : Nat → Nat) (KD LI : Nat → Int32) (ia ib PM : Nat → Nat) (hsh : shp P qa ia ib PM) (CS CG : Nat → Int32) (TF : Nat → Nat → Nat) (JF : Nat → Nat → Int32) (hpl : poolN g w x P ps qa KD LI ia ib PM CS CG TF JF) (a : Nat) (ha1 : 1 ≤ a) (haP : a ≤ P) (x1 : Nat) (hx1 : x1 < 32) : Met l yX0_measure (Cond.code yX0_measure cX0_measure 4 (none) :: tg) ({ frames := 2, cells := 0, slots := 0, locals := 48 }) (cP g s0 (xW g w x (nI P) mo no (nI Z) rs wr lk ps fs ss ds lv) [.ref (qa a), .int (nI x1), .ref (x + 8)]) (cV g s0 (fun w' => w' = (xW g w x (nI P) mo no (nI Z) rs wr lk ps fs ss ds (lvF (KD a) (ia a) (JF (ia a)) x1 lv)))) 0 0 (cA s0) := by
  obtain ⟨a1, a2, a3, a4, a5, a6⟩ := hpl a ha1 haP
  obtain ⟨s1, s2, s3, -⟩ := hsh.2.1 a ha1 haP
  by_cases c0 : ia a = 0
  · have e_a : oN qa (ia a) = none := by rw [c0]; exact oN_0
    dsimp only at a4
    rw [e_a] at a4
    have h9 := c_X0_measure_n l g s0 (xW g w x (nI P) mo no (nI Z) rs wr lk ps fs ss ds lv) (x + 8) (by omega) lv x1 hx1 (qa a) (nI a) (KD a) (LI a) (oN qa (ib a)) (lN (PM a)) (CS a) (CG a) ((xW_out (by omega)).trans a4) (by omega)
    rw [lW_self xW_8, lW_xW] at h9
    rw [lvF, if_pos c0]
    exact h9
  · obtain ⟨b1, b2, b3, b4, b5, b6⟩ := hpl (ia a) (by omega) (by omega)
    have e_a : oN qa (ia a) = some (qa (ia a)) := oN_s c0
    dsimp only at a4 b4
    rw [e_a] at a4
    have h9 := c_X0_measure_s l g s0 (xW g w x (nI P) mo no (nI Z) rs wr lk ps fs ss ds lv) (x + 8) (by omega) lv x1 hx1 (qa (ia a)) (nI (ia a)) (KD (ia a)) (LI (ia a)) (oN qa (ia (ia a))) (oN qa (ib (ia a))) (lN (PM (ia a))) (CS (ia a)) (CG (ia a)) ((xW_out (by omega)).trans b4) (JF (ia a)) ((xW_out (by omega)).trans b6) (by omega) (qa a) (nI a) (KD a) (LI a) (oN qa (ib a)) (lN (PM a)) (CS a) (CG a) ((xW_out (by omega)).trans a4) (by omega)
    rw [lW_self xW_8, lW_xW] at h9
    rw [lvF, if_neg c0]
    exact h9
set_option maxHeartbeats 4000000 in
set_option maxRecDepth 100000 in
theorem lp_gb {p : Program} {l : Launch} {e : Env} {R : Room} {s : State} {m : MethodId} {args : Array Value} {below : List Frame} {meth : Method} {c : Code} {Q : State → Prop} {H0 : Heap} {cells slots : Nat} (g : gX) (s0 : Nat) (w : wd_M) (x : Nat) (hs0 : s0 ≤ x) (mo : Int32) (no : Int32) (rs : Int32) (wr : Int32) (lk : Nat → Int32) (ps : Nat → Option Nat) (fs : Nat → Int32) (ss : Nat → Int32) (ds : Nat → Int32) (lv : Nat → Int32) (P : Nat) (hP4 : P ≤ 40) (Z : Nat) (qa : Nat → Nat) (KD LI : Nat → Int32) (ia ib PM : Nat → Nat) (hsh : shp P qa ia ib PM) (CS CG : Nat → Int32) (TF : Nat → Nat → Nat) (JF : Nat → Nat → Int32) (hpl : poolN g w x P ps qa KD LI ia ib PM CS CG TF JF) (a : Nat) (ha1 : 1 ≤ a) (haP : a ≤ P) (hx : p.tables.exec = Jvm.exec) (hb : c.code = cX3_goesBeyond) (hml : c.maxLocals = 4) (hown : s.vm.findClass RX3 = some m.cls) (hts : ∀ w ∈ Cond.code yX3_goesBeyond cX3_goesBeyond 4 (some .boolean) :: tg, w.before args s = true) (hK : gK g s) (h0s : s0 ≤ H0.size) (hRm : 2 ≤ R.frames ∧ 42 ≤ R.locals) (hcs : cells + 0 ≤ R.cells ∧ slots + 0 ≤ R.slots) (kr : ∀ (H : Heap) (locs : List Loc) (ls : Array Slot), gby (PM a) KD JF mo a = true → gP g (xW g w x (nI P) mo no (nI Z) rs wr lk ps fs ss ds lv) H → gS s0 H0 H locs → W p l e R s m args below meth c H locs cells slots Q (F0 m 46 ls [])) (kx : ∀ (H : Heap) (locs : List Loc) (ls : Array Slot), (gby (PM a) KD JF mo a = false) → gP g (xW g w x (nI P) mo no (nI Z) rs wr lk ps fs ss ds lv) H → gS s0 H0 H locs → lv_has ls 4 [(0, .ref x)] → W p l e R s m args below meth c H locs cells slots Q (F0 m 54 ls [])) :
    ∀ (n i : Nat), i ≤ a → a + 1 ≤ i + n → (gby (PM a) KD JF mo i = false) → ∀ (H : Heap) (locs : List Loc) (ls : Array Slot), gP g (xW g w x (nI P) mo no (nI Z) rs wr lk ps fs ss ds lv) H → gS s0 H0 H locs → lv_has ls 4 [(0, .ref x), (1, .ref (qa a)), (2, .int (nI (i + 1)))] → W p l e R s m args below meth c H locs cells slots Q (F0 m 2 ls []) := by
  intro n
  induction n with
  | zero =>
    intro i h1 h2
    exact absurd h2 (by omega)
  | succ n ih =>
    intro i hi hin hex H locs ls hP hS hl
    have hI : poolN g w x P ps qa KD LI ia ib PM CS CG TF JF ∧ True := ⟨hpl, trivial⟩
    obtain ⟨a1_a, a2_a, a3_a, a4_a, a5_a, a6_a⟩ := hI.1 a ha1 haP
    dsimp only at a4_a
    refine lv_iload_n hx hb dX3_goesBeyond_2 rfl (lv_at hl 2 rfl) ?_
    refine lv_aload_n hx hb dX3_goesBeyond_3 rfl (lv_at hl 1 rfl) ?_
    refine wd_get (ci := 1) (v := .int (nI a)) (C := RX0) (T := TX0) (N := 10) hx hb hts iwX0 hown hK.1 hP ((xW_out (by omega)).trans a4_a) rfl 0 (by decide) (hts _ (tg_tail _ tw_123)) (fun _ h9 => h9) rfl dX3_goesBeyond_4 ?_
    refine lv_icmp_gt (tgt := 54) hx hb dX3_goesBeyond_7 (by decide) (fun c_7 => ?_) (fun c_7 => ?_)
    · have c_7 := (nI_ltI (a := a) (b := (i + 1)) (by omega) (by omega)).mp c_7
      have e9 : i = a := by omega
      try rw [e9] at hP
      try rw [e9] at hl
      try rw [e9] at hex
      exact kx H locs ls hex hP hS (lv_sub hl [0] rfl)
    · have c_7 := mt (nI_ltI (a := a) (b := (i + 1)) (by omega) (by omega)).mpr c_7
      obtain ⟨a1_i1, a2_i1, a3_i1, a4_i1, a5_i1, a6_i1⟩ := hI.1 (i + 1) (by omega) (by omega)
      dsimp only at a4_i1
      refine lv_aload_n hx hb dX3_goesBeyond_10 rfl (lv_at hl 0 rfl) ?_
      refine lv_iload_n hx hb dX3_goesBeyond_11 rfl (lv_at hl 2 rfl) ?_
      refine cr_Vo (As := [.int (nI (i + 1))]) (rest := []) ⟨hx, hb, hml, hown, hts⟩ (c_X3_known l g s0  w x hs0 mo no (nI Z) rs wr lk ps fs ss ds lv P hP4 (nI (i + 1))) (cw_V 1 hts tg_tail tw_155 tw_157 tp_1 tw_1 tw_158 rfl rfl (by decide +kernel) ⟨Nat.le_trans (by decide) hRm.1, Nat.le_trans (by decide) hRm.2⟩) hK hP h0s hS (xW_0) rfl rfl rfl hl.1 rfl (Nat.le_of_ble_eq_true rfl) dX3_goesBeyond_12 hcs (fun r9 w9 H locs hw hP hS => ?_)
      have hk9 : r9 = some (qa (i + 1)) ∧ w9 = (xW g w x (nI P) mo no (nI Z) rs wr lk ps fs ss ds lv) := by
        rcases hw with ⟨n9, -, -⟩ | ⟨u9, h1, h2, v9, e9, hw9⟩
        · exact absurd ⟨(nI_leI (by omega) (by omega)).mpr (by omega), (nI_leI (by omega) (by omega)).mpr (by omega)⟩ n9
        · have e8 := (nI_eq (by omega) (by omega)).mp v9; rw [← e8] at e9; exact ⟨e9.trans a1_i1, hw9⟩
      obtain ⟨e_r9, hw9⟩ := hk9
      rw [hw9] at hP
      subst e_r9
      show W p l e _ s m _ below meth c H locs _ _ _ (F0 m 15 ls (.ref (qa (i + 1)) :: []))
      refine lv_astore_n (lv' := [(3, .ref (qa (i + 1))), (0, .ref x), (1, .ref (qa a)), (2, .int (nI (i + 1)))]) hx hb dX3_goesBeyond_15 rfl hl (by decide) rfl (fun ls hl => ?_)
      refine lv_aload_n hx hb dX3_goesBeyond_16 rfl (lv_at hl 0 rfl) ?_
      refine lv_ifnull hx hb dX3_goesBeyond_17 ?_
      refine lv_aload_n hx hb dX3_goesBeyond_20 rfl (lv_at hl 2 rfl) ?_
      refine lv_iload_n hx hb dX3_goesBeyond_21 rfl (lv_at hl 3 rfl) ?_
      refine cr_Vi (As := [.int (nI (i + 1))]) (rest := []) ⟨hx, hb, hml, hown, hts⟩ (c_made l g s0 (xW g w x (nI P) mo no (nI Z) rs wr lk ps fs ss ds lv) (qa a) (by omega) (nI a) (KD a) (LI a) (oN qa (ia a)) (oN qa (ib a)) (CS a) (CG a) (tN (TF a)) (JF a) (i + 1) (by omega) (PM a) a3_a ((xW_out (by omega)).trans a4_a) ((xW_out (by omega)).trans a5_a) ((xW_out (by omega)).trans a6_a)) (cw_V 1 hts tg_tail tw_195 tw_196 tw_197 tw_5 tw_198 rfl rfl (by decide +kernel) ⟨Nat.le_trans (by decide) hRm.1, Nat.le_trans (by decide) hRm.2⟩) hK hP h0s hS ((xW_out (by omega)).trans a4_a) rfl rfl rfl hl.1 rfl (Nat.le_of_ble_eq_true rfl) dX3_goesBeyond_22 hcs (fun r9 w9 H locs hw hP hS => ?_)
      obtain ⟨e_r9, hw9⟩ := hw
      rw [hw9] at hP
      subst e_r9
      refine lv_if_eq (tgt := 48) hx hb dX3_goesBeyond_25 (by decide) (fun c_25 => ?_) (fun c_25 => ?_)
      · have c_25 := zB_0.mp c_25
        refine lv_iinc (v := nI (i + 1 + 1)) (lv' := [(2, .int (nI (i + 1 + 1))), (3, .ref (qa (i + 1))), (0, .ref x), (1, .ref (qa a))]) hx hb dX3_goesBeyond_48 hl (k := 3) rfl (nI_1 _) (by decide) rfl (fun ls hl => ?_)
        refine lv_goto (tgt := 2) hx hb dX3_goesBeyond_51 (by decide) ?_
        have hl : lv_has ls 4 [(0, .ref x), (1, .ref (qa a)), (2, .int (nI (i + 1 + 1)))] := lv_sub hl [2, 3, 0] rfl
        have e8 : ([(0, .ref x), (1, .ref (qa a)), (2, .int (nI (i + 1 + 1)))] : List (Nat × Value)) = [(0, .ref x), (1, .ref (qa a)), (2, .int (nI ((i + 1) + 1)))] := by rfl
        rw [e8] at hl
        exact ih (i + 1) (by omega) (by omega) (gby_f hex (fun q9 => c_25 q9.1)) _ _ ls hP hS hl
      · have c_25 := zB_1.mp c_25
        refine lv_aload_n hx hb dX3_goesBeyond_28 rfl (lv_at hl 0 rfl) ?_
        refine cr_Vi (As := []) (rest := []) ⟨hx, hb, hml, hown, hts⟩ (c_X0_walks l g s0 (xW g w x (nI P) mo no (nI Z) rs wr lk ps fs ss ds lv) (qa (i + 1)) (qa (i + 1) + 1) (qa (i + 1) + 2) (nI (i + 1)) (KD (i + 1)) (LI (i + 1)) (oN qa (ia (i + 1))) (oN qa (ib (i + 1))) (lN (PM (i + 1))) (CS (i + 1)) (CG (i + 1)) ((xW_out (by omega)).trans a4_i1)) (cw_V 0 hts tg_tail tw_271 tw_235 tw_236 tw_5 tw_237 rfl rfl (by decide +kernel) ⟨Nat.le_trans (by decide) hRm.1, Nat.le_trans (by decide) hRm.2⟩) hK hP h0s hS ((xW_out (by omega)).trans a4_i1) rfl rfl rfl hl.1 rfl (Nat.le_of_ble_eq_true rfl) dX3_goesBeyond_29 hcs (fun r9 w9 H locs hw hP hS => ?_)
        obtain ⟨e_r9, hw9⟩ := hw
        rw [hw9] at hP
        subst e_r9
        refine lv_if_eq (tgt := 48) hx hb dX3_goesBeyond_32 (by decide) (fun c_32 => ?_) (fun c_32 => ?_)
        · have c_32 := zB_0.mp c_32
          refine lv_iinc (v := nI (i + 1 + 1)) (lv' := [(2, .int (nI (i + 1 + 1))), (3, .ref (qa (i + 1))), (0, .ref x), (1, .ref (qa a))]) hx hb dX3_goesBeyond_48 hl (k := 3) rfl (nI_1 _) (by decide) rfl (fun ls hl => ?_)
          refine lv_goto (tgt := 2) hx hb dX3_goesBeyond_51 (by decide) ?_
          have hl : lv_has ls 4 [(0, .ref x), (1, .ref (qa a)), (2, .int (nI (i + 1 + 1)))] := lv_sub hl [2, 3, 0] rfl
          have e8 : ([(0, .ref x), (1, .ref (qa a)), (2, .int (nI (i + 1 + 1)))] : List (Nat × Value)) = [(0, .ref x), (1, .ref (qa a)), (2, .int (nI ((i + 1) + 1)))] := by rfl
          rw [e8] at hl
          exact ih (i + 1) (by omega) (by omega) (gby_f hex (fun q9 => c_32 q9.2.1)) _ _ ls hP hS hl
        · have c_32 := zB_1.mp c_32
          refine lv_aload_n hx hb dX3_goesBeyond_35 rfl (lv_at hl 0 rfl) ?_
          refine cr_Vi (As := []) (rest := []) ⟨hx, hb, hml, hown, hts⟩ (c_prs l g s0 (xW g w x (nI P) mo no (nI Z) rs wr lk ps fs ss ds lv) (qa (i + 1)) (by omega) (nI (i + 1)) (KD (i + 1)) (LI (i + 1)) (oN qa (ia (i + 1))) (oN qa (ib (i + 1))) (CS (i + 1)) (CG (i + 1)) (tN (TF (i + 1))) (JF (i + 1)) (PM (i + 1)) ((xW_out (by omega)).trans a4_i1) ((xW_out (by omega)).trans a5_i1) ((xW_out (by omega)).trans a6_i1)) (cw_V 0 hts tg_tail tw_272 tw_273 tw_274 tw_5 tw_275 rfl rfl (by decide +kernel) ⟨Nat.le_trans (by decide) hRm.1, Nat.le_trans (by decide) hRm.2⟩) hK hP h0s hS ((xW_out (by omega)).trans a4_i1) rfl rfl rfl hl.1 rfl (Nat.le_of_ble_eq_true rfl) dX3_goesBeyond_36 hcs (fun r9 w9 H locs hw hP hS => ?_)
          obtain ⟨e_r9, hw9⟩ := hw
          rw [hw9] at hP
          subst e_r9
          refine lv_aload_n hx hb dX3_goesBeyond_39 rfl (lv_at hl 1 rfl) ?_
          refine wd_get (ci := 4) (v := .int (mo)) (C := RX3) (T := TX3) (N := 6) hx hb hts iwX3 hown hK.1 hP (xW_0) rfl 5 (by decide) (hts _ (tg_tail _ tw_74)) (fun _ h9 => h9) rfl dX3_goesBeyond_40 ?_
          refine lv_icmp_le (tgt := 48) hx hb dX3_goesBeyond_43 (by decide) (fun c_43 => ?_) (fun c_43 => ?_)
          · refine lv_iinc (v := nI (i + 1 + 1)) (lv' := [(2, .int (nI (i + 1 + 1))), (3, .ref (qa (i + 1))), (0, .ref x), (1, .ref (qa a))]) hx hb dX3_goesBeyond_48 hl (k := 3) rfl (nI_1 _) (by decide) rfl (fun ls hl => ?_)
            refine lv_goto (tgt := 2) hx hb dX3_goesBeyond_51 (by decide) ?_
            have hl : lv_has ls 4 [(0, .ref x), (1, .ref (qa a)), (2, .int (nI (i + 1 + 1)))] := lv_sub hl [2, 3, 0] rfl
            have e8 : ([(0, .ref x), (1, .ref (qa a)), (2, .int (nI (i + 1 + 1)))] : List (Nat × Value)) = [(0, .ref x), (1, .ref (qa a)), (2, .int (nI ((i + 1) + 1)))] := by rfl
            rw [e8] at hl
            exact ih (i + 1) (by omega) (by omega) (gby_f hex (fun q9 => i_le c_43 q9.2.2)) _ _ ls hP hS hl
          · exact kr H locs ls (by have h9 := gby_t (pm := PM a) (KD := KD) (JF := JF) (mo := mo) (k := i) ⟨c_25, c_32, i_nle c_43⟩ (a - (i + 1)); rw [show i + 1 + (a - (i + 1)) = a by omega] at h9; exact h9) hP hS

set_option maxHeartbeats 4000000 in
set_option maxRecDepth 100000 in
theorem c_X3_goesBeyond (l : Launch) (g : gX) (s0 : Nat) (w : wd_M) (x : Nat) (hs0 : s0 ≤ x) (mo : Int32) (no : Int32) (rs : Int32) (wr : Int32) (lk : Nat → Int32) (ps : Nat → Option Nat) (fs : Nat → Int32) (ss : Nat → Int32) (ds : Nat → Int32) (lv : Nat → Int32) (P : Nat) (hP4 : P ≤ 40) (Z : Nat) (qa : Nat → Nat) (KD LI : Nat → Int32) (ia ib PM : Nat → Nat) (hsh : shp P qa ia ib PM) (CS CG : Nat → Int32) (TF : Nat → Nat → Nat) (JF : Nat → Nat → Int32) (hpl : poolN g w x P ps qa KD LI ia ib PM CS CG TF JF) (a : Nat) (ha1 : 1 ≤ a) (haP : a ≤ P) : Met l yX3_goesBeyond (Cond.code yX3_goesBeyond cX3_goesBeyond 4 (some .boolean) :: tg) ({ frames := 2, cells := 0, slots := 0, locals := 42 }) (cP g s0 (xW g w x (nI P) mo no (nI Z) rs wr lk ps fs ss ds lv) [.ref x, .ref (qa a)]) (cI g s0 (fun r w' => r = zB (gby (PM a) KD JF mo a = true) ∧ w' = (xW g w x (nI P) mo no (nI Z) rs wr lk ps fs ss ds lv))) 0 0 (cA s0) := by
  refine Met.ofW (cc := cX3_goesBeyond) (maxL := 4) (ret := some .boolean) (by decide) rfl ?_
  intro p e s m args below meth c s₁ B9 hml hv
  obtain ⟨rfl, h0s, hP, hK⟩ := hv
  have hx := B9.exec
  have hb := B9.bytes
  have hr := B9.returns
  have hts := atoms_spec (ws := Cond.code yX3_goesBeyond cX3_goesBeyond 4 (some .boolean) :: tg) B9.pre
  have hown : s.vm.findClass RX3 = some m.cls := findClass_of_methodNamed B9.named
  have hlocks := B9.notSynchronized
  have hS : gS s0 s.heap s.heap [] := va_S.rf
  have hRm : 2 ≤ (headSpec (Cond.code yX3_goesBeyond cX3_goesBeyond 4 (some .boolean) :: tg) ({ frames := 2, cells := 0, slots := 0, locals := 42 })).room.frames ∧ 42 ≤ (headSpec (Cond.code yX3_goesBeyond cX3_goesBeyond 4 (some .boolean) :: tg) ({ frames := 2, cells := 0, slots := 0, locals := 42 })).room.locals := ⟨Nat.le_refl _, Nat.le_refl _⟩
  have hcs : 0 + 0 ≤ (headSpec (Cond.code yX3_goesBeyond cX3_goesBeyond 4 (some .boolean) :: tg) ({ frames := 2, cells := 0, slots := 0, locals := 42 })).room.cells ∧ 0 + 0 ≤ (headSpec (Cond.code yX3_goesBeyond cX3_goesBeyond 4 (some .boolean) :: tg) ({ frames := 2, cells := 0, slots := 0, locals := 42 })).room.slots := ⟨Nat.zero_le _, Nat.zero_le _⟩
  have hl := lv_entry ([.ref x, .ref (qa a)]) (n := 4) (Nat.le_of_ble_eq_true rfl)
  rw [lg_entry_eq]
  generalize (lg_sl ([.ref x, .ref (qa a)]) ++ List.replicate (4 - (lg_sl ([.ref x, .ref (qa a)])).length) Slot.unset).toArray = ls at hl ⊢
  have hl : lv_has ls 4 [(0, .ref x), (1, .ref (qa a))] := hl
  refine lv_iconst (v := nI 1) hx hb dX3_goesBeyond_0 (by decide) ?_
  refine lv_istore_n (lv' := [(2, .int (nI 1)), (0, .ref x), (1, .ref (qa a))]) hx hb dX3_goesBeyond_1 rfl hl (by decide) rfl (fun ls hl => ?_)
  have hl : lv_has ls 4 [(0, .ref x), (1, .ref (qa a)), (2, .int (nI 1))] := lv_sub hl [1, 2, 0] rfl
  have e8 : ([(0, .ref x), (1, .ref (qa a)), (2, .int (nI 1))] : List (Nat × Value)) = [(0, .ref x), (1, .ref (qa a)), (2, .int (nI (0 + 1)))] := by rfl
  rw [e8] at hl
  refine lp_gb g s0 w x hs0 mo no rs wr lk ps fs ss ds lv P hP4 Z qa KD LI ia ib PM hsh CS CG TF JF hpl a ha1 haP hx hb hml hown hts hK h0s hRm hcs (fun H locs ls hg hP hS => ?_) ?_ (a + 1) 0 (by omega) (by omega) (by rw [gby]) _ _ ls hP hS hl
  · refine lv_iconst (v := nI 1) hx hb dX3_goesBeyond_46 (by decide) ?_
    exact W.zret (ty := .boolean) (v := nI 1) hx hb hr (by rfl) (fun t9 ht hW => ⟨⟨_, (xW g w x (nI P) mo no (nI Z) rs wr lk ps fs ss ds lv), rfl, ⟨(zB_t hg).symm, rfl⟩, cB_of ht hP⟩, hS.F ht⟩) hS.2.2 dX3_goesBeyond_47
  intro H locs ls hex hP hS hl
  refine lv_iconst (v := nI 0) hx hb dX3_goesBeyond_54 (by decide) ?_
  exact W.zret (ty := .boolean) (v := nI 0) hx hb hr (by rfl) (fun t9 ht hW => ⟨⟨_, (xW g w x (nI P) mo no (nI Z) rs wr lk ps fs ss ds lv), rfl, ⟨(zB_f (by rw [hex]; exact Bool.false_ne_true)).symm, rfl⟩, cB_of ht hP⟩, hS.F ht⟩) hS.2.2 dX3_goesBeyond_55

