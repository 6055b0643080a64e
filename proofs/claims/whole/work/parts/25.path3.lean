/-! THE CLASS: over one PATH, over two; levels -/
def lW (g : gX) (w : wd_M) (la : Nat) (lv : Nat → Int32) : wd_M := fun a => if a = la then some (wd_iA (g.2 0) 32 (lv)) else w a
theorem lW_0 {g : gX} {w : wd_M} {la : Nat} {lv : Nat → Int32} : (lW g w la lv) la = some (wd_iA (g.2 0) 32 (lv)) := by
  unfold lW
  rw [if_pos rfl]
theorem lW_out {g : gX} {w : wd_M} {la : Nat} {lv : Nat → Int32} {a : Nat} (h9 : a < la ∨ la + 1 ≤ a) : (lW g w la lv) a = w a := by
  unfold lW
  rw [if_neg (by omega)]
theorem lW_s0 {g : gX} {w : wd_M} {la : Nat} {lv : Nat → Int32} {lv' : Nat → Int32} : wd_up (lW g w la lv) la (wd_iA (g.2 0) 32 (lv')) = (lW g w la lv') := by
  funext b
  unfold wd_up lW
  by_cases h9 : b = la
  · rw [if_pos h9]
    subst h9
    rw [if_pos rfl]
  · rw [if_neg h9]
    simp only [if_neg h9]
theorem lW_self {g : gX} {w : wd_M} {la : Nat} {lv : Nat → Int32} (h0 : w la = some (wd_iA (g.2 0) 32 (lv))) : (lW g w la lv) = w := by
  funext b
  unfold lW
  by_cases e0 : b = la
  · rw [ if_pos e0, e0]; exact h0.symm
  rw [if_neg e0]
def mi (J : Nat → Int32) (edge lvl : Int32) (t : (Nat → Int32) × Int32) : Nat → (Nat → Int32) × Int32
  | 0 => t
  | y + 1 => if bt edge y = true then (upd (mi J edge lvl t y).1 y lvl, (mi J edge lvl t y).2 ||| J y) else mi J edge lvl t y
termination_by y => y
abbrev oT : Type := Int32 × Int32 × (Nat → Int32)
/-- measureWalk: seen, edge, levels behind k rounds -/
def moS (J : Nat → Int32) (t : oT) (k : Nat) : oT := if t.2.1 = 0 then t else (t.1 ||| t.2.1, (mi J t.2.1 (nI (k + 1)) (t.2.2, nI 0) 32).2 &&& ((t.1 ||| t.2.1) ^^^ (-1)), (mi J t.2.1 (nI (k + 1)) (t.2.2, nI 0) 32).1)
def mo1 (J : Nat → Int32) (t : oT) : Nat → oT
  | 0 => t
  | k + 1 => moS J (mo1 J t k) k
termination_by k => k
theorem mo1_fix {J : Nat → Int32} {t : oT} {k : Nat} (h : (mo1 J t k).2.1 = 0) : ∀ d, mo1 J t (k + d) = mo1 J t k := by
  intro d
  induction d with
  | zero => rfl
  | succ d ih =>
    show mo1 J t (k + d + 1) = _
    rw [mo1, ih, moS, if_pos h]
def ms1 (lv : Nat → Int32) : Nat → Nat → Int32
  | 0 => lv
  | y + 1 => upd (ms1 lv y) y (nI 1)
termination_by y => y
def mwF (J : Nat → Int32) (x : Nat) (lv : Nat → Int32) : Nat → Int32 := (mo1 J (nI 0, J x, lv) 32).2.2
set_option maxHeartbeats 4000000 in
set_option maxRecDepth 100000 in
theorem lp_jb1 {p : Program} {l : Launch} {e : Env} {R : Room} {s : State} {m : MethodId} {args : Array Value} {below : List Frame} {meth : Method} {c : Code} {Q : State → Prop} {H0 : Heap} {cells slots : Nat} (g : gX) (s0 : Nat) (w : wd_M) (q : Nat) (hs0 : s0 ≤ q) (k : Int32) (kd : Int32) (li : Int32) (inn : Option Nat) (oth : Option Nat) (pa : Int64) (cs : Int32) (cg : Int32) (f : Nat → Int32) (j : Nat → Int32) (gr : Int32) (q2 : Nat) (k2 kd2 li2 : Int32) (inn2 oth2 : Option Nat) (pa2 : Int64) (cs2 cg2 : Int32) (G : Nat → Nat) (h29 : mB G) (L2 : w q2 = some (pO k2 kd2 li2 inn2 oth2 pa2 (q2 + 1) (q2 + 2) cs2 cg2)) (L2t : w (q2 + 1) = some (wd_iA (g.2 0) 1024 (tN G))) (hne2 : q2 + 3 ≤ q ∨ q + 3 ≤ q2) (J2 : Nat → Int32) (L2j : w (q2 + 2) = some (wd_iA (g.2 0) 32 J2)) (hx : p.tables.exec = Jvm.exec) (hb : c.code = cX0_joinByStep) (hml : c.maxLocals = 4) (hown : s.vm.findClass RX0 = some m.cls) (hts : ∀ w ∈ Cond.code yX0_joinByStep cX0_joinByStep 4 (none) :: tg, w.before args s = true) (hK : gK g s) (h0s : s0 ≤ H0.size) (hRm : 2 ≤ R.frames ∧ 43 ≤ R.locals) (hcs : cells + 0 ≤ R.cells ∧ slots + 0 ≤ R.slots)  (kx : ∀ (H : Heap) (locs : List Loc) (ls : Array Slot), gP g (pW g w q k kd li inn oth pa cs cg f (jb1 J2 j 32)) H → gS s0 H0 H locs → lv_has ls 4 [(0, .ref q), (2, .int (gr))] → W p l e R s m args below meth c H locs cells slots Q (F0 m 26 ls [])) :
    ∀ (n x : Nat), x ≤ 32 → 32 + 1 ≤ x + n → ∀ (H : Heap) (locs : List Loc) (ls : Array Slot), gP g (pW g w q k kd li inn oth pa cs cg f (jb1 J2 j x)) H → gS s0 H0 H locs → lv_has ls 4 [(0, .ref q), (1, .ref q2), (2, .int (gr)), (3, .int (nI x))] → W p l e R s m args below meth c H locs cells slots Q (F0 m 2 ls []) := by
  intro n
  induction n with
  | zero =>
    intro x h1 h2
    exact absurd h2 (by omega)
  | succ n ih =>
    intro x hi hin H locs ls hP hS hl
    refine lv_iload_n hx hb dX0_joinByStep_2 rfl (lv_at hl 3 rfl) ?_
    refine lv_bipush (v := nI 32) hx hb dX0_joinByStep_3 (by decide) ?_
    refine lv_icmp_ge (tgt := 26) hx hb dX0_joinByStep_5 (by decide) (fun c_5 => ?_) (fun c_5 => ?_)
    · have c_5 := (nI_leI (a := 32) (b := x) (by omega) (by omega)).mp c_5
      have e9 : x = 32 := by omega
      try rw [e9] at hP
      try rw [e9] at hl
      exact kx H locs ls hP hS (lv_sub hl [0, 2] rfl)
    · have c_5 := mt (nI_leI (a := 32) (b := x) (by omega) (by omega)).mpr c_5
      refine lv_aload_n hx hb dX0_joinByStep_8 rfl (lv_at hl 0 rfl) ?_
      refine wd_get (ci := 1) (v := .ref (q + 2)) (C := RX0) (T := TX0) (N := 10) hx hb hts iwX0 hown hK.1 hP (pW_0) rfl 7 (by decide) (hts _ (tg_tail _ tw_130)) (fun _ h9 => h9) rfl dX0_joinByStep_9 ?_
      refine lv_iload_n hx hb dX0_joinByStep_12 rfl (lv_at hl 3 rfl) ?_
      refine lv_aload_n hx hb dX0_joinByStep_13 rfl (lv_at hl 1 rfl) ?_
      refine wd_get (ci := 1) (v := .ref (q2 + 2)) (C := RX0) (T := TX0) (N := 10) hx hb hts iwX0 hown hK.1 hP ((pW_out (by omega)).trans L2) rfl 7 (by decide) (hts _ (tg_tail _ tw_130)) (fun _ h9 => h9) rfl dX0_joinByStep_14 ?_
      refine lv_iload_n hx hb dX0_joinByStep_17 rfl (lv_at hl 3 rfl) ?_
      refine wd_ildN hx hb hK.1 hP 0 (k := x) ((pW_out (by omega)).trans L2j) rfl (by omega) (by decide) dX0_joinByStep_18 ?_
      refine wd_istN hx hb hK.1 hP hS (by omega) 0 (k := x) (pW_2) rfl (by omega) (by decide) dX0_joinByStep_19 (fun H locs hP hS hz => ?_)
      have hP : gP g (pW g w q k kd li inn oth pa cs cg f (upd (jb1 J2 j x) x (J2 x))) H := by have h9 : gP g (wd_up (pW g w q k kd li inn oth pa cs cg f (jb1 J2 j x)) (q + 2) (wd_iA (g.2 0) 32 (upd (jb1 J2 j x) x (J2 x)))) H := hP; rw [pW_s2] at h9; exact h9
      refine lv_iinc (v := nI (x + 1)) (lv' := [(3, .int (nI (x + 1))), (0, .ref q), (1, .ref q2), (2, .int (gr))]) hx hb dX0_joinByStep_20 hl (k := 3) rfl (nI_1 _) (by decide) rfl (fun ls hl => ?_)
      refine lv_goto (tgt := 2) hx hb dX0_joinByStep_23 (by decide) ?_
      have e8 : (pW g w q k kd li inn oth pa cs cg f (upd (jb1 J2 j x) x (J2 x))) = (pW g w q k kd li inn oth pa cs cg f (jb1 J2 j (x + 1))) := by rw [jb1]
      rw [e8] at hP
      have hl : lv_has ls 4 [(0, .ref q), (1, .ref q2), (2, .int (gr)), (3, .int (nI (x + 1)))] := lv_sub hl [1, 2, 3, 0] rfl
      exact ih (x + 1) (by omega) (by omega) _ _ ls hP hS hl

set_option maxHeartbeats 4000000 in
set_option maxRecDepth 100000 in
theorem c_X0_joinByStep (l : Launch) (g : gX) (s0 : Nat) (w : wd_M) (q : Nat) (hs0 : s0 ≤ q) (k : Int32) (kd : Int32) (li : Int32) (inn : Option Nat) (oth : Option Nat) (pa : Int64) (cs : Int32) (cg : Int32) (f : Nat → Int32) (j : Nat → Int32) (gr : Int32) (q2 : Nat) (k2 kd2 li2 : Int32) (inn2 oth2 : Option Nat) (pa2 : Int64) (cs2 cg2 : Int32) (G : Nat → Nat) (h29 : mB G) (L2 : w q2 = some (pO k2 kd2 li2 inn2 oth2 pa2 (q2 + 1) (q2 + 2) cs2 cg2)) (L2t : w (q2 + 1) = some (wd_iA (g.2 0) 1024 (tN G))) (hne2 : q2 + 3 ≤ q ∨ q + 3 ≤ q2) (J2 : Nat → Int32) (L2j : w (q2 + 2) = some (wd_iA (g.2 0) 32 J2)) : Met l yX0_joinByStep (Cond.code yX0_joinByStep cX0_joinByStep 4 (none) :: tg) ({ frames := 2, cells := 0, slots := 0, locals := 43 }) (cP g s0 (pW g w q k kd li inn oth pa cs cg f j) [.ref q, .ref q2, .int (gr)]) (cV g s0 (fun w' => w' = (pW g w q k kd li inn oth pa cs cg f (jbF kd J2 gr j)))) 0 0 (cA s0) := by
  refine Met.ofW (cc := cX0_joinByStep) (maxL := 4) (ret := none) (by decide) rfl ?_
  intro p e s m args below meth c s₁ B9 hml hv
  obtain ⟨rfl, h0s, hP, hK⟩ := hv
  have hx := B9.exec
  have hb := B9.bytes
  have hr := B9.returns
  have hts := atoms_spec (ws := Cond.code yX0_joinByStep cX0_joinByStep 4 (none) :: tg) B9.pre
  have hown : s.vm.findClass RX0 = some m.cls := findClass_of_methodNamed B9.named
  have hlocks := B9.notSynchronized
  have hS : gS s0 s.heap s.heap [] := va_S.rf
  have hRm : 2 ≤ (headSpec (Cond.code yX0_joinByStep cX0_joinByStep 4 (none) :: tg) ({ frames := 2, cells := 0, slots := 0, locals := 43 })).room.frames ∧ 43 ≤ (headSpec (Cond.code yX0_joinByStep cX0_joinByStep 4 (none) :: tg) ({ frames := 2, cells := 0, slots := 0, locals := 43 })).room.locals := ⟨Nat.le_refl _, Nat.le_refl _⟩
  have hcs : 0 + 0 ≤ (headSpec (Cond.code yX0_joinByStep cX0_joinByStep 4 (none) :: tg) ({ frames := 2, cells := 0, slots := 0, locals := 43 })).room.cells ∧ 0 + 0 ≤ (headSpec (Cond.code yX0_joinByStep cX0_joinByStep 4 (none) :: tg) ({ frames := 2, cells := 0, slots := 0, locals := 43 })).room.slots := ⟨Nat.zero_le _, Nat.zero_le _⟩
  have hl := lv_entry ([.ref q, .ref q2, .int (gr)]) (n := 4) (Nat.le_of_ble_eq_true rfl)
  rw [lg_entry_eq]
  generalize (lg_sl ([.ref q, .ref q2, .int (gr)]) ++ List.replicate (4 - (lg_sl ([.ref q, .ref q2, .int (gr)])).length) Slot.unset).toArray = ls at hl ⊢
  have hl : lv_has ls 4 [(0, .ref q), (1, .ref q2), (2, .int (gr))] := hl
  refine lv_iconst (v := nI 0) hx hb dX0_joinByStep_0 (by decide) ?_
  refine lv_istore_n (lv' := [(3, .int (nI 0)), (0, .ref q), (1, .ref q2), (2, .int (gr))]) hx hb dX0_joinByStep_1 rfl hl (by decide) rfl (fun ls hl => ?_)
  have e8 : (pW g w q k kd li inn oth pa cs cg f j) = (pW g w q k kd li inn oth pa cs cg f (jb1 J2 j 0)) := by rw [jb1]
  rw [e8] at hP
  have hl : lv_has ls 4 [(0, .ref q), (1, .ref q2), (2, .int (gr)), (3, .int (nI 0))] := lv_sub hl [1, 2, 3, 0] rfl
  refine lp_jb1 g s0 w q hs0 k kd li inn oth pa cs cg f j gr q2 k2 kd2 li2 inn2 oth2 pa2 cs2 cg2 G h29 L2 L2t hne2 J2 L2j hx hb hml hown hts hK h0s hRm hcs  ?_ (32 + 1) 0 (by omega) (by omega) _ _ ls hP hS hl
  intro H locs ls hP hS hl
  refine lv_aload_n hx hb dX0_joinByStep_26 rfl (lv_at hl 0 rfl) ?_
  refine cr_Vi (As := []) (rest := []) ⟨hx, hb, hml, hown, hts⟩ (c_X0_walks l g s0 (pW g w q k kd li inn oth pa cs cg f (jb1 J2 j 32)) q (q + 1) (q + 2) k kd li inn oth pa cs cg pW_0) (cw_V 0 hts tg_tail tw_234 tw_235 tw_236 tw_5 tw_237 rfl rfl (by decide +kernel) ⟨Nat.le_trans (by decide) hRm.1, Nat.le_trans (by decide) hRm.2⟩) hK hP h0s hS (pW_0) rfl rfl rfl hl.1 rfl (Nat.le_of_ble_eq_true rfl) dX0_joinByStep_27 hcs (fun r9 w9 H locs hw hP hS => ?_)
  obtain ⟨e_r9, hw9⟩ := hw
  rw [hw9] at hP
  subst e_r9
  refine lv_if_eq (tgt := 37) hx hb dX0_joinByStep_30 (by decide) (fun c_30 => ?_) (fun c_30 => ?_)
  · have c_30 := zB_0.mp c_30
    refine lv_aload_n hx hb dX0_joinByStep_37 rfl (lv_at hl 0 rfl) ?_
    refine wd_get (ci := 1) (v := .int (kd)) (C := RX0) (T := TX0) (N := 10) hx hb hts iwX0 hown hK.1 hP (pW_0) rfl 1 (by decide) (hts _ (tg_tail _ tw_124)) (fun _ h9 => h9) rfl dX0_joinByStep_38 ?_
    refine lv_iconst (v := nI 5) hx hb dX0_joinByStep_41 (by decide) ?_
    refine lv_icmp_eq (tgt := 50) hx hb dX0_joinByStep_42 (by decide) (fun c_42 => ?_) (fun c_42 => ?_)
    · exact absurd (Or.inr c_42) c_30
    · refine lv_aload_n hx hb dX0_joinByStep_45 rfl (lv_at hl 0 rfl) ?_
      refine lv_iload_n hx hb dX0_joinByStep_46 rfl (lv_at hl 1 rfl) ?_
      refine cr_Vv (As := [.int (gr)]) (rest := []) ⟨hx, hb, hml, hown, hts⟩ (c_X0_joinSelves l g s0  w q hs0 k kd li inn oth pa cs cg f (jb1 J2 j 32) gr) (cw_V 1 hts tg_tail tw_243 tw_245 tp_12 tw_5 tw_246 rfl rfl (by decide +kernel) ⟨Nat.le_trans (by decide) hRm.1, Nat.le_trans (by decide) hRm.2⟩) hK hP h0s hS (pW_0) rfl rfl rfl hl.1 rfl (Nat.le_of_ble_eq_true rfl) dX0_joinByStep_47 hcs (fun w9 H locs hw hP hS => ?_)
      rw [hw] at hP
      exact W.vret hx hb hr (fun t9 ht hW => ⟨⟨(pW g w q k kd li inn oth pa cs cg f (js1 gr (jb1 J2 j 32) 32)), rfl, by rw [jbF, if_neg c_42, if_neg (fun q => c_30 (Or.inl q))], cB_of ht hP⟩, hS.F ht⟩) hS.2.2 dX0_joinByStep_50
  · have c_30 := zB_1.mp c_30
    refine lv_aload_n hx hb dX0_joinByStep_33 rfl (lv_at hl 0 rfl) ?_
    refine cr_Vv (As := []) (rest := []) ⟨hx, hb, hml, hown, hts⟩ (c_X0_joinOnwards l g s0  w q hs0 k kd li inn oth pa cs cg f (jb1 J2 j 32)) (cw_V 0 hts tg_tail tw_238 tw_240 tp_11 tw_5 tw_241 rfl rfl (by decide +kernel) ⟨Nat.le_trans (by decide) hRm.1, Nat.le_trans (by decide) hRm.2⟩) hK hP h0s hS (pW_0) rfl rfl rfl hl.1 rfl (Nat.le_of_ble_eq_true rfl) dX0_joinByStep_34 hcs (fun w9 H locs hw hP hS => ?_)
    rw [hw] at hP
    refine lv_aload_n hx hb dX0_joinByStep_37 rfl (lv_at hl 0 rfl) ?_
    refine wd_get (ci := 1) (v := .int (kd)) (C := RX0) (T := TX0) (N := 10) hx hb hts iwX0 hown hK.1 hP (pW_0) rfl 1 (by decide) (hts _ (tg_tail _ tw_124)) (fun _ h9 => h9) rfl dX0_joinByStep_38 ?_
    refine lv_iconst (v := nI 5) hx hb dX0_joinByStep_41 (by decide) ?_
    refine lv_icmp_eq (tgt := 50) hx hb dX0_joinByStep_42 (by decide) (fun c_42 => ?_) (fun c_42 => ?_)
    · exact W.vret hx hb hr (fun t9 ht hW => ⟨⟨(pW g w q k kd li inn oth pa cs cg f (jo1 (jb1 J2 j 32) 32)), rfl, by rw [jbF, if_pos c_42], cB_of ht hP⟩, hS.F ht⟩) hS.2.2 dX0_joinByStep_50
    · refine lv_aload_n hx hb dX0_joinByStep_45 rfl (lv_at hl 0 rfl) ?_
      refine lv_iload_n hx hb dX0_joinByStep_46 rfl (lv_at hl 1 rfl) ?_
      refine cr_Vv (As := [.int (gr)]) (rest := []) ⟨hx, hb, hml, hown, hts⟩ (c_X0_joinSelves l g s0  w q hs0 k kd li inn oth pa cs cg f (jo1 (jb1 J2 j 32) 32) gr) (cw_V 1 hts tg_tail tw_243 tw_245 tp_12 tw_5 tw_246 rfl rfl (by decide +kernel) ⟨Nat.le_trans (by decide) hRm.1, Nat.le_trans (by decide) hRm.2⟩) hK hP h0s hS (pW_0) rfl rfl rfl hl.1 rfl (Nat.le_of_ble_eq_true rfl) dX0_joinByStep_47 hcs (fun w9 H locs hw hP hS => ?_)
      rw [hw] at hP
      exact W.vret hx hb hr (fun t9 ht hW => ⟨⟨(pW g w q k kd li inn oth pa cs cg f (js1 gr (jo1 (jb1 J2 j 32) 32) 32)), rfl, by rw [jbF, if_neg c_42, if_pos (c_30.resolve_right c_42)], cB_of ht hP⟩, hS.F ht⟩) hS.2.2 dX0_joinByStep_50

set_option maxHeartbeats 4000000 in
set_option maxRecDepth 100000 in
theorem c_X0_countOverOne (l : Launch) (g : gX) (s0 : Nat) (w : wd_M) (q : Nat) (hs0 : s0 ≤ q) (k : Int32) (kd : Int32) (li : Int32) (inn : Option Nat) (oth : Option Nat) (pa : Int64) (cs : Int32) (cg : Int32) (gr : Int32) (t : aT) (hB : mB t.1) (q2 : Nat) (k2 kd2 li2 : Int32) (inn2 oth2 : Option Nat) (pa2 : Int64) (cs2 cg2 : Int32) (G : Nat → Nat) (h29 : mB G) (L2 : w q2 = some (pO k2 kd2 li2 inn2 oth2 pa2 (q2 + 1) (q2 + 2) cs2 cg2)) (L2t : w (q2 + 1) = some (wd_iA (g.2 0) 1024 (tN G))) (hne2 : q2 + 3 ≤ q ∨ q + 3 ≤ q2) (J2 : Nat → Int32) (L2j : w (q2 + 2) = some (wd_iA (g.2 0) 32 J2)) : Met l yX0_countOverOne (Cond.code yX0_countOverOne cX0_countOverOne 3 (none) :: tg) ({ frames := 3, cells := 0, slots := 0, locals := 66 }) (cP g s0 (pW g w q k kd li inn oth pa cs cg (tN t.1) (t.2)) [.ref q, .ref q2, .int (gr)]) (cV g s0 (fun w' => w' = (pW g w q k kd li inn oth pa cs cg (tN (coO kd G J2 gr t).1) ((coO kd G J2 gr t).2)))) 0 0 (cA s0) := by
  refine Met.ofW (cc := cX0_countOverOne) (maxL := 3) (ret := none) (by decide) rfl ?_
  intro p e s m args below meth c s₁ B9 hml hv
  obtain ⟨rfl, h0s, hP, hK⟩ := hv
  have hx := B9.exec
  have hb := B9.bytes
  have hr := B9.returns
  have hts := atoms_spec (ws := Cond.code yX0_countOverOne cX0_countOverOne 3 (none) :: tg) B9.pre
  have hown : s.vm.findClass RX0 = some m.cls := findClass_of_methodNamed B9.named
  have hlocks := B9.notSynchronized
  have hS : gS s0 s.heap s.heap [] := va_S.rf
  have hRm : 3 ≤ (headSpec (Cond.code yX0_countOverOne cX0_countOverOne 3 (none) :: tg) ({ frames := 3, cells := 0, slots := 0, locals := 66 })).room.frames ∧ 66 ≤ (headSpec (Cond.code yX0_countOverOne cX0_countOverOne 3 (none) :: tg) ({ frames := 3, cells := 0, slots := 0, locals := 66 })).room.locals := ⟨Nat.le_refl _, Nat.le_refl _⟩
  have hcs : 0 + 0 ≤ (headSpec (Cond.code yX0_countOverOne cX0_countOverOne 3 (none) :: tg) ({ frames := 3, cells := 0, slots := 0, locals := 66 })).room.cells ∧ 0 + 0 ≤ (headSpec (Cond.code yX0_countOverOne cX0_countOverOne 3 (none) :: tg) ({ frames := 3, cells := 0, slots := 0, locals := 66 })).room.slots := ⟨Nat.zero_le _, Nat.zero_le _⟩
  have hl := lv_entry ([.ref q, .ref q2, .int (gr)]) (n := 3) (Nat.le_of_ble_eq_true rfl)
  rw [lg_entry_eq]
  generalize (lg_sl ([.ref q, .ref q2, .int (gr)]) ++ List.replicate (3 - (lg_sl ([.ref q, .ref q2, .int (gr)])).length) Slot.unset).toArray = ls at hl ⊢
  have hl : lv_has ls 3 [(0, .ref q), (1, .ref q2), (2, .int (gr))] := hl
  refine lv_aload_n hx hb dX0_countOverOne_0 rfl (lv_at hl 0 rfl) ?_
  refine wd_get (ci := 1) (v := .int (kd)) (C := RX0) (T := TX0) (N := 10) hx hb hts iwX0 hown hK.1 hP (pW_0) rfl 1 (by decide) (hts _ (tg_tail _ tw_124)) (fun _ h9 => h9) rfl dX0_countOverOne_1 ?_
  refine lv_iconst (v := nI 1) hx hb dX0_countOverOne_4 (by decide) ?_
  refine lv_icmp_ne (tgt := 16) hx hb dX0_countOverOne_5 (by decide) (fun c_5 => ?_) (fun c_5 => ?_)
  · refine lv_aload_n hx hb dX0_countOverOne_16 rfl (lv_at hl 0 rfl) ?_
    refine lv_aload_n hx hb dX0_countOverOne_17 rfl (lv_at hl 1 rfl) ?_
    refine lv_iload_n hx hb dX0_countOverOne_18 rfl (lv_at hl 2 rfl) ?_
    refine cr_Vv (As := [.ref q2, .int (gr)]) (rest := []) ⟨hx, hb, hml, hown, hts⟩ (c_X0_joinByStep l g s0  w q hs0 k kd li inn oth pa cs cg (tN t.1) (t.2) gr q2 k2 kd2 li2 inn2 oth2 pa2 cs2 cg2 G h29 L2 L2t hne2 J2 L2j) (cw_V 2 hts tg_tail tw_230 tw_232 tp_10 tw_5 tw_233 rfl rfl (by decide +kernel) ⟨Nat.le_trans (by decide) hRm.1, Nat.le_trans (by decide) hRm.2⟩) hK hP h0s hS (pW_0) rfl rfl rfl hl.1 rfl (Nat.le_of_ble_eq_true rfl) dX0_countOverOne_19 hcs (fun w9 H locs hw hP hS => ?_)
    rw [hw] at hP
    refine lv_aload_n hx hb dX0_countOverOne_22 rfl (lv_at hl 0 rfl) ?_
    refine cr_Vv (As := []) (rest := []) ⟨hx, hb, hml, hown, hts⟩ (c_X0_countJoinedOnce l g s0  w q hs0 k kd li inn oth pa cs cg (jbF kd J2 gr t.2) t.1) (cw_V 0 hts tg_tail tw_247 tw_249 tp_13 tw_5 tw_250 rfl rfl (by decide +kernel) ⟨Nat.le_trans (by decide) hRm.1, Nat.le_trans (by decide) hRm.2⟩) hK hP h0s hS (pW_0) rfl rfl rfl hl.1 rfl (Nat.le_of_ble_eq_true rfl) dX0_countOverOne_23 hcs (fun w9 H locs hw hP hS => ?_)
    rw [hw] at hP
    exact W.vret hx hb hr (fun t9 ht hW => ⟨⟨(pW g w q k kd li inn oth pa cs cg (tN (cj1 (jbF kd J2 gr t.2) t.1 32)) (jbF kd J2 gr t.2)), rfl, by rw [coO, if_neg c_5], cB_of ht hP⟩, hS.F ht⟩) hS.2.2 dX0_countOverOne_26
  · refine lv_aload_n hx hb dX0_countOverOne_8 rfl (lv_at hl 0 rfl) ?_
    refine lv_aload_n hx hb dX0_countOverOne_9 rfl (lv_at hl 1 rfl) ?_
    refine cr_Vv (As := [.ref q2]) (rest := []) ⟨hx, hb, hml, hown, hts⟩ (c_X0_countTurned l g s0  w q hs0 k kd li inn oth pa cs cg t hB q2 k2 kd2 li2 inn2 oth2 pa2 cs2 cg2 G h29 L2 L2t hne2) (cw_V 1 hts tg_tail tw_222 tw_224 tp_9 tw_5 tw_225 rfl rfl (by decide +kernel) ⟨Nat.le_trans (by decide) hRm.1, Nat.le_trans (by decide) hRm.2⟩) hK hP h0s hS (pW_0) rfl rfl rfl hl.1 rfl (Nat.le_of_ble_eq_true rfl) dX0_countOverOne_10 hcs (fun w9 H locs hw hP hS => ?_)
    rw [hw] at hP
    refine lv_goto (tgt := 26) hx hb dX0_countOverOne_13 (by decide) ?_
    exact W.vret hx hb hr (fun t9 ht hW => ⟨⟨(pW g w q k kd li inn oth pa cs cg (tN (ct1 G t 32).1) ((ct1 G t 32).2)), rfl, by rw [coO, if_pos c_5], cB_of ht hP⟩, hS.F ht⟩) hS.2.2 dX0_countOverOne_26

set_option maxHeartbeats 4000000 in
set_option maxRecDepth 100000 in
theorem c_X0_countOverTwo (l : Launch) (g : gX) (s0 : Nat) (w : wd_M) (q : Nat) (hs0 : s0 ≤ q) (k : Int32) (kd : Int32) (li : Int32) (inn : Option Nat) (oth : Option Nat) (pa : Int64) (cs : Int32) (cg : Int32) (t : aT) (hB : mB t.1) (q2 : Nat) (k2 kd2 li2 : Int32) (inn2 oth2 : Option Nat) (pa2 : Int64) (cs2 cg2 : Int32) (G : Nat → Nat) (h29 : mB G) (L2 : w q2 = some (pO k2 kd2 li2 inn2 oth2 pa2 (q2 + 1) (q2 + 2) cs2 cg2)) (L2t : w (q2 + 1) = some (wd_iA (g.2 0) 1024 (tN G))) (hne2 : q2 + 3 ≤ q ∨ q + 3 ≤ q2) (q3 : Nat) (k3 kd3 li3 : Int32) (inn3 oth3 : Option Nat) (pa3 : Int64) (cs3 cg3 : Int32) (G3 : Nat → Nat) (h39 : mB G3) (L3 : w q3 = some (pO k3 kd3 li3 inn3 oth3 pa3 (q3 + 1) (q3 + 2) cs3 cg3)) (L3t : w (q3 + 1) = some (wd_iA (g.2 0) 1024 (tN G3))) (hne3 : q3 + 3 ≤ q ∨ q + 3 ≤ q3) (J3 : Nat → Int32) (L3j : w (q3 + 2) = some (wd_iA (g.2 0) 32 J3)) : Met l yX0_countOverTwo (Cond.code yX0_countOverTwo cX0_countOverTwo 3 (none) :: tg) ({ frames := 4, cells := 0, slots := 0, locals := 94 }) (cP g s0 (pW g w q k kd li inn oth pa cs cg (tN t.1) (t.2)) [.ref q, .ref q2, .ref q3]) (cV g s0 (fun w' => w' = (pW g w q k kd li inn oth pa cs cg (tN (coT kd G G3 J3 t).1) ((coT kd G G3 J3 t).2)))) 0 0 (cA s0) := by
  refine Met.ofW (cc := cX0_countOverTwo) (maxL := 3) (ret := none) (by decide) rfl ?_
  intro p e s m args below meth c s₁ B9 hml hv
  obtain ⟨rfl, h0s, hP, hK⟩ := hv
  have hx := B9.exec
  have hb := B9.bytes
  have hr := B9.returns
  have hts := atoms_spec (ws := Cond.code yX0_countOverTwo cX0_countOverTwo 3 (none) :: tg) B9.pre
  have hown : s.vm.findClass RX0 = some m.cls := findClass_of_methodNamed B9.named
  have hlocks := B9.notSynchronized
  have hS : gS s0 s.heap s.heap [] := va_S.rf
  have hRm : 4 ≤ (headSpec (Cond.code yX0_countOverTwo cX0_countOverTwo 3 (none) :: tg) ({ frames := 4, cells := 0, slots := 0, locals := 94 })).room.frames ∧ 94 ≤ (headSpec (Cond.code yX0_countOverTwo cX0_countOverTwo 3 (none) :: tg) ({ frames := 4, cells := 0, slots := 0, locals := 94 })).room.locals := ⟨Nat.le_refl _, Nat.le_refl _⟩
  have hcs : 0 + 0 ≤ (headSpec (Cond.code yX0_countOverTwo cX0_countOverTwo 3 (none) :: tg) ({ frames := 4, cells := 0, slots := 0, locals := 94 })).room.cells ∧ 0 + 0 ≤ (headSpec (Cond.code yX0_countOverTwo cX0_countOverTwo 3 (none) :: tg) ({ frames := 4, cells := 0, slots := 0, locals := 94 })).room.slots := ⟨Nat.zero_le _, Nat.zero_le _⟩
  have hl := lv_entry ([.ref q, .ref q2, .ref q3]) (n := 3) (Nat.le_of_ble_eq_true rfl)
  rw [lg_entry_eq]
  generalize (lg_sl ([.ref q, .ref q2, .ref q3]) ++ List.replicate (3 - (lg_sl ([.ref q, .ref q2, .ref q3])).length) Slot.unset).toArray = ls at hl ⊢
  have hl : lv_has ls 3 [(0, .ref q), (1, .ref q2), (2, .ref q3)] := hl
  refine lv_aload_n hx hb dX0_countOverTwo_0 rfl (lv_at hl 0 rfl) ?_
  refine wd_get (ci := 1) (v := .int (kd)) (C := RX0) (T := TX0) (N := 10) hx hb hts iwX0 hown hK.1 hP (pW_0) rfl 1 (by decide) (hts _ (tg_tail _ tw_124)) (fun _ h9 => h9) rfl dX0_countOverTwo_1 ?_
  refine lv_iconst (v := nI 3) hx hb dX0_countOverTwo_4 (by decide) ?_
  refine lv_icmp_ne (tgt := 21) hx hb dX0_countOverTwo_5 (by decide) (fun c_5 => ?_) (fun c_5 => ?_)
  · refine lv_aload_n hx hb dX0_countOverTwo_21 rfl (lv_at hl 0 rfl) ?_
    refine lv_aload_n hx hb dX0_countOverTwo_22 rfl (lv_at hl 1 rfl) ?_
    refine lv_aload_n hx hb dX0_countOverTwo_23 rfl (lv_at hl 2 rfl) ?_
    refine cr_Vv (As := [.ref q2, .ref q3]) (rest := []) ⟨hx, hb, hml, hown, hts⟩ (c_X0_countBehind l g s0  w q hs0 k kd li inn oth pa cs cg t hB q2 k2 kd2 li2 inn2 oth2 pa2 cs2 cg2 G h29 L2 L2t hne2 q3 k3 kd3 li3 inn3 oth3 pa3 cs3 cg3 G3 h39 L3 L3t hne3 J3 L3j) (cw_V 2 hts tg_tail tw_259 tw_261 tp_16 tw_5 tw_262 rfl rfl (by decide +kernel) ⟨Nat.le_trans (by decide) hRm.1, Nat.le_trans (by decide) hRm.2⟩) hK hP h0s hS (pW_0) rfl rfl rfl hl.1 rfl (Nat.le_of_ble_eq_true rfl) dX0_countOverTwo_24 hcs (fun w9 H locs hw hP hS => ?_)
    rw [hw] at hP
    exact W.vret hx hb hr (fun t9 ht hW => ⟨⟨(pW g w q k kd li inn oth pa cs cg (tN (cb1 G G3 J3 t 32).1) ((cb1 G G3 J3 t 32).2)), rfl, by rw [coT, if_neg c_5], cB_of ht hP⟩, hS.F ht⟩) hS.2.2 dX0_countOverTwo_27
  · refine lv_aload_n hx hb dX0_countOverTwo_8 rfl (lv_at hl 0 rfl) ?_
    refine lv_aload_n hx hb dX0_countOverTwo_9 rfl (lv_at hl 1 rfl) ?_
    refine cr_Vv (As := [.ref q2]) (rest := []) ⟨hx, hb, hml, hown, hts⟩ (c_X0_countAll l g s0  w q hs0 k kd li inn oth pa cs cg t hB q2 k2 kd2 li2 inn2 oth2 pa2 cs2 cg2 G h29 L2 L2t hne2) (cw_V 1 hts tg_tail tw_255 tw_257 tp_15 tw_5 tw_258 rfl rfl (by decide +kernel) ⟨Nat.le_trans (by decide) hRm.1, Nat.le_trans (by decide) hRm.2⟩) hK hP h0s hS (pW_0) rfl rfl rfl hl.1 rfl (Nat.le_of_ble_eq_true rfl) dX0_countOverTwo_10 hcs (fun w9 H locs hw hP hS => ?_)
    rw [hw] at hP
    refine lv_aload_n hx hb dX0_countOverTwo_13 rfl (lv_at hl 0 rfl) ?_
    refine lv_aload_n hx hb dX0_countOverTwo_14 rfl (lv_at hl 2 rfl) ?_
    refine cr_Vv (As := [.ref q3]) (rest := []) ⟨hx, hb, hml, hown, hts⟩ (c_X0_countAll l g s0  w q hs0 k kd li inn oth pa cs cg (ca1 G t 32) (ca1_B hB 32) q3 k3 kd3 li3 inn3 oth3 pa3 cs3 cg3 G3 h39 L3 L3t hne3) (cw_V 1 hts tg_tail tw_255 tw_257 tp_15 tw_5 tw_258 rfl rfl (by decide +kernel) ⟨Nat.le_trans (by decide) hRm.1, Nat.le_trans (by decide) hRm.2⟩) hK hP h0s hS (pW_0) rfl rfl rfl hl.1 rfl (Nat.le_of_ble_eq_true rfl) dX0_countOverTwo_15 hcs (fun w9 H locs hw hP hS => ?_)
    rw [hw] at hP
    refine lv_goto (tgt := 27) hx hb dX0_countOverTwo_18 (by decide) ?_
    exact W.vret hx hb hr (fun t9 ht hW => ⟨⟨(pW g w q k kd li inn oth pa cs cg (tN (ca1 G3 (ca1 G t 32) 32).1) ((ca1 G3 (ca1 G t 32) 32).2)), rfl, by rw [coT, if_pos c_5], cB_of ht hP⟩, hS.F ht⟩) hS.2.2 dX0_countOverTwo_27

set_option maxHeartbeats 4000000 in
set_option maxRecDepth 100000 in
theorem lp_mi {p : Program} {l : Launch} {e : Env} {R : Room} {s : State} {m : MethodId} {args : Array Value} {below : List Frame} {meth : Method} {c : Code} {Q : State → Prop} {H0 : Heap} {cells slots : Nat} (g : gX) (s0 : Nat) (w : wd_M) (la : Nat) (hs0 : s0 ≤ la) (x k9 : Nat) (hk9 : k9 < 32) (seen edge : Int32) (t : (Nat → Int32) × Int32) (q2 : Nat) (k2 kd2 li2 : Int32) (inn2 oth2 : Option Nat) (pa2 : Int64) (cs2 cg2 : Int32) (L2 : w q2 = some (pO k2 kd2 li2 inn2 oth2 pa2 (q2 + 1) (q2 + 2) cs2 cg2)) (J2 : Nat → Int32) (L2j : w (q2 + 2) = some (wd_iA (g.2 0) 32 J2)) (hne2 : q2 + 3 ≤ la ∨ la + 1 ≤ q2) (hx : p.tables.exec = Jvm.exec) (hb : c.code = cX0_measureWalk) (hml : c.maxLocals = 8) (hown : s.vm.findClass RX0 = some m.cls) (hts : ∀ w ∈ Cond.code yX0_measureWalk cX0_measureWalk 8 (none) :: tg, w.before args s = true) (hK : gK g s) (h0s : s0 ≤ H0.size) (hRm : 1 ≤ R.frames ∧ 21 ≤ R.locals) (hcs : cells + 0 ≤ R.cells ∧ slots + 0 ≤ R.slots)  (kx : ∀ (H : Heap) (locs : List Loc) (ls : Array Slot), gP g (lW g w la ((mi J2 edge (nI (k9 + 1)) t 32).1)) H → gS s0 H0 H locs → lv_has ls 8 [(0, .ref q2), (1, .int (nI x)), (2, .ref la), (3, .int (seen)), (4, .int (edge)), (5, .int (nI (k9 + 1))), (6, .int ((mi J2 edge (nI (k9 + 1)) t 32).2))] → W p l e R s m args below meth c H locs cells slots Q (F0 m 72 ls [])) :
    ∀ (n y : Nat), y ≤ 32 → 32 + 1 ≤ y + n → ∀ (H : Heap) (locs : List Loc) (ls : Array Slot), gP g (lW g w la ((mi J2 edge (nI (k9 + 1)) t y).1)) H → gS s0 H0 H locs → lv_has ls 8 [(0, .ref q2), (1, .int (nI x)), (2, .ref la), (3, .int (seen)), (4, .int (edge)), (5, .int (nI (k9 + 1))), (6, .int ((mi J2 edge (nI (k9 + 1)) t y).2)), (7, .int (nI y))] → W p l e R s m args below meth c H locs cells slots Q (F0 m 31 ls []) := by
  intro n
  induction n with
  | zero =>
    intro y h1 h2
    exact absurd h2 (by omega)
  | succ n ih =>
    intro y hi hin H locs ls hP hS hl
    refine lv_iload hx hb dX0_measureWalk_31 (lv_at hl 7 rfl) ?_
    refine lv_bipush (v := nI 32) hx hb dX0_measureWalk_33 (by decide) ?_
    refine lv_icmp_ge (tgt := 72) hx hb dX0_measureWalk_35 (by decide) (fun c_35 => ?_) (fun c_35 => ?_)
    · have c_35 := (nI_leI (a := 32) (b := y) (by omega) (by omega)).mp c_35
      have e9 : y = 32 := by omega
      try rw [e9] at hP
      try rw [e9] at hl
      exact kx H locs ls hP hS (lv_sub hl [0, 1, 2, 3, 4, 5, 6] rfl)
    · have c_35 := mt (nI_leI (a := 32) (b := y) (by omega) (by omega)).mpr c_35
      refine lv_iload hx hb dX0_measureWalk_38 (lv_at hl 4 rfl) ?_
      refine lv_iload hx hb dX0_measureWalk_40 (lv_at hl 7 rfl) ?_
      refine cr_Ni (As := [.int (edge), .int (nI y)]) (rest := []) ⟨hx, hb, hml, hown, hts⟩ (c_X3_holds l g s0 (lW g w la ((mi J2 edge (nI (k9 + 1)) t y).1)) (edge) (y) (by omega)) (cw_N 2 hts tg_tail hK.2.2.2.1 tw_103 tw_1 tw_104 rfl rfl (by decide +kernel) ⟨Nat.le_trans (by decide) hRm.1, Nat.le_trans (by decide) hRm.2⟩) hK hP h0s hS rfl hl.1 rfl (Nat.le_of_ble_eq_true rfl) dX0_measureWalk_42 hcs (fun r9 w9 H locs hw hP hS => ?_)
      obtain ⟨e_r9, hw9⟩ := hw
      rw [hw9] at hP
      subst e_r9
      refine lv_if_eq (tgt := 66) hx hb dX0_measureWalk_45 (by decide) (fun c_45 => ?_) (fun c_45 => ?_)
      · have c_45 := zB_0.mp c_45
        refine lv_iinc (v := nI (y + 1)) (lv' := [(7, .int (nI (y + 1))), (0, .ref q2), (1, .int (nI x)), (2, .ref la), (3, .int (seen)), (4, .int (edge)), (5, .int (nI (k9 + 1))), (6, .int ((mi J2 edge (nI (k9 + 1)) t y).2))]) hx hb dX0_measureWalk_66 hl (k := 7) rfl (nI_1 _) (by decide) rfl (fun ls hl => ?_)
        refine lv_goto (tgt := 31) hx hb dX0_measureWalk_69 (by decide) ?_
        have f9 : mi J2 edge (nI (k9 + 1)) t (y + 1) = (mi J2 edge (nI (k9 + 1)) t y) := by rw [mi, if_neg c_45]
        have e8 : (lW g w la ((mi J2 edge (nI (k9 + 1)) t y).1)) = (lW g w la ((mi J2 edge (nI (k9 + 1)) t (y + 1)).1)) := by rw [f9]
        rw [e8] at hP
        have hl : lv_has ls 8 [(0, .ref q2), (1, .int (nI x)), (2, .ref la), (3, .int (seen)), (4, .int (edge)), (5, .int (nI (k9 + 1))), (6, .int ((mi J2 edge (nI (k9 + 1)) t y).2)), (7, .int (nI (y + 1)))] := lv_sub hl [1, 2, 3, 4, 5, 6, 7, 0] rfl
        have e8 : ([(0, .ref q2), (1, .int (nI x)), (2, .ref la), (3, .int (seen)), (4, .int (edge)), (5, .int (nI (k9 + 1))), (6, .int ((mi J2 edge (nI (k9 + 1)) t y).2)), (7, .int (nI (y + 1)))] : List (Nat × Value)) = [(0, .ref q2), (1, .int (nI x)), (2, .ref la), (3, .int (seen)), (4, .int (edge)), (5, .int (nI (k9 + 1))), (6, .int ((mi J2 edge (nI (k9 + 1)) t (y + 1)).2)), (7, .int (nI (y + 1)))] := by rw [f9]
        rw [e8] at hl
        exact ih (y + 1) (by omega) (by omega) _ _ ls hP hS hl
      · have c_45 := zB_1.mp c_45
        refine lv_aload_n hx hb dX0_measureWalk_48 rfl (lv_at hl 2 rfl) ?_
        refine lv_iload hx hb dX0_measureWalk_49 (lv_at hl 7 rfl) ?_
        refine lv_iload hx hb dX0_measureWalk_51 (lv_at hl 5 rfl) ?_
        refine wd_istN hx hb hK.1 hP hS (by omega) 0 (k := y) (lW_0) rfl (by omega) (by decide) dX0_measureWalk_53 (fun H locs hP hS hz => ?_)
        have hP : gP g (lW g w la (upd ((mi J2 edge (nI (k9 + 1)) t y).1) y (nI (k9 + 1)))) H := by have h9 : gP g (wd_up (lW g w la ((mi J2 edge (nI (k9 + 1)) t y).1)) la (wd_iA (g.2 0) 32 (upd ((mi J2 edge (nI (k9 + 1)) t y).1) y (nI (k9 + 1))))) H := hP; rw [lW_s0] at h9; exact h9
        refine lv_iload hx hb dX0_measureWalk_54 (lv_at hl 6 rfl) ?_
        refine lv_aload_n hx hb dX0_measureWalk_56 rfl (lv_at hl 0 rfl) ?_
        refine wd_get (ci := 1) (v := .ref (q2 + 2)) (C := RX0) (T := TX0) (N := 10) hx hb hts iwX0 hown hK.1 hP ((lW_out (by omega)).trans L2) rfl 7 (by decide) (hts _ (tg_tail _ tw_130)) (fun _ h9 => h9) rfl dX0_measureWalk_57 ?_
        refine lv_iload hx hb dX0_measureWalk_60 (lv_at hl 7 rfl) ?_
        refine wd_ildN hx hb hK.1 hP 0 (k := y) ((lW_out (by omega)).trans L2j) rfl (by omega) (by decide) dX0_measureWalk_62 ?_
        refine lv_ior hx hb dX0_measureWalk_63 ?_
        refine lv_istore (lv' := [(6, .int (((mi J2 edge (nI (k9 + 1)) t y).2) ||| (J2 y))), (0, .ref q2), (1, .int (nI x)), (2, .ref la), (3, .int (seen)), (4, .int (edge)), (5, .int (nI (k9 + 1))), (7, .int (nI y))]) hx hb dX0_measureWalk_64 hl (by decide) rfl (fun ls hl => ?_)
        refine lv_iinc (v := nI (y + 1)) (lv' := [(7, .int (nI (y + 1))), (6, .int (((mi J2 edge (nI (k9 + 1)) t y).2) ||| (J2 y))), (0, .ref q2), (1, .int (nI x)), (2, .ref la), (3, .int (seen)), (4, .int (edge)), (5, .int (nI (k9 + 1)))]) hx hb dX0_measureWalk_66 hl (k := 7) rfl (nI_1 _) (by decide) rfl (fun ls hl => ?_)
        refine lv_goto (tgt := 31) hx hb dX0_measureWalk_69 (by decide) ?_
        have f9 : mi J2 edge (nI (k9 + 1)) t (y + 1) = (upd (mi J2 edge (nI (k9 + 1)) t y).1 y (nI (k9 + 1)), (mi J2 edge (nI (k9 + 1)) t y).2 ||| J2 y) := by rw [mi, if_pos c_45]
        have e8 : (lW g w la (upd ((mi J2 edge (nI (k9 + 1)) t y).1) y (nI (k9 + 1)))) = (lW g w la ((mi J2 edge (nI (k9 + 1)) t (y + 1)).1)) := by rw [f9]
        rw [e8] at hP
        have hl : lv_has ls 8 [(0, .ref q2), (1, .int (nI x)), (2, .ref la), (3, .int (seen)), (4, .int (edge)), (5, .int (nI (k9 + 1))), (6, .int (((mi J2 edge (nI (k9 + 1)) t y).2) ||| (J2 y))), (7, .int (nI (y + 1)))] := lv_sub hl [2, 3, 4, 5, 6, 7, 1, 0] rfl
        have e8 : ([(0, .ref q2), (1, .int (nI x)), (2, .ref la), (3, .int (seen)), (4, .int (edge)), (5, .int (nI (k9 + 1))), (6, .int (((mi J2 edge (nI (k9 + 1)) t y).2) ||| (J2 y))), (7, .int (nI (y + 1)))] : List (Nat × Value)) = [(0, .ref q2), (1, .int (nI x)), (2, .ref la), (3, .int (seen)), (4, .int (edge)), (5, .int (nI (k9 + 1))), (6, .int ((mi J2 edge (nI (k9 + 1)) t (y + 1)).2)), (7, .int (nI (y + 1)))] := by rw [f9]
        rw [e8] at hl
        exact ih (y + 1) (by omega) (by omega) _ _ ls hP hS hl

set_option maxHeartbeats 4000000 in
set_option maxRecDepth 100000 in
theorem lp_mo1 {p : Program} {l : Launch} {e : Env} {R : Room} {s : State} {m : MethodId} {args : Array Value} {below : List Frame} {meth : Method} {c : Code} {Q : State → Prop} {H0 : Heap} {cells slots : Nat} (g : gX) (s0 : Nat) (w : wd_M) (la : Nat) (hs0 : s0 ≤ la) (lv : Nat → Int32) (x : Nat) (hx1 : x < 32) (q2 : Nat) (k2 kd2 li2 : Int32) (inn2 oth2 : Option Nat) (pa2 : Int64) (cs2 cg2 : Int32) (L2 : w q2 = some (pO k2 kd2 li2 inn2 oth2 pa2 (q2 + 1) (q2 + 2) cs2 cg2)) (J2 : Nat → Int32) (L2j : w (q2 + 2) = some (wd_iA (g.2 0) 32 J2)) (hne2 : q2 + 3 ≤ la ∨ la + 1 ≤ q2) (hx : p.tables.exec = Jvm.exec) (hb : c.code = cX0_measureWalk) (hml : c.maxLocals = 8) (hown : s.vm.findClass RX0 = some m.cls) (hts : ∀ w ∈ Cond.code yX0_measureWalk cX0_measureWalk 8 (none) :: tg, w.before args s = true) (hK : gK g s) (h0s : s0 ≤ H0.size) (hRm : 1 ≤ R.frames ∧ 21 ≤ R.locals) (hcs : cells + 0 ≤ R.cells ∧ slots + 0 ≤ R.slots)  (kx : ∀ (H : Heap) (locs : List Loc) (ls : Array Slot), gP g (lW g w la ((mo1 J2 (nI 0, J2 x, lv) 32).2.2)) H → gS s0 H0 H locs → lv_has ls 8 [(0, .ref q2)] → W p l e R s m args below meth c H locs cells slots Q (F0 m 91 ls [])) :
    ∀ (n k9 : Nat), k9 ≤ 32 → 32 + 1 ≤ k9 + n → ∀ (H : Heap) (locs : List Loc) (ls : Array Slot), gP g (lW g w la ((mo1 J2 (nI 0, J2 x, lv) k9).2.2)) H → gS s0 H0 H locs → lv_has ls 8 [(0, .ref q2), (1, .int (nI x)), (2, .ref la), (3, .int ((mo1 J2 (nI 0, J2 x, lv) k9).1)), (4, .int ((mo1 J2 (nI 0, J2 x, lv) k9).2.1)), (5, .int (nI (k9 + 1)))] → W p l e R s m args below meth c H locs cells slots Q (F0 m 13 ls []) := by
  intro n
  induction n with
  | zero =>
    intro k9 h1 h2
    exact absurd h2 (by omega)
  | succ n ih =>
    intro k9 hi hin H locs ls hP hS hl
    refine lv_iload hx hb dX0_measureWalk_13 (lv_at hl 5 rfl) ?_
    refine lv_bipush (v := nI 32) hx hb dX0_measureWalk_15 (by decide) ?_
    refine lv_icmp_gt (tgt := 91) hx hb dX0_measureWalk_17 (by decide) (fun c_17 => ?_) (fun c_17 => ?_)
    · have c_17 := (nI_ltI (a := 32) (b := (k9 + 1)) (by omega) (by omega)).mp c_17
      have e9 : k9 = 32 := by omega
      try rw [e9] at hP
      try rw [e9] at hl
      exact kx H locs ls hP hS (lv_sub hl [0] rfl)
    · have c_17 := mt (nI_ltI (a := 32) (b := (k9 + 1)) (by omega) (by omega)).mpr c_17
      refine lv_iload hx hb dX0_measureWalk_20 (lv_at hl 4 rfl) ?_
      refine lv_if_eq (tgt := 91) hx hb dX0_measureWalk_22 (by decide) (fun c_22 => ?_) (fun c_22 => ?_)
      · have e9 : mo1 J2 (nI 0, J2 x, lv) 32 = mo1 J2 (nI 0, J2 x, lv) k9 := by have h9 := mo1_fix c_22 (32 - k9); rw [show k9 + (32 - k9) = 32 by omega] at h9; exact h9
        rw [← e9] at hP
        exact kx H locs ls hP hS (lv_sub hl [0] rfl)
      · refine lv_iconst (v := nI 0) hx hb dX0_measureWalk_25 (by decide) ?_
        refine lv_istore (lv' := [(6, .int (nI 0)), (0, .ref q2), (1, .int (nI x)), (2, .ref la), (3, .int ((mo1 J2 (nI 0, J2 x, lv) k9).1)), (4, .int ((mo1 J2 (nI 0, J2 x, lv) k9).2.1)), (5, .int (nI (k9 + 1)))]) hx hb dX0_measureWalk_26 hl (by decide) rfl (fun ls hl => ?_)
        refine lv_iconst (v := nI 0) hx hb dX0_measureWalk_28 (by decide) ?_
        refine lv_istore (lv' := [(7, .int (nI 0)), (6, .int (nI 0)), (0, .ref q2), (1, .int (nI x)), (2, .ref la), (3, .int ((mo1 J2 (nI 0, J2 x, lv) k9).1)), (4, .int ((mo1 J2 (nI 0, J2 x, lv) k9).2.1)), (5, .int (nI (k9 + 1)))]) hx hb dX0_measureWalk_29 hl (by decide) rfl (fun ls hl => ?_)
        have e8 : (lW g w la ((mo1 J2 (nI 0, J2 x, lv) k9).2.2)) = (lW g w la ((mi J2 ((mo1 J2 (nI 0, J2 x, lv) k9).2.1) (nI (k9 + 1)) (((mo1 J2 (nI 0, J2 x, lv) k9).2.2, nI 0)) 0).1)) := by rw [mi]
        rw [e8] at hP
        have hl : lv_has ls 8 [(0, .ref q2), (1, .int (nI x)), (2, .ref la), (3, .int ((mo1 J2 (nI 0, J2 x, lv) k9).1)), (4, .int ((mo1 J2 (nI 0, J2 x, lv) k9).2.1)), (5, .int (nI (k9 + 1))), (6, .int (nI 0)), (7, .int (nI 0))] := lv_sub hl [2, 3, 4, 5, 6, 7, 1, 0] rfl
        have e8 : ([(0, .ref q2), (1, .int (nI x)), (2, .ref la), (3, .int ((mo1 J2 (nI 0, J2 x, lv) k9).1)), (4, .int ((mo1 J2 (nI 0, J2 x, lv) k9).2.1)), (5, .int (nI (k9 + 1))), (6, .int (nI 0)), (7, .int (nI 0))] : List (Nat × Value)) = [(0, .ref q2), (1, .int (nI x)), (2, .ref la), (3, .int ((mo1 J2 (nI 0, J2 x, lv) k9).1)), (4, .int ((mo1 J2 (nI 0, J2 x, lv) k9).2.1)), (5, .int (nI (k9 + 1))), (6, .int ((mi J2 ((mo1 J2 (nI 0, J2 x, lv) k9).2.1) (nI (k9 + 1)) (((mo1 J2 (nI 0, J2 x, lv) k9).2.2, nI 0)) 0).2)), (7, .int (nI 0))] := by rw [mi]
        rw [e8] at hl
        refine lp_mi g s0 w la hs0 x k9 (by omega) (mo1 J2 (nI 0, J2 x, lv) k9).1 (mo1 J2 (nI 0, J2 x, lv) k9).2.1 ((mo1 J2 (nI 0, J2 x, lv) k9).2.2, nI 0) q2 k2 kd2 li2 inn2 oth2 pa2 cs2 cg2 L2 J2 L2j hne2 hx hb hml hown hts hK h0s hRm hcs  ?_ (32 + 1) 0 (by omega) (by omega) _ _ ls hP hS hl
        intro H locs ls hP hS hl
        refine lv_iload_n hx hb dX0_measureWalk_72 rfl (lv_at hl 3 rfl) ?_
        refine lv_iload hx hb dX0_measureWalk_73 (lv_at hl 4 rfl) ?_
        refine lv_ior hx hb dX0_measureWalk_75 ?_
        refine lv_istore_n (lv' := [(3, .int (((mo1 J2 (nI 0, J2 x, lv) k9).1) ||| ((mo1 J2 (nI 0, J2 x, lv) k9).2.1))), (0, .ref q2), (1, .int (nI x)), (2, .ref la), (4, .int ((mo1 J2 (nI 0, J2 x, lv) k9).2.1)), (5, .int (nI (k9 + 1))), (6, .int ((mi J2 ((mo1 J2 (nI 0, J2 x, lv) k9).2.1) (nI (k9 + 1)) (((mo1 J2 (nI 0, J2 x, lv) k9).2.2, nI 0)) 32).2))]) hx hb dX0_measureWalk_76 rfl hl (by decide) rfl (fun ls hl => ?_)
        refine lv_iload hx hb dX0_measureWalk_77 (lv_at hl 6 rfl) ?_
        refine lv_iload_n hx hb dX0_measureWalk_79 rfl (lv_at hl 0 rfl) ?_
        refine lv_iconst (v := (-1)) hx hb dX0_measureWalk_80 (by decide) ?_
        refine lv_ixor hx hb dX0_measureWalk_81 ?_
        refine lv_iand hx hb dX0_measureWalk_82 ?_
        refine lv_istore (lv' := [(4, .int (((mi J2 ((mo1 J2 (nI 0, J2 x, lv) k9).2.1) (nI (k9 + 1)) (((mo1 J2 (nI 0, J2 x, lv) k9).2.2, nI 0)) 32).2) &&& ((((mo1 J2 (nI 0, J2 x, lv) k9).1) ||| ((mo1 J2 (nI 0, J2 x, lv) k9).2.1)) ^^^ ((-1))))), (3, .int (((mo1 J2 (nI 0, J2 x, lv) k9).1) ||| ((mo1 J2 (nI 0, J2 x, lv) k9).2.1))), (0, .ref q2), (1, .int (nI x)), (2, .ref la), (5, .int (nI (k9 + 1))), (6, .int ((mi J2 ((mo1 J2 (nI 0, J2 x, lv) k9).2.1) (nI (k9 + 1)) (((mo1 J2 (nI 0, J2 x, lv) k9).2.2, nI 0)) 32).2))]) hx hb dX0_measureWalk_83 hl (by decide) rfl (fun ls hl => ?_)
        refine lv_iinc (v := nI (k9 + 1 + 1)) (lv' := [(5, .int (nI (k9 + 1 + 1))), (4, .int (((mi J2 ((mo1 J2 (nI 0, J2 x, lv) k9).2.1) (nI (k9 + 1)) (((mo1 J2 (nI 0, J2 x, lv) k9).2.2, nI 0)) 32).2) &&& ((((mo1 J2 (nI 0, J2 x, lv) k9).1) ||| ((mo1 J2 (nI 0, J2 x, lv) k9).2.1)) ^^^ ((-1))))), (3, .int (((mo1 J2 (nI 0, J2 x, lv) k9).1) ||| ((mo1 J2 (nI 0, J2 x, lv) k9).2.1))), (0, .ref q2), (1, .int (nI x)), (2, .ref la), (6, .int ((mi J2 ((mo1 J2 (nI 0, J2 x, lv) k9).2.1) (nI (k9 + 1)) (((mo1 J2 (nI 0, J2 x, lv) k9).2.2, nI 0)) 32).2))]) hx hb dX0_measureWalk_85 hl (k := 5) rfl (nI_1 _) (by decide) rfl (fun ls hl => ?_)
        refine lv_goto (tgt := 13) hx hb dX0_measureWalk_88 (by decide) ?_
        have f9 : mo1 J2 (nI 0, J2 x, lv) (k9 + 1) = ((mo1 J2 (nI 0, J2 x, lv) k9).1 ||| (mo1 J2 (nI 0, J2 x, lv) k9).2.1, (mi J2 (mo1 J2 (nI 0, J2 x, lv) k9).2.1 (nI (k9 + 1)) ((mo1 J2 (nI 0, J2 x, lv) k9).2.2, nI 0) 32).2 &&& (((mo1 J2 (nI 0, J2 x, lv) k9).1 ||| (mo1 J2 (nI 0, J2 x, lv) k9).2.1) ^^^ (-1)), (mi J2 (mo1 J2 (nI 0, J2 x, lv) k9).2.1 (nI (k9 + 1)) ((mo1 J2 (nI 0, J2 x, lv) k9).2.2, nI 0) 32).1) := by rw [mo1, moS, if_neg c_22]
        have e8 : (lW g w la ((mi J2 ((mo1 J2 (nI 0, J2 x, lv) k9).2.1) (nI (k9 + 1)) (((mo1 J2 (nI 0, J2 x, lv) k9).2.2, nI 0)) 32).1)) = (lW g w la ((mo1 J2 (nI 0, J2 x, lv) (k9 + 1)).2.2)) := by rw [f9]
        rw [e8] at hP
        have hl : lv_has ls 8 [(0, .ref q2), (1, .int (nI x)), (2, .ref la), (3, .int (((mo1 J2 (nI 0, J2 x, lv) k9).1) ||| ((mo1 J2 (nI 0, J2 x, lv) k9).2.1))), (4, .int (((mi J2 ((mo1 J2 (nI 0, J2 x, lv) k9).2.1) (nI (k9 + 1)) (((mo1 J2 (nI 0, J2 x, lv) k9).2.2, nI 0)) 32).2) &&& ((((mo1 J2 (nI 0, J2 x, lv) k9).1) ||| ((mo1 J2 (nI 0, J2 x, lv) k9).2.1)) ^^^ ((-1))))), (5, .int (nI (k9 + 1 + 1)))] := lv_sub hl [3, 4, 5, 2, 1, 0] rfl
        have e8 : ([(0, .ref q2), (1, .int (nI x)), (2, .ref la), (3, .int (((mo1 J2 (nI 0, J2 x, lv) k9).1) ||| ((mo1 J2 (nI 0, J2 x, lv) k9).2.1))), (4, .int (((mi J2 ((mo1 J2 (nI 0, J2 x, lv) k9).2.1) (nI (k9 + 1)) (((mo1 J2 (nI 0, J2 x, lv) k9).2.2, nI 0)) 32).2) &&& ((((mo1 J2 (nI 0, J2 x, lv) k9).1) ||| ((mo1 J2 (nI 0, J2 x, lv) k9).2.1)) ^^^ ((-1))))), (5, .int (nI (k9 + 1 + 1)))] : List (Nat × Value)) = [(0, .ref q2), (1, .int (nI x)), (2, .ref la), (3, .int ((mo1 J2 (nI 0, J2 x, lv) (k9 + 1)).1)), (4, .int ((mo1 J2 (nI 0, J2 x, lv) (k9 + 1)).2.1)), (5, .int (nI ((k9 + 1) + 1)))] := by rw [f9]
        rw [e8] at hl
        exact ih (k9 + 1) (by omega) (by omega) _ _ ls hP hS hl

set_option maxHeartbeats 4000000 in
set_option maxRecDepth 100000 in
theorem c_X0_measureWalk (l : Launch) (g : gX) (s0 : Nat) (w : wd_M) (la : Nat) (hs0 : s0 ≤ la) (lv : Nat → Int32) (x : Nat) (hx1 : x < 32) (q2 : Nat) (k2 kd2 li2 : Int32) (inn2 oth2 : Option Nat) (pa2 : Int64) (cs2 cg2 : Int32) (L2 : w q2 = some (pO k2 kd2 li2 inn2 oth2 pa2 (q2 + 1) (q2 + 2) cs2 cg2)) (J2 : Nat → Int32) (L2j : w (q2 + 2) = some (wd_iA (g.2 0) 32 J2)) (hne2 : q2 + 3 ≤ la ∨ la + 1 ≤ q2) : Met l yX0_measureWalk (Cond.code yX0_measureWalk cX0_measureWalk 8 (none) :: tg) ({ frames := 1, cells := 0, slots := 0, locals := 21 }) (cP g s0 (lW g w la lv) [.ref q2, .int (nI x), .ref la]) (cV g s0 (fun w' => w' = (lW g w la (mwF J2 x lv)))) 0 0 (cA s0) := by
  refine Met.ofW (cc := cX0_measureWalk) (maxL := 8) (ret := none) (by decide) rfl ?_
  intro p e s m args below meth c s₁ B9 hml hv
  obtain ⟨rfl, h0s, hP, hK⟩ := hv
  have hx := B9.exec
  have hb := B9.bytes
  have hr := B9.returns
  have hts := atoms_spec (ws := Cond.code yX0_measureWalk cX0_measureWalk 8 (none) :: tg) B9.pre
  have hown : s.vm.findClass RX0 = some m.cls := findClass_of_methodNamed B9.named
  have hlocks := B9.notSynchronized
  have hS : gS s0 s.heap s.heap [] := va_S.rf
  have hRm : 1 ≤ (headSpec (Cond.code yX0_measureWalk cX0_measureWalk 8 (none) :: tg) ({ frames := 1, cells := 0, slots := 0, locals := 21 })).room.frames ∧ 21 ≤ (headSpec (Cond.code yX0_measureWalk cX0_measureWalk 8 (none) :: tg) ({ frames := 1, cells := 0, slots := 0, locals := 21 })).room.locals := ⟨Nat.le_refl _, Nat.le_refl _⟩
  have hcs : 0 + 0 ≤ (headSpec (Cond.code yX0_measureWalk cX0_measureWalk 8 (none) :: tg) ({ frames := 1, cells := 0, slots := 0, locals := 21 })).room.cells ∧ 0 + 0 ≤ (headSpec (Cond.code yX0_measureWalk cX0_measureWalk 8 (none) :: tg) ({ frames := 1, cells := 0, slots := 0, locals := 21 })).room.slots := ⟨Nat.zero_le _, Nat.zero_le _⟩
  have hl := lv_entry ([.ref q2, .int (nI x), .ref la]) (n := 8) (Nat.le_of_ble_eq_true rfl)
  rw [lg_entry_eq]
  generalize (lg_sl ([.ref q2, .int (nI x), .ref la]) ++ List.replicate (8 - (lg_sl ([.ref q2, .int (nI x), .ref la])).length) Slot.unset).toArray = ls at hl ⊢
  have hl : lv_has ls 8 [(0, .ref q2), (1, .int (nI x)), (2, .ref la)] := hl
  refine lv_iconst (v := nI 0) hx hb dX0_measureWalk_0 (by decide) ?_
  refine lv_istore_n (lv' := [(3, .int (nI 0)), (0, .ref q2), (1, .int (nI x)), (2, .ref la)]) hx hb dX0_measureWalk_1 rfl hl (by decide) rfl (fun ls hl => ?_)
  refine lv_aload_n hx hb dX0_measureWalk_2 rfl (lv_at hl 1 rfl) ?_
  refine wd_get (ci := 1) (v := .ref (q2 + 2)) (C := RX0) (T := TX0) (N := 10) hx hb hts iwX0 hown hK.1 hP ((lW_out (by omega)).trans L2) rfl 7 (by decide) (hts _ (tg_tail _ tw_130)) (fun _ h9 => h9) rfl dX0_measureWalk_3 ?_
  refine lv_iload_n hx hb dX0_measureWalk_6 rfl (lv_at hl 2 rfl) ?_
  refine wd_ildN hx hb hK.1 hP 0 (k := x) ((lW_out (by omega)).trans L2j) rfl (by omega) (by decide) dX0_measureWalk_7 ?_
  refine lv_istore (lv' := [(4, .int (J2 x)), (3, .int (nI 0)), (0, .ref q2), (1, .int (nI x)), (2, .ref la)]) hx hb dX0_measureWalk_8 hl (by decide) rfl (fun ls hl => ?_)
  refine lv_iconst (v := nI 1) hx hb dX0_measureWalk_10 (by decide) ?_
  refine lv_istore (lv' := [(5, .int (nI 1)), (4, .int (J2 x)), (3, .int (nI 0)), (0, .ref q2), (1, .int (nI x)), (2, .ref la)]) hx hb dX0_measureWalk_11 hl (by decide) rfl (fun ls hl => ?_)
  have e8 : (lW g w la lv) = (lW g w la ((mo1 J2 (nI 0, J2 x, lv) 0).2.2)) := by rw [mo1]
  rw [e8] at hP
  have hl : lv_has ls 8 [(0, .ref q2), (1, .int (nI x)), (2, .ref la), (3, .int (nI 0)), (4, .int (J2 x)), (5, .int (nI 1))] := lv_sub hl [3, 4, 5, 2, 1, 0] rfl
  have e8 : ([(0, .ref q2), (1, .int (nI x)), (2, .ref la), (3, .int (nI 0)), (4, .int (J2 x)), (5, .int (nI 1))] : List (Nat × Value)) = [(0, .ref q2), (1, .int (nI x)), (2, .ref la), (3, .int ((mo1 J2 (nI 0, J2 x, lv) 0).1)), (4, .int ((mo1 J2 (nI 0, J2 x, lv) 0).2.1)), (5, .int (nI (0 + 1)))] := by rw [mo1]
  rw [e8] at hl
  refine lp_mo1 g s0 w la hs0 lv x hx1 q2 k2 kd2 li2 inn2 oth2 pa2 cs2 cg2 L2 J2 L2j hne2 hx hb hml hown hts hK h0s hRm hcs  ?_ (32 + 1) 0 (by omega) (by omega) _ _ ls hP hS hl
  intro H locs ls hP hS hl
  exact W.vret hx hb hr (fun t9 ht hW => ⟨⟨(lW g w la ((mo1 J2 (nI 0, J2 x, lv) 32).2.2)), rfl, by rw [mwF], cB_of ht hP⟩, hS.F ht⟩) hS.2.2 dX0_measureWalk_91

