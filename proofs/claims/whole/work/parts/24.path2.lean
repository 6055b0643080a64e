/-! THE CLASS: a PATH behind another, joined NODES -/
def cb2 (G G3 : Nat → Nat) (J3 : Nat → Int32) (x : Nat) (t : aT) : Nat → aT
  | 0 => t
  | z + 1 => if G (x * 32 + z) = 0 ∨ J3 z = 0 then cb2 G G3 J3 x t z else ab1 G3 x (G (x * 32 + z)) z (cb2 G G3 J3 x t z) 32
termination_by z => z
def cb1 (G G3 : Nat → Nat) (J3 : Nat → Int32) (t : aT) : Nat → aT
  | 0 => t
  | x + 1 => cb2 G G3 J3 x (cb1 G G3 J3 t x) 32
termination_by x => x
theorem cb2_B {G G3 : Nat → Nat} {J3 : Nat → Int32} {x : Nat} {t : aT} (h : mB t.1) : ∀ z, mB (cb2 G G3 J3 x t z).1 := by
  intro z
  induction z with
  | zero => rw [cb2]; exact h
  | succ z ih =>
    rw [cb2]
    split
    · exact ih
    · exact ab1_B ih 32
theorem cb1_B {G G3 : Nat → Nat} {J3 : Nat → Int32} {t : aT} (h : mB t.1) : ∀ x, mB (cb1 G G3 J3 t x).1 := by
  intro x
  induction x with
  | zero => rw [cb1]; exact h
  | succ x ih => rw [cb1]; exact cb2_B ih 32
def js1 (gr : Int32) (j : Nat → Int32) : Nat → Nat → Int32
  | 0 => j
  | x + 1 => upd (js1 gr j x) x (js1 gr j x x ||| (gr &&& sh1 x))
termination_by x => x
def jo2 (z : Nat) (j : Nat → Int32) : Nat → Nat → Int32
  | 0 => j
  | x + 1 => if bt (jo2 z j x x) z = true then upd (jo2 z j x) x (jo2 z j x x ||| jo2 z j x z) else jo2 z j x
termination_by x => x
def jo1 (j : Nat → Int32) : Nat → Nat → Int32
  | 0 => j
  | z + 1 => jo2 z (jo1 j z) 32
termination_by z => z
def bn (v : Int32) (y : Nat) : Nat := if bt v y = true then 1 else 0
theorem bn_u (v : Int32) (y : Nat) (hy : y < 32) : (ush v y) &&& 1 = nI (bn v y) := by
  rw [b_ush1 v y hy, bn]
  split <;> rfl
def cj2 (j : Nat → Int32) (x : Nat) (F : Nat → Nat) : Nat → Nat → Nat
  | 0 => F
  | y + 1 => va_up (cj2 j x F y) (x * 32 + y) (bn (j x) y)
termination_by y => y
def cj1 (j : Nat → Int32) (F : Nat → Nat) : Nat → Nat → Nat
  | 0 => F
  | x + 1 => cj2 j x (cj1 j F x) 32
termination_by x => x
def jb1 (J2 j : Nat → Int32) : Nat → Nat → Int32
  | 0 => j
  | x + 1 => upd (jb1 J2 j x) x (J2 x)
termination_by x => x
def jbF (kd : Int32) (J2 : Nat → Int32) (gr : Int32) (j : Nat → Int32) : Nat → Int32 := if kd = nI 5 then jo1 (jb1 J2 j 32) 32 else if kd = nI 4 then js1 gr (jo1 (jb1 J2 j 32) 32) 32 else js1 gr (jb1 J2 j 32) 32
def coO (kd : Int32) (G : Nat → Nat) (J2 : Nat → Int32) (gr : Int32) (t : aT) : aT := if kd = nI 1 then ct1 G t 32 else (cj1 (jbF kd J2 gr t.2) t.1 32, jbF kd J2 gr t.2)
def coT (kd : Int32) (G G3 : Nat → Nat) (J3 : Nat → Int32) (t : aT) : aT := if kd = nI 3 then ca1 G3 (ca1 G t 32) 32 else cb1 G G3 J3 t 32
set_option maxHeartbeats 4000000 in
set_option maxRecDepth 100000 in
theorem lp_ab1 {p : Program} {l : Launch} {e : Env} {R : Room} {s : State} {m : MethodId} {args : Array Value} {below : List Frame} {meth : Method} {c : Code} {Q : State → Prop} {H0 : Heap} {cells slots : Nat} (g : gX) (s0 : Nat) (w : wd_M) (q : Nat) (hs0 : s0 ≤ q) (k : Int32) (kd : Int32) (li : Int32) (inn : Option Nat) (oth : Option Nat) (pa : Int64) (cs : Int32) (cg : Int32) (x b z : Nat) (hx1 : x < 32) (hz1 : z < 32) (hb9 : b ≤ 1000000) (t : aT) (hB : mB t.1) (q2 : Nat) (k2 kd2 li2 : Int32) (inn2 oth2 : Option Nat) (pa2 : Int64) (cs2 cg2 : Int32) (G : Nat → Nat) (h29 : mB G) (L2 : w q2 = some (pO k2 kd2 li2 inn2 oth2 pa2 (q2 + 1) (q2 + 2) cs2 cg2)) (L2t : w (q2 + 1) = some (wd_iA (g.2 0) 1024 (tN G))) (hne2 : q2 + 3 ≤ q ∨ q + 3 ≤ q2) (hx : p.tables.exec = Jvm.exec) (hb : c.code = cX0_addBehind) (hml : c.maxLocals = 7) (hown : s.vm.findClass RX0 = some m.cls) (hts : ∀ w ∈ Cond.code yX0_addBehind cX0_addBehind 7 (none) :: tg, w.before args s = true) (hK : gK g s) (h0s : s0 ≤ H0.size) (hRm : 2 ≤ R.frames ∧ 42 ≤ R.locals) (hcs : cells + 0 ≤ R.cells ∧ slots + 0 ≤ R.slots)  (kx : ∀ (H : Heap) (locs : List Loc) (ls : Array Slot), gP g (pW g w q k kd li inn oth pa cs cg (tN (ab1 G x b z t 32).1) ((ab1 G x b z t 32).2)) H → gS s0 H0 H locs → lv_has ls 7 [(0, .ref q)] → W p l e R s m args below meth c H locs cells slots Q (F0 m 35 ls [])) :
    ∀ (n y : Nat), y ≤ 32 → 32 + 1 ≤ y + n → ∀ (H : Heap) (locs : List Loc) (ls : Array Slot), gP g (pW g w q k kd li inn oth pa cs cg (tN (ab1 G x b z t y).1) ((ab1 G x b z t y).2)) H → gS s0 H0 H locs → lv_has ls 7 [(0, .ref q), (1, .int (nI x)), (2, .long (lN b)), (4, .ref q2), (5, .int (nI z)), (6, .int (nI y))] → W p l e R s m args below meth c H locs cells slots Q (F0 m 3 ls []) := by
  intro n
  induction n with
  | zero =>
    intro y h1 h2
    exact absurd h2 (by omega)
  | succ n ih =>
    intro y hi hin H locs ls hP hS hl
    refine lv_iload hx hb dX0_addBehind_3 (lv_at hl 5 rfl) ?_
    refine lv_bipush (v := nI 32) hx hb dX0_addBehind_5 (by decide) ?_
    refine lv_icmp_ge (tgt := 35) hx hb dX0_addBehind_7 (by decide) (fun c_7 => ?_) (fun c_7 => ?_)
    · have c_7 := (nI_leI (a := 32) (b := y) (by omega) (by omega)).mp c_7
      have e9 : y = 32 := by omega
      try rw [e9] at hP
      try rw [e9] at hl
      exact kx H locs ls hP hS (lv_sub hl [0] rfl)
    · have c_7 := mt (nI_leI (a := 32) (b := y) (by omega) (by omega)).mpr c_7
      refine lv_aload_n hx hb dX0_addBehind_10 rfl (lv_at hl 0 rfl) ?_
      refine lv_iload_n hx hb dX0_addBehind_11 rfl (lv_at hl 1 rfl) ?_
      refine lv_iload hx hb dX0_addBehind_12 (lv_at hl 5 rfl) ?_
      refine lv_lload_n hx hb dX0_addBehind_14 rfl (lv_at hl 2 rfl) ?_
      refine lv_aload hx hb dX0_addBehind_15 (lv_at hl 3 rfl) ?_
      refine lv_iload hx hb dX0_addBehind_17 (lv_at hl 4 rfl) ?_
      refine lv_iload hx hb dX0_addBehind_19 (lv_at hl 5 rfl) ?_
      refine cr_Vi (As := [.int (nI z), .int (nI y)]) (rest := [.long (lN b), .int (nI y), .int (nI x), .ref q]) ⟨hx, hb, hml, hown, hts⟩ (c_X0_timesOf l g s0 (pW g w q k kd li inn oth pa cs cg (tN (ab1 G x b z t y).1) ((ab1 G x b z t y).2)) q2 (q2 + 1) (q2 + 2) k2 kd2 li2 inn2 oth2 pa2 cs2 cg2 ((pW_out (by omega)).trans L2) (tN G) ((pW_out (by omega)).trans L2t) z y (by omega) (by omega)) (cw_V 2 hts tg_tail tw_226 tw_227 tw_228 tw_5 tw_229 rfl rfl (by decide +kernel) ⟨Nat.le_trans (by decide) hRm.1, Nat.le_trans (by decide) hRm.2⟩) hK hP h0s hS ((pW_out (by omega)).trans L2) rfl rfl rfl hl.1 rfl (Nat.le_of_ble_eq_true rfl) dX0_addBehind_21 hcs (fun r9 w9 H locs hw hP hS => ?_)
      obtain ⟨e_r9, hw9⟩ := hw
      rw [hw9] at hP
      subst e_r9
      refine wd_ti (x' := nI (G (z * 32 + y))) (rfl) ?_
      refine lv_i2l (v := lN (G (z * 32 + y))) hx hb dX0_addBehind_24 (nI_l (by have h9 : G (z * 32 + y) ≤ 1000000 := h29 _; omega)) ?_
      refine lv_lmul hx hb dX0_addBehind_25 ?_
      refine wd_tl (x' := lN (b * G (z * 32 + y))) (lN_mul _ _) ?_
      refine cr_Vv (As := [.int (nI x), .int (nI y), .long (lN (b * G (z * 32 + y)))]) (rest := []) ⟨hx, hb, hml, hown, hts⟩ (c_X0_addTimes l g s0  w q hs0 k kd li inn oth pa cs cg x y (b * G (z * 32 + y)) (by omega) (by omega) (by have h9 : G (z * 32 + y) ≤ 1000000 := h29 _; have h8 : b * G (z * 32 + y) ≤ 1000000 * 1000000 := Nat.mul_le_mul hb9 h9; omega) (by have h9 : G (z * 32 + y) ≤ 1000000 := h29 _; have h8 : b * G (z * 32 + y) ≤ 1000000 * 1000000 := Nat.mul_le_mul hb9 h9; omega) (ab1 G x b z t y) (ab1_B hB y)) (cw_V 3 hts tg_tail tw_212 tw_214 tp_7 tw_5 tw_215 rfl rfl (by decide +kernel) ⟨Nat.le_trans (by decide) hRm.1, Nat.le_trans (by decide) hRm.2⟩) hK hP h0s hS (pW_0) rfl rfl rfl hl.1 rfl (Nat.le_of_ble_eq_true rfl) dX0_addBehind_26 hcs (fun w9 H locs hw hP hS => ?_)
      rw [hw] at hP
      refine lv_iinc (v := nI (y + 1)) (lv' := [(6, .int (nI (y + 1))), (0, .ref q), (1, .int (nI x)), (2, .long (lN b)), (4, .ref q2), (5, .int (nI z))]) hx hb dX0_addBehind_29 hl (k := 5) rfl (nI_1 _) (by decide) rfl (fun ls hl => ?_)
      refine lv_goto (tgt := 3) hx hb dX0_addBehind_32 (by decide) ?_
      have e8 : (pW g w q k kd li inn oth pa cs cg (tN (adT (ab1 G x b z t y) x y (b * G (z * 32 + y))).1) ((adT (ab1 G x b z t y) x y (b * G (z * 32 + y))).2)) = (pW g w q k kd li inn oth pa cs cg (tN (ab1 G x b z t (y + 1)).1) ((ab1 G x b z t (y + 1)).2)) := by rw [ab1]
      rw [e8] at hP
      have hl : lv_has ls 7 [(0, .ref q), (1, .int (nI x)), (2, .long (lN b)), (4, .ref q2), (5, .int (nI z)), (6, .int (nI (y + 1)))] := lv_sub hl [1, 2, 3, 4, 5, 0] rfl
      exact ih (y + 1) (by omega) (by omega) _ _ ls hP hS hl

set_option maxHeartbeats 4000000 in
set_option maxRecDepth 100000 in
theorem c_X0_addBehind (l : Launch) (g : gX) (s0 : Nat) (w : wd_M) (q : Nat) (hs0 : s0 ≤ q) (k : Int32) (kd : Int32) (li : Int32) (inn : Option Nat) (oth : Option Nat) (pa : Int64) (cs : Int32) (cg : Int32) (x b z : Nat) (hx1 : x < 32) (hz1 : z < 32) (hb9 : b ≤ 1000000) (t : aT) (hB : mB t.1) (q2 : Nat) (k2 kd2 li2 : Int32) (inn2 oth2 : Option Nat) (pa2 : Int64) (cs2 cg2 : Int32) (G : Nat → Nat) (h29 : mB G) (L2 : w q2 = some (pO k2 kd2 li2 inn2 oth2 pa2 (q2 + 1) (q2 + 2) cs2 cg2)) (L2t : w (q2 + 1) = some (wd_iA (g.2 0) 1024 (tN G))) (hne2 : q2 + 3 ≤ q ∨ q + 3 ≤ q2) : Met l yX0_addBehind (Cond.code yX0_addBehind cX0_addBehind 7 (none) :: tg) ({ frames := 2, cells := 0, slots := 0, locals := 42 }) (cP g s0 (pW g w q k kd li inn oth pa cs cg (tN t.1) (t.2)) [.ref q, .int (nI x), .long (lN b), .ref q2, .int (nI z)]) (cV g s0 (fun w' => w' = (pW g w q k kd li inn oth pa cs cg (tN (ab1 G x b z t 32).1) ((ab1 G x b z t 32).2)))) 0 0 (cA s0) := by
  refine Met.ofW (cc := cX0_addBehind) (maxL := 7) (ret := none) (by decide) rfl ?_
  intro p e s m args below meth c s₁ B9 hml hv
  obtain ⟨rfl, h0s, hP, hK⟩ := hv
  have hx := B9.exec
  have hb := B9.bytes
  have hr := B9.returns
  have hts := atoms_spec (ws := Cond.code yX0_addBehind cX0_addBehind 7 (none) :: tg) B9.pre
  have hown : s.vm.findClass RX0 = some m.cls := findClass_of_methodNamed B9.named
  have hlocks := B9.notSynchronized
  have hS : gS s0 s.heap s.heap [] := va_S.rf
  have hRm : 2 ≤ (headSpec (Cond.code yX0_addBehind cX0_addBehind 7 (none) :: tg) ({ frames := 2, cells := 0, slots := 0, locals := 42 })).room.frames ∧ 42 ≤ (headSpec (Cond.code yX0_addBehind cX0_addBehind 7 (none) :: tg) ({ frames := 2, cells := 0, slots := 0, locals := 42 })).room.locals := ⟨Nat.le_refl _, Nat.le_refl _⟩
  have hcs : 0 + 0 ≤ (headSpec (Cond.code yX0_addBehind cX0_addBehind 7 (none) :: tg) ({ frames := 2, cells := 0, slots := 0, locals := 42 })).room.cells ∧ 0 + 0 ≤ (headSpec (Cond.code yX0_addBehind cX0_addBehind 7 (none) :: tg) ({ frames := 2, cells := 0, slots := 0, locals := 42 })).room.slots := ⟨Nat.zero_le _, Nat.zero_le _⟩
  have hl := lv_entry ([.ref q, .int (nI x), .long (lN b), .ref q2, .int (nI z)]) (n := 7) (Nat.le_of_ble_eq_true rfl)
  rw [lg_entry_eq]
  generalize (lg_sl ([.ref q, .int (nI x), .long (lN b), .ref q2, .int (nI z)]) ++ List.replicate (7 - (lg_sl ([.ref q, .int (nI x), .long (lN b), .ref q2, .int (nI z)])).length) Slot.unset).toArray = ls at hl ⊢
  have hl : lv_has ls 7 [(0, .ref q), (1, .int (nI x)), (2, .long (lN b)), (4, .ref q2), (5, .int (nI z))] := hl
  refine lv_iconst (v := nI 0) hx hb dX0_addBehind_0 (by decide) ?_
  refine lv_istore (lv' := [(6, .int (nI 0)), (0, .ref q), (1, .int (nI x)), (2, .long (lN b)), (4, .ref q2), (5, .int (nI z))]) hx hb dX0_addBehind_1 hl (by decide) rfl (fun ls hl => ?_)
  have e8 : (pW g w q k kd li inn oth pa cs cg (tN t.1) (t.2)) = (pW g w q k kd li inn oth pa cs cg (tN (ab1 G x b z t 0).1) ((ab1 G x b z t 0).2)) := by rw [ab1]
  rw [e8] at hP
  have hl : lv_has ls 7 [(0, .ref q), (1, .int (nI x)), (2, .long (lN b)), (4, .ref q2), (5, .int (nI z)), (6, .int (nI 0))] := lv_sub hl [1, 2, 3, 4, 5, 0] rfl
  refine lp_ab1 g s0 w q hs0 k kd li inn oth pa cs cg x b z hx1 hz1 hb9 t hB q2 k2 kd2 li2 inn2 oth2 pa2 cs2 cg2 G h29 L2 L2t hne2 hx hb hml hown hts hK h0s hRm hcs  ?_ (32 + 1) 0 (by omega) (by omega) _ _ ls hP hS hl
  intro H locs ls hP hS hl
  exact W.vret hx hb hr (fun t9 ht hW => ⟨⟨(pW g w q k kd li inn oth pa cs cg (tN (ab1 G x b z t 32).1) ((ab1 G x b z t 32).2)), rfl, rfl, cB_of ht hP⟩, hS.F ht⟩) hS.2.2 dX0_addBehind_35

set_option maxHeartbeats 4000000 in
set_option maxRecDepth 100000 in
theorem lp_cb2 {p : Program} {l : Launch} {e : Env} {R : Room} {s : State} {m : MethodId} {args : Array Value} {below : List Frame} {meth : Method} {c : Code} {Q : State → Prop} {H0 : Heap} {cells slots : Nat} (g : gX) (s0 : Nat) (w : wd_M) (q : Nat) (hs0 : s0 ≤ q) (k : Int32) (kd : Int32) (li : Int32) (inn : Option Nat) (oth : Option Nat) (pa : Int64) (cs : Int32) (cg : Int32) (x : Nat) (hx1 : x < 32) (t : aT) (hB : mB t.1) (q2 : Nat) (k2 kd2 li2 : Int32) (inn2 oth2 : Option Nat) (pa2 : Int64) (cs2 cg2 : Int32) (G : Nat → Nat) (h29 : mB G) (L2 : w q2 = some (pO k2 kd2 li2 inn2 oth2 pa2 (q2 + 1) (q2 + 2) cs2 cg2)) (L2t : w (q2 + 1) = some (wd_iA (g.2 0) 1024 (tN G))) (hne2 : q2 + 3 ≤ q ∨ q + 3 ≤ q2) (q3 : Nat) (k3 kd3 li3 : Int32) (inn3 oth3 : Option Nat) (pa3 : Int64) (cs3 cg3 : Int32) (G3 : Nat → Nat) (h39 : mB G3) (L3 : w q3 = some (pO k3 kd3 li3 inn3 oth3 pa3 (q3 + 1) (q3 + 2) cs3 cg3)) (L3t : w (q3 + 1) = some (wd_iA (g.2 0) 1024 (tN G3))) (hne3 : q3 + 3 ≤ q ∨ q + 3 ≤ q3) (J3 : Nat → Int32) (L3j : w (q3 + 2) = some (wd_iA (g.2 0) 32 J3)) (hx : p.tables.exec = Jvm.exec) (hb : c.code = cX0_countBehind) (hml : c.maxLocals = 7) (hown : s.vm.findClass RX0 = some m.cls) (hts : ∀ w ∈ Cond.code yX0_countBehind cX0_countBehind 7 (none) :: tg, w.before args s = true) (hK : gK g s) (h0s : s0 ≤ H0.size) (hRm : 3 ≤ R.frames ∧ 68 ≤ R.locals) (hcs : cells + 0 ≤ R.cells ∧ slots + 0 ≤ R.slots)  (kx : ∀ (H : Heap) (locs : List Loc) (ls : Array Slot), gP g (pW g w q k kd li inn oth pa cs cg (tN (cb2 G G3 J3 x t 32).1) ((cb2 G G3 J3 x t 32).2)) H → gS s0 H0 H locs → lv_has ls 7 [(0, .ref q), (1, .ref q2), (2, .ref q3), (3, .int (nI x))] → W p l e R s m args below meth c H locs cells slots Q (F0 m 61 ls [])) :
    ∀ (n z : Nat), z ≤ 32 → 32 + 1 ≤ z + n → ∀ (H : Heap) (locs : List Loc) (ls : Array Slot), gP g (pW g w q k kd li inn oth pa cs cg (tN (cb2 G G3 J3 x t z).1) ((cb2 G G3 J3 x t z).2)) H → gS s0 H0 H locs → lv_has ls 7 [(0, .ref q), (1, .ref q2), (2, .ref q3), (3, .int (nI x)), (4, .int (nI z))] → W p l e R s m args below meth c H locs cells slots Q (F0 m 11 ls []) := by
  intro n
  induction n with
  | zero =>
    intro z h1 h2
    exact absurd h2 (by omega)
  | succ n ih =>
    intro z hi hin H locs ls hP hS hl
    refine lv_iload hx hb dX0_countBehind_11 (lv_at hl 4 rfl) ?_
    refine lv_bipush (v := nI 32) hx hb dX0_countBehind_13 (by decide) ?_
    refine lv_icmp_ge (tgt := 61) hx hb dX0_countBehind_15 (by decide) (fun c_15 => ?_) (fun c_15 => ?_)
    · have c_15 := (nI_leI (a := 32) (b := z) (by omega) (by omega)).mp c_15
      have e9 : z = 32 := by omega
      try rw [e9] at hP
      try rw [e9] at hl
      exact kx H locs ls hP hS (lv_sub hl [0, 1, 2, 3] rfl)
    · have c_15 := mt (nI_leI (a := 32) (b := z) (by omega) (by omega)).mpr c_15
      refine lv_aload_n hx hb dX0_countBehind_18 rfl (lv_at hl 1 rfl) ?_
      refine lv_iload_n hx hb dX0_countBehind_19 rfl (lv_at hl 3 rfl) ?_
      refine lv_iload hx hb dX0_countBehind_20 (lv_at hl 4 rfl) ?_
      refine cr_Vi (As := [.int (nI x), .int (nI z)]) (rest := []) ⟨hx, hb, hml, hown, hts⟩ (c_X0_timesOf l g s0 (pW g w q k kd li inn oth pa cs cg (tN (cb2 G G3 J3 x t z).1) ((cb2 G G3 J3 x t z).2)) q2 (q2 + 1) (q2 + 2) k2 kd2 li2 inn2 oth2 pa2 cs2 cg2 ((pW_out (by omega)).trans L2) (tN G) ((pW_out (by omega)).trans L2t) x z (by omega) (by omega)) (cw_V 2 hts tg_tail tw_226 tw_227 tw_228 tw_5 tw_229 rfl rfl (by decide +kernel) ⟨Nat.le_trans (by decide) hRm.1, Nat.le_trans (by decide) hRm.2⟩) hK hP h0s hS ((pW_out (by omega)).trans L2) rfl rfl rfl hl.1 rfl (Nat.le_of_ble_eq_true rfl) dX0_countBehind_22 hcs (fun r9 w9 H locs hw hP hS => ?_)
      obtain ⟨e_r9, hw9⟩ := hw
      rw [hw9] at hP
      subst e_r9
      refine wd_ti (x' := nI (G (x * 32 + z))) (rfl) ?_
      refine lv_i2l (v := lN (G (x * 32 + z))) hx hb dX0_countBehind_25 (nI_l (by have h9 : G (x * 32 + z) ≤ 1000000 := h29 _; omega)) ?_
      refine lv_lstore (lv' := [(5, .long (lN (G (x * 32 + z)))), (0, .ref q), (1, .ref q2), (2, .ref q3), (3, .int (nI x)), (4, .int (nI z))]) hx hb dX0_countBehind_26 hl (by decide) rfl (fun ls hl => ?_)
      refine lv_lload hx hb dX0_countBehind_28 (lv_at hl 0 rfl) ?_
      refine lv_lconst (v := lN 0) hx hb dX0_countBehind_30 (by decide) ?_
      refine W.lcmp hx hb dX0_countBehind_31 ?_
      refine lv_if_eq (tgt := 55) hx hb dX0_countBehind_32 (by decide) (fun c_32 => ?_) (fun c_32 => ?_)
      · have c_32 := lc_eq.mp c_32
        refine lv_iinc (v := nI (z + 1)) (lv' := [(4, .int (nI (z + 1))), (5, .long (lN (G (x * 32 + z)))), (0, .ref q), (1, .ref q2), (2, .ref q3), (3, .int (nI x))]) hx hb dX0_countBehind_55 hl (k := 5) rfl (nI_1 _) (by decide) rfl (fun ls hl => ?_)
        refine lv_goto (tgt := 11) hx hb dX0_countBehind_58 (by decide) ?_
        have e8 : (pW g w q k kd li inn oth pa cs cg (tN (cb2 G G3 J3 x t z).1) ((cb2 G G3 J3 x t z).2)) = (pW g w q k kd li inn oth pa cs cg (tN (cb2 G G3 J3 x t (z + 1)).1) ((cb2 G G3 J3 x t (z + 1)).2)) := by rw [cb2, if_pos (Or.inl ((pk_lEQ (by have h9 : G (x * 32 + z) ≤ 1000000 := h29 _; omega) (by decide)).mp c_32))]
        rw [e8] at hP
        have hl : lv_has ls 7 [(0, .ref q), (1, .ref q2), (2, .ref q3), (3, .int (nI x)), (4, .int (nI (z + 1)))] := lv_sub hl [2, 3, 4, 5, 0] rfl
        exact ih (z + 1) (by omega) (by omega) _ _ ls hP hS hl
      · have c_32 := mt lc_eq.mpr c_32
        refine lv_aload_n hx hb dX0_countBehind_35 rfl (lv_at hl 3 rfl) ?_
        refine wd_get (ci := 1) (v := .ref (q3 + 2)) (C := RX0) (T := TX0) (N := 10) hx hb hts iwX0 hown hK.1 hP ((pW_out (by omega)).trans L3) rfl 7 (by decide) (hts _ (tg_tail _ tw_130)) (fun _ h9 => h9) rfl dX0_countBehind_36 ?_
        refine lv_iload hx hb dX0_countBehind_39 (lv_at hl 5 rfl) ?_
        refine wd_ildN hx hb hK.1 hP 0 (k := z) ((pW_out (by omega)).trans L3j) rfl (by omega) (by decide) dX0_countBehind_41 ?_
        refine lv_if_eq (tgt := 55) hx hb dX0_countBehind_42 (by decide) (fun c_42 => ?_) (fun c_42 => ?_)
        · refine lv_iinc (v := nI (z + 1)) (lv' := [(4, .int (nI (z + 1))), (5, .long (lN (G (x * 32 + z)))), (0, .ref q), (1, .ref q2), (2, .ref q3), (3, .int (nI x))]) hx hb dX0_countBehind_55 hl (k := 5) rfl (nI_1 _) (by decide) rfl (fun ls hl => ?_)
          refine lv_goto (tgt := 11) hx hb dX0_countBehind_58 (by decide) ?_
          have e8 : (pW g w q k kd li inn oth pa cs cg (tN (cb2 G G3 J3 x t z).1) ((cb2 G G3 J3 x t z).2)) = (pW g w q k kd li inn oth pa cs cg (tN (cb2 G G3 J3 x t (z + 1)).1) ((cb2 G G3 J3 x t (z + 1)).2)) := by rw [cb2, if_pos (Or.inr c_42)]
          rw [e8] at hP
          have hl : lv_has ls 7 [(0, .ref q), (1, .ref q2), (2, .ref q3), (3, .int (nI x)), (4, .int (nI (z + 1)))] := lv_sub hl [2, 3, 4, 5, 0] rfl
          exact ih (z + 1) (by omega) (by omega) _ _ ls hP hS hl
        · refine lv_aload_n hx hb dX0_countBehind_45 rfl (lv_at hl 1 rfl) ?_
          refine lv_iload_n hx hb dX0_countBehind_46 rfl (lv_at hl 4 rfl) ?_
          refine lv_lload hx hb dX0_countBehind_47 (lv_at hl 0 rfl) ?_
          refine lv_aload_n hx hb dX0_countBehind_49 rfl (lv_at hl 3 rfl) ?_
          refine lv_iload hx hb dX0_countBehind_50 (lv_at hl 5 rfl) ?_
          refine cr_Vv (As := [.int (nI x), .long (lN (G (x * 32 + z))), .ref q3, .int (nI z)]) (rest := []) ⟨hx, hb, hml, hown, hts⟩ (c_X0_addBehind l g s0  w q hs0 k kd li inn oth pa cs cg x (G (x * 32 + z)) z hx1 (by omega) (h29 _) (cb2 G G3 J3 x t z) (cb2_B hB z) q3 k3 kd3 li3 inn3 oth3 pa3 cs3 cg3 G3 h39 L3 L3t hne3) (cw_V 4 hts tg_tail tw_263 tw_265 tp_17 tw_5 tw_266 rfl rfl (by decide +kernel) ⟨Nat.le_trans (by decide) hRm.1, Nat.le_trans (by decide) hRm.2⟩) hK hP h0s hS (pW_0) rfl rfl rfl hl.1 rfl (Nat.le_of_ble_eq_true rfl) dX0_countBehind_52 hcs (fun w9 H locs hw hP hS => ?_)
          rw [hw] at hP
          refine lv_iinc (v := nI (z + 1)) (lv' := [(4, .int (nI (z + 1))), (5, .long (lN (G (x * 32 + z)))), (0, .ref q), (1, .ref q2), (2, .ref q3), (3, .int (nI x))]) hx hb dX0_countBehind_55 hl (k := 5) rfl (nI_1 _) (by decide) rfl (fun ls hl => ?_)
          refine lv_goto (tgt := 11) hx hb dX0_countBehind_58 (by decide) ?_
          have e8 : (pW g w q k kd li inn oth pa cs cg (tN (ab1 G3 x (G (x * 32 + z)) z (cb2 G G3 J3 x t z) 32).1) ((ab1 G3 x (G (x * 32 + z)) z (cb2 G G3 J3 x t z) 32).2)) = (pW g w q k kd li inn oth pa cs cg (tN (cb2 G G3 J3 x t (z + 1)).1) ((cb2 G G3 J3 x t (z + 1)).2)) := by rw [cb2, if_neg (fun q => q.elim (fun r => c_32 (congrArg lN r)) c_42)]
          rw [e8] at hP
          have hl : lv_has ls 7 [(0, .ref q), (1, .ref q2), (2, .ref q3), (3, .int (nI x)), (4, .int (nI (z + 1)))] := lv_sub hl [2, 3, 4, 5, 0] rfl
          exact ih (z + 1) (by omega) (by omega) _ _ ls hP hS hl

set_option maxHeartbeats 4000000 in
set_option maxRecDepth 100000 in
theorem lp_cb1 {p : Program} {l : Launch} {e : Env} {R : Room} {s : State} {m : MethodId} {args : Array Value} {below : List Frame} {meth : Method} {c : Code} {Q : State → Prop} {H0 : Heap} {cells slots : Nat} (g : gX) (s0 : Nat) (w : wd_M) (q : Nat) (hs0 : s0 ≤ q) (k : Int32) (kd : Int32) (li : Int32) (inn : Option Nat) (oth : Option Nat) (pa : Int64) (cs : Int32) (cg : Int32) (t : aT) (hB : mB t.1) (q2 : Nat) (k2 kd2 li2 : Int32) (inn2 oth2 : Option Nat) (pa2 : Int64) (cs2 cg2 : Int32) (G : Nat → Nat) (h29 : mB G) (L2 : w q2 = some (pO k2 kd2 li2 inn2 oth2 pa2 (q2 + 1) (q2 + 2) cs2 cg2)) (L2t : w (q2 + 1) = some (wd_iA (g.2 0) 1024 (tN G))) (hne2 : q2 + 3 ≤ q ∨ q + 3 ≤ q2) (q3 : Nat) (k3 kd3 li3 : Int32) (inn3 oth3 : Option Nat) (pa3 : Int64) (cs3 cg3 : Int32) (G3 : Nat → Nat) (h39 : mB G3) (L3 : w q3 = some (pO k3 kd3 li3 inn3 oth3 pa3 (q3 + 1) (q3 + 2) cs3 cg3)) (L3t : w (q3 + 1) = some (wd_iA (g.2 0) 1024 (tN G3))) (hne3 : q3 + 3 ≤ q ∨ q + 3 ≤ q3) (J3 : Nat → Int32) (L3j : w (q3 + 2) = some (wd_iA (g.2 0) 32 J3)) (hx : p.tables.exec = Jvm.exec) (hb : c.code = cX0_countBehind) (hml : c.maxLocals = 7) (hown : s.vm.findClass RX0 = some m.cls) (hts : ∀ w ∈ Cond.code yX0_countBehind cX0_countBehind 7 (none) :: tg, w.before args s = true) (hK : gK g s) (h0s : s0 ≤ H0.size) (hRm : 3 ≤ R.frames ∧ 68 ≤ R.locals) (hcs : cells + 0 ≤ R.cells ∧ slots + 0 ≤ R.slots)  (kx : ∀ (H : Heap) (locs : List Loc) (ls : Array Slot), gP g (pW g w q k kd li inn oth pa cs cg (tN (cb1 G G3 J3 t 32).1) ((cb1 G G3 J3 t 32).2)) H → gS s0 H0 H locs → lv_has ls 7 [(0, .ref q)] → W p l e R s m args below meth c H locs cells slots Q (F0 m 67 ls [])) :
    ∀ (n x : Nat), x ≤ 32 → 32 + 1 ≤ x + n → ∀ (H : Heap) (locs : List Loc) (ls : Array Slot), gP g (pW g w q k kd li inn oth pa cs cg (tN (cb1 G G3 J3 t x).1) ((cb1 G G3 J3 t x).2)) H → gS s0 H0 H locs → lv_has ls 7 [(0, .ref q), (1, .ref q2), (2, .ref q3), (3, .int (nI x))] → W p l e R s m args below meth c H locs cells slots Q (F0 m 2 ls []) := by
  intro n
  induction n with
  | zero =>
    intro x h1 h2
    exact absurd h2 (by omega)
  | succ n ih =>
    intro x hi hin H locs ls hP hS hl
    refine lv_iload_n hx hb dX0_countBehind_2 rfl (lv_at hl 3 rfl) ?_
    refine lv_bipush (v := nI 32) hx hb dX0_countBehind_3 (by decide) ?_
    refine lv_icmp_ge (tgt := 67) hx hb dX0_countBehind_5 (by decide) (fun c_5 => ?_) (fun c_5 => ?_)
    · have c_5 := (nI_leI (a := 32) (b := x) (by omega) (by omega)).mp c_5
      have e9 : x = 32 := by omega
      try rw [e9] at hP
      try rw [e9] at hl
      exact kx H locs ls hP hS (lv_sub hl [0] rfl)
    · have c_5 := mt (nI_leI (a := 32) (b := x) (by omega) (by omega)).mpr c_5
      refine lv_iconst (v := nI 0) hx hb dX0_countBehind_8 (by decide) ?_
      refine lv_istore (lv' := [(4, .int (nI 0)), (0, .ref q), (1, .ref q2), (2, .ref q3), (3, .int (nI x))]) hx hb dX0_countBehind_9 hl (by decide) rfl (fun ls hl => ?_)
      have e8 : (pW g w q k kd li inn oth pa cs cg (tN (cb1 G G3 J3 t x).1) ((cb1 G G3 J3 t x).2)) = (pW g w q k kd li inn oth pa cs cg (tN (cb2 G G3 J3 x ((cb1 G G3 J3 t x)) 0).1) ((cb2 G G3 J3 x ((cb1 G G3 J3 t x)) 0).2)) := by rw [cb2]
      rw [e8] at hP
      have hl : lv_has ls 7 [(0, .ref q), (1, .ref q2), (2, .ref q3), (3, .int (nI x)), (4, .int (nI 0))] := lv_sub hl [1, 2, 3, 4, 0] rfl
      refine lp_cb2 g s0 w q hs0 k kd li inn oth pa cs cg x (by omega) (cb1 G G3 J3 t x) (cb1_B hB x) q2 k2 kd2 li2 inn2 oth2 pa2 cs2 cg2 G h29 L2 L2t hne2 q3 k3 kd3 li3 inn3 oth3 pa3 cs3 cg3 G3 h39 L3 L3t hne3 J3 L3j hx hb hml hown hts hK h0s hRm hcs  ?_ (32 + 1) 0 (by omega) (by omega) _ _ ls hP hS hl
      intro H locs ls hP hS hl
      refine lv_iinc (v := nI (x + 1)) (lv' := [(3, .int (nI (x + 1))), (0, .ref q), (1, .ref q2), (2, .ref q3)]) hx hb dX0_countBehind_61 hl (k := 3) rfl (nI_1 _) (by decide) rfl (fun ls hl => ?_)
      refine lv_goto (tgt := 2) hx hb dX0_countBehind_64 (by decide) ?_
      have e8 : (pW g w q k kd li inn oth pa cs cg (tN (cb2 G G3 J3 x ((cb1 G G3 J3 t x)) 32).1) ((cb2 G G3 J3 x ((cb1 G G3 J3 t x)) 32).2)) = (pW g w q k kd li inn oth pa cs cg (tN (cb1 G G3 J3 t (x + 1)).1) ((cb1 G G3 J3 t (x + 1)).2)) := by rw [cb1]
      rw [e8] at hP
      have hl : lv_has ls 7 [(0, .ref q), (1, .ref q2), (2, .ref q3), (3, .int (nI (x + 1)))] := lv_sub hl [1, 2, 3, 0] rfl
      exact ih (x + 1) (by omega) (by omega) _ _ ls hP hS hl

set_option maxHeartbeats 4000000 in
set_option maxRecDepth 100000 in
theorem c_X0_countBehind (l : Launch) (g : gX) (s0 : Nat) (w : wd_M) (q : Nat) (hs0 : s0 ≤ q) (k : Int32) (kd : Int32) (li : Int32) (inn : Option Nat) (oth : Option Nat) (pa : Int64) (cs : Int32) (cg : Int32) (t : aT) (hB : mB t.1) (q2 : Nat) (k2 kd2 li2 : Int32) (inn2 oth2 : Option Nat) (pa2 : Int64) (cs2 cg2 : Int32) (G : Nat → Nat) (h29 : mB G) (L2 : w q2 = some (pO k2 kd2 li2 inn2 oth2 pa2 (q2 + 1) (q2 + 2) cs2 cg2)) (L2t : w (q2 + 1) = some (wd_iA (g.2 0) 1024 (tN G))) (hne2 : q2 + 3 ≤ q ∨ q + 3 ≤ q2) (q3 : Nat) (k3 kd3 li3 : Int32) (inn3 oth3 : Option Nat) (pa3 : Int64) (cs3 cg3 : Int32) (G3 : Nat → Nat) (h39 : mB G3) (L3 : w q3 = some (pO k3 kd3 li3 inn3 oth3 pa3 (q3 + 1) (q3 + 2) cs3 cg3)) (L3t : w (q3 + 1) = some (wd_iA (g.2 0) 1024 (tN G3))) (hne3 : q3 + 3 ≤ q ∨ q + 3 ≤ q3) (J3 : Nat → Int32) (L3j : w (q3 + 2) = some (wd_iA (g.2 0) 32 J3)) : Met l yX0_countBehind (Cond.code yX0_countBehind cX0_countBehind 7 (none) :: tg) ({ frames := 3, cells := 0, slots := 0, locals := 68 }) (cP g s0 (pW g w q k kd li inn oth pa cs cg (tN t.1) (t.2)) [.ref q, .ref q2, .ref q3]) (cV g s0 (fun w' => w' = (pW g w q k kd li inn oth pa cs cg (tN (cb1 G G3 J3 t 32).1) ((cb1 G G3 J3 t 32).2)))) 0 0 (cA s0) := by
  refine Met.ofW (cc := cX0_countBehind) (maxL := 7) (ret := none) (by decide) rfl ?_
  intro p e s m args below meth c s₁ B9 hml hv
  obtain ⟨rfl, h0s, hP, hK⟩ := hv
  have hx := B9.exec
  have hb := B9.bytes
  have hr := B9.returns
  have hts := atoms_spec (ws := Cond.code yX0_countBehind cX0_countBehind 7 (none) :: tg) B9.pre
  have hown : s.vm.findClass RX0 = some m.cls := findClass_of_methodNamed B9.named
  have hlocks := B9.notSynchronized
  have hS : gS s0 s.heap s.heap [] := va_S.rf
  have hRm : 3 ≤ (headSpec (Cond.code yX0_countBehind cX0_countBehind 7 (none) :: tg) ({ frames := 3, cells := 0, slots := 0, locals := 68 })).room.frames ∧ 68 ≤ (headSpec (Cond.code yX0_countBehind cX0_countBehind 7 (none) :: tg) ({ frames := 3, cells := 0, slots := 0, locals := 68 })).room.locals := ⟨Nat.le_refl _, Nat.le_refl _⟩
  have hcs : 0 + 0 ≤ (headSpec (Cond.code yX0_countBehind cX0_countBehind 7 (none) :: tg) ({ frames := 3, cells := 0, slots := 0, locals := 68 })).room.cells ∧ 0 + 0 ≤ (headSpec (Cond.code yX0_countBehind cX0_countBehind 7 (none) :: tg) ({ frames := 3, cells := 0, slots := 0, locals := 68 })).room.slots := ⟨Nat.zero_le _, Nat.zero_le _⟩
  have hl := lv_entry ([.ref q, .ref q2, .ref q3]) (n := 7) (Nat.le_of_ble_eq_true rfl)
  rw [lg_entry_eq]
  generalize (lg_sl ([.ref q, .ref q2, .ref q3]) ++ List.replicate (7 - (lg_sl ([.ref q, .ref q2, .ref q3])).length) Slot.unset).toArray = ls at hl ⊢
  have hl : lv_has ls 7 [(0, .ref q), (1, .ref q2), (2, .ref q3)] := hl
  refine lv_iconst (v := nI 0) hx hb dX0_countBehind_0 (by decide) ?_
  refine lv_istore_n (lv' := [(3, .int (nI 0)), (0, .ref q), (1, .ref q2), (2, .ref q3)]) hx hb dX0_countBehind_1 rfl hl (by decide) rfl (fun ls hl => ?_)
  have e8 : (pW g w q k kd li inn oth pa cs cg (tN t.1) (t.2)) = (pW g w q k kd li inn oth pa cs cg (tN (cb1 G G3 J3 t 0).1) ((cb1 G G3 J3 t 0).2)) := by rw [cb1]
  rw [e8] at hP
  have hl : lv_has ls 7 [(0, .ref q), (1, .ref q2), (2, .ref q3), (3, .int (nI 0))] := lv_sub hl [1, 2, 3, 0] rfl
  refine lp_cb1 g s0 w q hs0 k kd li inn oth pa cs cg t hB q2 k2 kd2 li2 inn2 oth2 pa2 cs2 cg2 G h29 L2 L2t hne2 q3 k3 kd3 li3 inn3 oth3 pa3 cs3 cg3 G3 h39 L3 L3t hne3 J3 L3j hx hb hml hown hts hK h0s hRm hcs  ?_ (32 + 1) 0 (by omega) (by omega) _ _ ls hP hS hl
  intro H locs ls hP hS hl
  exact W.vret hx hb hr (fun t9 ht hW => ⟨⟨(pW g w q k kd li inn oth pa cs cg (tN (cb1 G G3 J3 t 32).1) ((cb1 G G3 J3 t 32).2)), rfl, rfl, cB_of ht hP⟩, hS.F ht⟩) hS.2.2 dX0_countBehind_67

set_option maxHeartbeats 4000000 in
set_option maxRecDepth 100000 in
theorem lp_js1 {p : Program} {l : Launch} {e : Env} {R : Room} {s : State} {m : MethodId} {args : Array Value} {below : List Frame} {meth : Method} {c : Code} {Q : State → Prop} {H0 : Heap} {cells slots : Nat} (g : gX) (s0 : Nat) (w : wd_M) (q : Nat) (hs0 : s0 ≤ q) (k : Int32) (kd : Int32) (li : Int32) (inn : Option Nat) (oth : Option Nat) (pa : Int64) (cs : Int32) (cg : Int32) (f : Nat → Int32) (j : Nat → Int32) (gr : Int32) (hx : p.tables.exec = Jvm.exec) (hb : c.code = cX0_joinSelves) (hml : c.maxLocals = 3) (hown : s.vm.findClass RX0 = some m.cls) (hts : ∀ w ∈ Cond.code yX0_joinSelves cX0_joinSelves 3 (none) :: tg, w.before args s = true) (hK : gK g s) (h0s : s0 ≤ H0.size) (hRm : 0 ≤ R.frames ∧ 0 ≤ R.locals) (hcs : cells + 0 ≤ R.cells ∧ slots + 0 ≤ R.slots)  (kx : ∀ (H : Heap) (locs : List Loc) (ls : Array Slot), gP g (pW g w q k kd li inn oth pa cs cg f (js1 gr j 32)) H → gS s0 H0 H locs → lv_has ls 3 [(0, .ref q)] → W p l e R s m args below meth c H locs cells slots Q (F0 m 28 ls [])) :
    ∀ (n x : Nat), x ≤ 32 → 32 + 1 ≤ x + n → ∀ (H : Heap) (locs : List Loc) (ls : Array Slot), gP g (pW g w q k kd li inn oth pa cs cg f (js1 gr j x)) H → gS s0 H0 H locs → lv_has ls 3 [(0, .ref q), (1, .int (gr)), (2, .int (nI x))] → W p l e R s m args below meth c H locs cells slots Q (F0 m 2 ls []) := by
  intro n
  induction n with
  | zero =>
    intro x h1 h2
    exact absurd h2 (by omega)
  | succ n ih =>
    intro x hi hin H locs ls hP hS hl
    refine lv_iload_n hx hb dX0_joinSelves_2 rfl (lv_at hl 2 rfl) ?_
    refine lv_bipush (v := nI 32) hx hb dX0_joinSelves_3 (by decide) ?_
    refine lv_icmp_ge (tgt := 28) hx hb dX0_joinSelves_5 (by decide) (fun c_5 => ?_) (fun c_5 => ?_)
    · have c_5 := (nI_leI (a := 32) (b := x) (by omega) (by omega)).mp c_5
      have e9 : x = 32 := by omega
      try rw [e9] at hP
      try rw [e9] at hl
      exact kx H locs ls hP hS (lv_sub hl [0] rfl)
    · have c_5 := mt (nI_leI (a := 32) (b := x) (by omega) (by omega)).mpr c_5
      refine lv_aload_n hx hb dX0_joinSelves_8 rfl (lv_at hl 0 rfl) ?_
      refine wd_get (ci := 1) (v := .ref (q + 2)) (C := RX0) (T := TX0) (N := 10) hx hb hts iwX0 hown hK.1 hP (pW_0) rfl 7 (by decide) (hts _ (tg_tail _ tw_130)) (fun _ h9 => h9) rfl dX0_joinSelves_9 ?_
      refine lv_iload_n hx hb dX0_joinSelves_12 rfl (lv_at hl 2 rfl) ?_
      refine lv_dup2_11 hx hb dX0_joinSelves_13 rfl rfl ?_
      refine wd_ildN hx hb hK.1 hP 0 (k := x) (pW_2) rfl (by omega) (by decide) dX0_joinSelves_14 ?_
      refine lv_iload_n hx hb dX0_joinSelves_15 rfl (lv_at hl 1 rfl) ?_
      refine lv_iconst (v := 1) hx hb dX0_joinSelves_16 (by decide) ?_
      refine lv_iload_n hx hb dX0_joinSelves_17 rfl (lv_at hl 2 rfl) ?_
      refine lv_ishl hx hb dX0_joinSelves_18 ?_
      refine lv_iand hx hb dX0_joinSelves_19 ?_
      refine lv_ior hx hb dX0_joinSelves_20 ?_
      refine wd_istN hx hb hK.1 hP hS (by omega) 0 (k := x) (pW_2) rfl (by omega) (by decide) dX0_joinSelves_21 (fun H locs hP hS hz => ?_)
      have hP : gP g (pW g w q k kd li inn oth pa cs cg f (upd (js1 gr j x) x (((js1 gr j x) x) ||| ((gr) &&& ((1) <<< ((nI x) &&& 31)))))) H := by have h9 : gP g (wd_up (pW g w q k kd li inn oth pa cs cg f (js1 gr j x)) (q + 2) (wd_iA (g.2 0) 32 (upd (js1 gr j x) x (((js1 gr j x) x) ||| ((gr) &&& ((1) <<< ((nI x) &&& 31))))))) H := hP; rw [pW_s2] at h9; exact h9
      refine lv_iinc (v := nI (x + 1)) (lv' := [(2, .int (nI (x + 1))), (0, .ref q), (1, .int (gr))]) hx hb dX0_joinSelves_22 hl (k := 2) rfl (nI_1 _) (by decide) rfl (fun ls hl => ?_)
      refine lv_goto (tgt := 2) hx hb dX0_joinSelves_25 (by decide) ?_
      have e8 : (pW g w q k kd li inn oth pa cs cg f (upd (js1 gr j x) x (((js1 gr j x) x) ||| ((gr) &&& ((1) <<< ((nI x) &&& 31)))))) = (pW g w q k kd li inn oth pa cs cg f (js1 gr j (x + 1))) := by rw [js1]
      rw [e8] at hP
      have hl : lv_has ls 3 [(0, .ref q), (1, .int (gr)), (2, .int (nI (x + 1)))] := lv_sub hl [1, 2, 0] rfl
      exact ih (x + 1) (by omega) (by omega) _ _ ls hP hS hl

set_option maxHeartbeats 4000000 in
set_option maxRecDepth 100000 in
theorem c_X0_joinSelves (l : Launch) (g : gX) (s0 : Nat) (w : wd_M) (q : Nat) (hs0 : s0 ≤ q) (k : Int32) (kd : Int32) (li : Int32) (inn : Option Nat) (oth : Option Nat) (pa : Int64) (cs : Int32) (cg : Int32) (f : Nat → Int32) (j : Nat → Int32) (gr : Int32) : Met l yX0_joinSelves (Cond.code yX0_joinSelves cX0_joinSelves 3 (none) :: tg) ({ frames := 0, cells := 0, slots := 0, locals := 0 }) (cP g s0 (pW g w q k kd li inn oth pa cs cg f j) [.ref q, .int (gr)]) (cV g s0 (fun w' => w' = (pW g w q k kd li inn oth pa cs cg f (js1 gr j 32)))) 0 0 (cA s0) := by
  refine Met.ofW (cc := cX0_joinSelves) (maxL := 3) (ret := none) (by decide) rfl ?_
  intro p e s m args below meth c s₁ B9 hml hv
  obtain ⟨rfl, h0s, hP, hK⟩ := hv
  have hx := B9.exec
  have hb := B9.bytes
  have hr := B9.returns
  have hts := atoms_spec (ws := Cond.code yX0_joinSelves cX0_joinSelves 3 (none) :: tg) B9.pre
  have hown : s.vm.findClass RX0 = some m.cls := findClass_of_methodNamed B9.named
  have hlocks := B9.notSynchronized
  have hS : gS s0 s.heap s.heap [] := va_S.rf
  have hRm : 0 ≤ (headSpec (Cond.code yX0_joinSelves cX0_joinSelves 3 (none) :: tg) ({ frames := 0, cells := 0, slots := 0, locals := 0 })).room.frames ∧ 0 ≤ (headSpec (Cond.code yX0_joinSelves cX0_joinSelves 3 (none) :: tg) ({ frames := 0, cells := 0, slots := 0, locals := 0 })).room.locals := ⟨Nat.le_refl _, Nat.le_refl _⟩
  have hcs : 0 + 0 ≤ (headSpec (Cond.code yX0_joinSelves cX0_joinSelves 3 (none) :: tg) ({ frames := 0, cells := 0, slots := 0, locals := 0 })).room.cells ∧ 0 + 0 ≤ (headSpec (Cond.code yX0_joinSelves cX0_joinSelves 3 (none) :: tg) ({ frames := 0, cells := 0, slots := 0, locals := 0 })).room.slots := ⟨Nat.zero_le _, Nat.zero_le _⟩
  have hl := lv_entry ([.ref q, .int (gr)]) (n := 3) (Nat.le_of_ble_eq_true rfl)
  rw [lg_entry_eq]
  generalize (lg_sl ([.ref q, .int (gr)]) ++ List.replicate (3 - (lg_sl ([.ref q, .int (gr)])).length) Slot.unset).toArray = ls at hl ⊢
  have hl : lv_has ls 3 [(0, .ref q), (1, .int (gr))] := hl
  refine lv_iconst (v := nI 0) hx hb dX0_joinSelves_0 (by decide) ?_
  refine lv_istore_n (lv' := [(2, .int (nI 0)), (0, .ref q), (1, .int (gr))]) hx hb dX0_joinSelves_1 rfl hl (by decide) rfl (fun ls hl => ?_)
  have e8 : (pW g w q k kd li inn oth pa cs cg f j) = (pW g w q k kd li inn oth pa cs cg f (js1 gr j 0)) := by rw [js1]
  rw [e8] at hP
  have hl : lv_has ls 3 [(0, .ref q), (1, .int (gr)), (2, .int (nI 0))] := lv_sub hl [1, 2, 0] rfl
  refine lp_js1 g s0 w q hs0 k kd li inn oth pa cs cg f j gr hx hb hml hown hts hK h0s hRm hcs  ?_ (32 + 1) 0 (by omega) (by omega) _ _ ls hP hS hl
  intro H locs ls hP hS hl
  exact W.vret hx hb hr (fun t9 ht hW => ⟨⟨(pW g w q k kd li inn oth pa cs cg f (js1 gr j 32)), rfl, rfl, cB_of ht hP⟩, hS.F ht⟩) hS.2.2 dX0_joinSelves_28

set_option maxHeartbeats 4000000 in
set_option maxRecDepth 100000 in
theorem lp_jo2 {p : Program} {l : Launch} {e : Env} {R : Room} {s : State} {m : MethodId} {args : Array Value} {below : List Frame} {meth : Method} {c : Code} {Q : State → Prop} {H0 : Heap} {cells slots : Nat} (g : gX) (s0 : Nat) (w : wd_M) (q : Nat) (hs0 : s0 ≤ q) (k : Int32) (kd : Int32) (li : Int32) (inn : Option Nat) (oth : Option Nat) (pa : Int64) (cs : Int32) (cg : Int32) (f : Nat → Int32) (j : Nat → Int32) (z : Nat) (hz1 : z < 32) (hx : p.tables.exec = Jvm.exec) (hb : c.code = cX0_joinOnwards) (hml : c.maxLocals = 3) (hown : s.vm.findClass RX0 = some m.cls) (hts : ∀ w ∈ Cond.code yX0_joinOnwards cX0_joinOnwards 3 (none) :: tg, w.before args s = true) (hK : gK g s) (h0s : s0 ≤ H0.size) (hRm : 1 ≤ R.frames ∧ 21 ≤ R.locals) (hcs : cells + 0 ≤ R.cells ∧ slots + 0 ≤ R.slots)  (kx : ∀ (H : Heap) (locs : List Loc) (ls : Array Slot), gP g (pW g w q k kd li inn oth pa cs cg f (jo2 z j 32)) H → gS s0 H0 H locs → lv_has ls 3 [(0, .ref q), (1, .int (nI z))] → W p l e R s m args below meth c H locs cells slots Q (F0 m 50 ls [])) :
    ∀ (n x : Nat), x ≤ 32 → 32 + 1 ≤ x + n → ∀ (H : Heap) (locs : List Loc) (ls : Array Slot), gP g (pW g w q k kd li inn oth pa cs cg f (jo2 z j x)) H → gS s0 H0 H locs → lv_has ls 3 [(0, .ref q), (1, .int (nI z)), (2, .int (nI x))] → W p l e R s m args below meth c H locs cells slots Q (F0 m 10 ls []) := by
  intro n
  induction n with
  | zero =>
    intro x h1 h2
    exact absurd h2 (by omega)
  | succ n ih =>
    intro x hi hin H locs ls hP hS hl
    refine lv_iload_n hx hb dX0_joinOnwards_10 rfl (lv_at hl 2 rfl) ?_
    refine lv_bipush (v := nI 32) hx hb dX0_joinOnwards_11 (by decide) ?_
    refine lv_icmp_ge (tgt := 50) hx hb dX0_joinOnwards_13 (by decide) (fun c_13 => ?_) (fun c_13 => ?_)
    · have c_13 := (nI_leI (a := 32) (b := x) (by omega) (by omega)).mp c_13
      have e9 : x = 32 := by omega
      try rw [e9] at hP
      try rw [e9] at hl
      exact kx H locs ls hP hS (lv_sub hl [0, 1] rfl)
    · have c_13 := mt (nI_leI (a := 32) (b := x) (by omega) (by omega)).mpr c_13
      refine lv_aload_n hx hb dX0_joinOnwards_16 rfl (lv_at hl 0 rfl) ?_
      refine wd_get (ci := 1) (v := .ref (q + 2)) (C := RX0) (T := TX0) (N := 10) hx hb hts iwX0 hown hK.1 hP (pW_0) rfl 7 (by decide) (hts _ (tg_tail _ tw_130)) (fun _ h9 => h9) rfl dX0_joinOnwards_17 ?_
      refine lv_iload_n hx hb dX0_joinOnwards_20 rfl (lv_at hl 2 rfl) ?_
      refine wd_ildN hx hb hK.1 hP 0 (k := x) (pW_2) rfl (by omega) (by decide) dX0_joinOnwards_21 ?_
      refine lv_iload_n hx hb dX0_joinOnwards_22 rfl (lv_at hl 1 rfl) ?_
      refine cr_Ni (As := [.int ((jo2 z j x) x), .int (nI z)]) (rest := []) ⟨hx, hb, hml, hown, hts⟩ (c_X3_holds l g s0 (pW g w q k kd li inn oth pa cs cg f (jo2 z j x)) (jo2 z j x x) (z) (by omega)) (cw_N 2 hts tg_tail hK.2.2.2.1 tw_103 tw_1 tw_104 rfl rfl (by decide +kernel) ⟨Nat.le_trans (by decide) hRm.1, Nat.le_trans (by decide) hRm.2⟩) hK hP h0s hS rfl hl.1 rfl (Nat.le_of_ble_eq_true rfl) dX0_joinOnwards_23 hcs (fun r9 w9 H locs hw hP hS => ?_)
      obtain ⟨e_r9, hw9⟩ := hw
      rw [hw9] at hP
      subst e_r9
      refine lv_if_eq (tgt := 44) hx hb dX0_joinOnwards_26 (by decide) (fun c_26 => ?_) (fun c_26 => ?_)
      · have c_26 := zB_0.mp c_26
        refine lv_iinc (v := nI (x + 1)) (lv' := [(2, .int (nI (x + 1))), (0, .ref q), (1, .int (nI z))]) hx hb dX0_joinOnwards_44 hl (k := 2) rfl (nI_1 _) (by decide) rfl (fun ls hl => ?_)
        refine lv_goto (tgt := 10) hx hb dX0_joinOnwards_47 (by decide) ?_
        have e8 : (pW g w q k kd li inn oth pa cs cg f (jo2 z j x)) = (pW g w q k kd li inn oth pa cs cg f (jo2 z j (x + 1))) := by rw [jo2, if_neg c_26]
        rw [e8] at hP
        have hl : lv_has ls 3 [(0, .ref q), (1, .int (nI z)), (2, .int (nI (x + 1)))] := lv_sub hl [1, 2, 0] rfl
        exact ih (x + 1) (by omega) (by omega) _ _ ls hP hS hl
      · have c_26 := zB_1.mp c_26
        refine lv_aload_n hx hb dX0_joinOnwards_29 rfl (lv_at hl 0 rfl) ?_
        refine wd_get (ci := 1) (v := .ref (q + 2)) (C := RX0) (T := TX0) (N := 10) hx hb hts iwX0 hown hK.1 hP (pW_0) rfl 7 (by decide) (hts _ (tg_tail _ tw_130)) (fun _ h9 => h9) rfl dX0_joinOnwards_30 ?_
        refine lv_iload_n hx hb dX0_joinOnwards_33 rfl (lv_at hl 2 rfl) ?_
        refine lv_dup2_11 hx hb dX0_joinOnwards_34 rfl rfl ?_
        refine wd_ildN hx hb hK.1 hP 0 (k := x) (pW_2) rfl (by omega) (by decide) dX0_joinOnwards_35 ?_
        refine lv_aload_n hx hb dX0_joinOnwards_36 rfl (lv_at hl 0 rfl) ?_
        refine wd_get (ci := 1) (v := .ref (q + 2)) (C := RX0) (T := TX0) (N := 10) hx hb hts iwX0 hown hK.1 hP (pW_0) rfl 7 (by decide) (hts _ (tg_tail _ tw_130)) (fun _ h9 => h9) rfl dX0_joinOnwards_37 ?_
        refine lv_iload_n hx hb dX0_joinOnwards_40 rfl (lv_at hl 1 rfl) ?_
        refine wd_ildN hx hb hK.1 hP 0 (k := z) (pW_2) rfl (by omega) (by decide) dX0_joinOnwards_41 ?_
        refine lv_ior hx hb dX0_joinOnwards_42 ?_
        refine wd_istN hx hb hK.1 hP hS (by omega) 0 (k := x) (pW_2) rfl (by omega) (by decide) dX0_joinOnwards_43 (fun H locs hP hS hz => ?_)
        have hP : gP g (pW g w q k kd li inn oth pa cs cg f (upd (jo2 z j x) x (((jo2 z j x) x) ||| ((jo2 z j x) z)))) H := by have h9 : gP g (wd_up (pW g w q k kd li inn oth pa cs cg f (jo2 z j x)) (q + 2) (wd_iA (g.2 0) 32 (upd (jo2 z j x) x (((jo2 z j x) x) ||| ((jo2 z j x) z))))) H := hP; rw [pW_s2] at h9; exact h9
        refine lv_iinc (v := nI (x + 1)) (lv' := [(2, .int (nI (x + 1))), (0, .ref q), (1, .int (nI z))]) hx hb dX0_joinOnwards_44 hl (k := 2) rfl (nI_1 _) (by decide) rfl (fun ls hl => ?_)
        refine lv_goto (tgt := 10) hx hb dX0_joinOnwards_47 (by decide) ?_
        have e8 : (pW g w q k kd li inn oth pa cs cg f (upd (jo2 z j x) x (((jo2 z j x) x) ||| ((jo2 z j x) z)))) = (pW g w q k kd li inn oth pa cs cg f (jo2 z j (x + 1))) := by rw [jo2, if_pos c_26]
        rw [e8] at hP
        have hl : lv_has ls 3 [(0, .ref q), (1, .int (nI z)), (2, .int (nI (x + 1)))] := lv_sub hl [1, 2, 0] rfl
        exact ih (x + 1) (by omega) (by omega) _ _ ls hP hS hl

set_option maxHeartbeats 4000000 in
set_option maxRecDepth 100000 in
theorem lp_jo1 {p : Program} {l : Launch} {e : Env} {R : Room} {s : State} {m : MethodId} {args : Array Value} {below : List Frame} {meth : Method} {c : Code} {Q : State → Prop} {H0 : Heap} {cells slots : Nat} (g : gX) (s0 : Nat) (w : wd_M) (q : Nat) (hs0 : s0 ≤ q) (k : Int32) (kd : Int32) (li : Int32) (inn : Option Nat) (oth : Option Nat) (pa : Int64) (cs : Int32) (cg : Int32) (f : Nat → Int32) (j : Nat → Int32) (hx : p.tables.exec = Jvm.exec) (hb : c.code = cX0_joinOnwards) (hml : c.maxLocals = 3) (hown : s.vm.findClass RX0 = some m.cls) (hts : ∀ w ∈ Cond.code yX0_joinOnwards cX0_joinOnwards 3 (none) :: tg, w.before args s = true) (hK : gK g s) (h0s : s0 ≤ H0.size) (hRm : 1 ≤ R.frames ∧ 21 ≤ R.locals) (hcs : cells + 0 ≤ R.cells ∧ slots + 0 ≤ R.slots)  (kx : ∀ (H : Heap) (locs : List Loc) (ls : Array Slot), gP g (pW g w q k kd li inn oth pa cs cg f (jo1 j 32)) H → gS s0 H0 H locs → lv_has ls 3 [(0, .ref q)] → W p l e R s m args below meth c H locs cells slots Q (F0 m 56 ls [])) :
    ∀ (n z : Nat), z ≤ 32 → 32 + 1 ≤ z + n → ∀ (H : Heap) (locs : List Loc) (ls : Array Slot), gP g (pW g w q k kd li inn oth pa cs cg f (jo1 j z)) H → gS s0 H0 H locs → lv_has ls 3 [(0, .ref q), (1, .int (nI z))] → W p l e R s m args below meth c H locs cells slots Q (F0 m 2 ls []) := by
  intro n
  induction n with
  | zero =>
    intro z h1 h2
    exact absurd h2 (by omega)
  | succ n ih =>
    intro z hi hin H locs ls hP hS hl
    refine lv_iload_n hx hb dX0_joinOnwards_2 rfl (lv_at hl 1 rfl) ?_
    refine lv_bipush (v := nI 32) hx hb dX0_joinOnwards_3 (by decide) ?_
    refine lv_icmp_ge (tgt := 56) hx hb dX0_joinOnwards_5 (by decide) (fun c_5 => ?_) (fun c_5 => ?_)
    · have c_5 := (nI_leI (a := 32) (b := z) (by omega) (by omega)).mp c_5
      have e9 : z = 32 := by omega
      try rw [e9] at hP
      try rw [e9] at hl
      exact kx H locs ls hP hS (lv_sub hl [0] rfl)
    · have c_5 := mt (nI_leI (a := 32) (b := z) (by omega) (by omega)).mpr c_5
      refine lv_iconst (v := nI 0) hx hb dX0_joinOnwards_8 (by decide) ?_
      refine lv_istore_n (lv' := [(2, .int (nI 0)), (0, .ref q), (1, .int (nI z))]) hx hb dX0_joinOnwards_9 rfl hl (by decide) rfl (fun ls hl => ?_)
      have e8 : (pW g w q k kd li inn oth pa cs cg f (jo1 j z)) = (pW g w q k kd li inn oth pa cs cg f (jo2 z (jo1 j z) 0)) := by rw [jo2]
      rw [e8] at hP
      have hl : lv_has ls 3 [(0, .ref q), (1, .int (nI z)), (2, .int (nI 0))] := lv_sub hl [1, 2, 0] rfl
      refine lp_jo2 g s0 w q hs0 k kd li inn oth pa cs cg f (jo1 j z) z (by omega) hx hb hml hown hts hK h0s hRm hcs  ?_ (32 + 1) 0 (by omega) (by omega) _ _ ls hP hS hl
      intro H locs ls hP hS hl
      refine lv_iinc (v := nI (z + 1)) (lv' := [(1, .int (nI (z + 1))), (0, .ref q)]) hx hb dX0_joinOnwards_50 hl (k := 1) rfl (nI_1 _) (by decide) rfl (fun ls hl => ?_)
      refine lv_goto (tgt := 2) hx hb dX0_joinOnwards_53 (by decide) ?_
      have e8 : (pW g w q k kd li inn oth pa cs cg f (jo2 z (jo1 j z) 32)) = (pW g w q k kd li inn oth pa cs cg f (jo1 j (z + 1))) := by rw [jo1]
      rw [e8] at hP
      have hl : lv_has ls 3 [(0, .ref q), (1, .int (nI (z + 1)))] := lv_sub hl [1, 0] rfl
      exact ih (z + 1) (by omega) (by omega) _ _ ls hP hS hl

set_option maxHeartbeats 4000000 in
set_option maxRecDepth 100000 in
theorem c_X0_joinOnwards (l : Launch) (g : gX) (s0 : Nat) (w : wd_M) (q : Nat) (hs0 : s0 ≤ q) (k : Int32) (kd : Int32) (li : Int32) (inn : Option Nat) (oth : Option Nat) (pa : Int64) (cs : Int32) (cg : Int32) (f : Nat → Int32) (j : Nat → Int32)  : Met l yX0_joinOnwards (Cond.code yX0_joinOnwards cX0_joinOnwards 3 (none) :: tg) ({ frames := 1, cells := 0, slots := 0, locals := 21 }) (cP g s0 (pW g w q k kd li inn oth pa cs cg f j) [.ref q]) (cV g s0 (fun w' => w' = (pW g w q k kd li inn oth pa cs cg f (jo1 j 32)))) 0 0 (cA s0) := by
  refine Met.ofW (cc := cX0_joinOnwards) (maxL := 3) (ret := none) (by decide) rfl ?_
  intro p e s m args below meth c s₁ B9 hml hv
  obtain ⟨rfl, h0s, hP, hK⟩ := hv
  have hx := B9.exec
  have hb := B9.bytes
  have hr := B9.returns
  have hts := atoms_spec (ws := Cond.code yX0_joinOnwards cX0_joinOnwards 3 (none) :: tg) B9.pre
  have hown : s.vm.findClass RX0 = some m.cls := findClass_of_methodNamed B9.named
  have hlocks := B9.notSynchronized
  have hS : gS s0 s.heap s.heap [] := va_S.rf
  have hRm : 1 ≤ (headSpec (Cond.code yX0_joinOnwards cX0_joinOnwards 3 (none) :: tg) ({ frames := 1, cells := 0, slots := 0, locals := 21 })).room.frames ∧ 21 ≤ (headSpec (Cond.code yX0_joinOnwards cX0_joinOnwards 3 (none) :: tg) ({ frames := 1, cells := 0, slots := 0, locals := 21 })).room.locals := ⟨Nat.le_refl _, Nat.le_refl _⟩
  have hcs : 0 + 0 ≤ (headSpec (Cond.code yX0_joinOnwards cX0_joinOnwards 3 (none) :: tg) ({ frames := 1, cells := 0, slots := 0, locals := 21 })).room.cells ∧ 0 + 0 ≤ (headSpec (Cond.code yX0_joinOnwards cX0_joinOnwards 3 (none) :: tg) ({ frames := 1, cells := 0, slots := 0, locals := 21 })).room.slots := ⟨Nat.zero_le _, Nat.zero_le _⟩
  have hl := lv_entry ([.ref q]) (n := 3) (Nat.le_of_ble_eq_true rfl)
  rw [lg_entry_eq]
  generalize (lg_sl ([.ref q]) ++ List.replicate (3 - (lg_sl ([.ref q])).length) Slot.unset).toArray = ls at hl ⊢
  have hl : lv_has ls 3 [(0, .ref q)] := hl
  refine lv_iconst (v := nI 0) hx hb dX0_joinOnwards_0 (by decide) ?_
  refine lv_istore_n (lv' := [(1, .int (nI 0)), (0, .ref q)]) hx hb dX0_joinOnwards_1 rfl hl (by decide) rfl (fun ls hl => ?_)
  have e8 : (pW g w q k kd li inn oth pa cs cg f j) = (pW g w q k kd li inn oth pa cs cg f (jo1 j 0)) := by rw [jo1]
  rw [e8] at hP
  have hl : lv_has ls 3 [(0, .ref q), (1, .int (nI 0))] := lv_sub hl [1, 0] rfl
  refine lp_jo1 g s0 w q hs0 k kd li inn oth pa cs cg f j hx hb hml hown hts hK h0s hRm hcs  ?_ (32 + 1) 0 (by omega) (by omega) _ _ ls hP hS hl
  intro H locs ls hP hS hl
  exact W.vret hx hb hr (fun t9 ht hW => ⟨⟨(pW g w q k kd li inn oth pa cs cg f (jo1 j 32)), rfl, rfl, cB_of ht hP⟩, hS.F ht⟩) hS.2.2 dX0_joinOnwards_56

set_option maxHeartbeats 4000000 in
set_option maxRecDepth 100000 in
theorem lp_cj2 {p : Program} {l : Launch} {e : Env} {R : Room} {s : State} {m : MethodId} {args : Array Value} {below : List Frame} {meth : Method} {c : Code} {Q : State → Prop} {H0 : Heap} {cells slots : Nat} (g : gX) (s0 : Nat) (w : wd_M) (q : Nat) (hs0 : s0 ≤ q) (k : Int32) (kd : Int32) (li : Int32) (inn : Option Nat) (oth : Option Nat) (pa : Int64) (cs : Int32) (cg : Int32) (j : Nat → Int32) (F : Nat → Nat) (x : Nat) (hx1 : x < 32) (hx : p.tables.exec = Jvm.exec) (hb : c.code = cX0_countJoinedOnce) (hml : c.maxLocals = 3) (hown : s.vm.findClass RX0 = some m.cls) (hts : ∀ w ∈ Cond.code yX0_countJoinedOnce cX0_countJoinedOnce 3 (none) :: tg, w.before args s = true) (hK : gK g s) (h0s : s0 ≤ H0.size) (hRm : 0 ≤ R.frames ∧ 0 ≤ R.locals) (hcs : cells + 0 ≤ R.cells ∧ slots + 0 ≤ R.slots)  (kx : ∀ (H : Heap) (locs : List Loc) (ls : Array Slot), gP g (pW g w q k kd li inn oth pa cs cg (tN (cj2 j x F 32)) j) H → gS s0 H0 H locs → lv_has ls 3 [(0, .ref q), (1, .int (nI x))] → W p l e R s m args below meth c H locs cells slots Q (F0 m 43 ls [])) :
    ∀ (n y : Nat), y ≤ 32 → 32 + 1 ≤ y + n → ∀ (H : Heap) (locs : List Loc) (ls : Array Slot), gP g (pW g w q k kd li inn oth pa cs cg (tN (cj2 j x F y)) j) H → gS s0 H0 H locs → lv_has ls 3 [(0, .ref q), (1, .int (nI x)), (2, .int (nI y))] → W p l e R s m args below meth c H locs cells slots Q (F0 m 10 ls []) := by
  intro n
  induction n with
  | zero =>
    intro y h1 h2
    exact absurd h2 (by omega)
  | succ n ih =>
    intro y hi hin H locs ls hP hS hl
    refine lv_iload_n hx hb dX0_countJoinedOnce_10 rfl (lv_at hl 2 rfl) ?_
    refine lv_bipush (v := nI 32) hx hb dX0_countJoinedOnce_11 (by decide) ?_
    refine lv_icmp_ge (tgt := 43) hx hb dX0_countJoinedOnce_13 (by decide) (fun c_13 => ?_) (fun c_13 => ?_)
    · have c_13 := (nI_leI (a := 32) (b := y) (by omega) (by omega)).mp c_13
      have e9 : y = 32 := by omega
      try rw [e9] at hP
      try rw [e9] at hl
      exact kx H locs ls hP hS (lv_sub hl [0, 1] rfl)
    · have c_13 := mt (nI_leI (a := 32) (b := y) (by omega) (by omega)).mpr c_13
      refine lv_aload_n hx hb dX0_countJoinedOnce_16 rfl (lv_at hl 0 rfl) ?_
      refine wd_get (ci := 1) (v := .ref (q + 1)) (C := RX0) (T := TX0) (N := 10) hx hb hts iwX0 hown hK.1 hP (pW_0) rfl 6 (by decide) (hts _ (tg_tail _ tw_129)) (fun _ h9 => h9) rfl dX0_countJoinedOnce_17 ?_
      refine lv_iload_n hx hb dX0_countJoinedOnce_20 rfl (lv_at hl 1 rfl) ?_
      refine lv_bipush (v := nI 32) hx hb dX0_countJoinedOnce_21 (by decide) ?_
      refine lv_imul hx hb dX0_countJoinedOnce_23 ?_
      refine wd_ti (x' := nI (x * 32)) (pk_mul _ _) ?_
      refine lv_iload_n hx hb dX0_countJoinedOnce_24 rfl (lv_at hl 2 rfl) ?_
      refine lv_iadd hx hb dX0_countJoinedOnce_25 ?_
      refine wd_ti (x' := nI ((x * 32) + y)) (nI_add _ _) ?_
      refine lv_aload_n hx hb dX0_countJoinedOnce_26 rfl (lv_at hl 0 rfl) ?_
      refine wd_get (ci := 1) (v := .ref (q + 2)) (C := RX0) (T := TX0) (N := 10) hx hb hts iwX0 hown hK.1 hP (pW_0) rfl 7 (by decide) (hts _ (tg_tail _ tw_130)) (fun _ h9 => h9) rfl dX0_countJoinedOnce_27 ?_
      refine lv_iload_n hx hb dX0_countJoinedOnce_30 rfl (lv_at hl 1 rfl) ?_
      refine wd_ildN hx hb hK.1 hP 0 (k := x) (pW_2) rfl (by omega) (by decide) dX0_countJoinedOnce_31 ?_
      refine lv_iload_n hx hb dX0_countJoinedOnce_32 rfl (lv_at hl 2 rfl) ?_
      refine lv_iushr (v := ((j x).toUInt32 >>> ((nI y).toUInt32 &&& Int32.toUInt32 31)).toInt32) hx hb dX0_countJoinedOnce_33 (rfl) ?_
      refine lv_iconst (v := 1) hx hb dX0_countJoinedOnce_34 (by decide) ?_
      refine lv_iand hx hb dX0_countJoinedOnce_35 ?_
      refine wd_ti (x' := nI (bn (j x) y)) (bn_u (j x) y (by omega)) ?_
      refine wd_istN hx hb hK.1 hP hS (by omega) 0 (k := ((x * 32) + y)) (pW_1) rfl (by omega) (by decide) dX0_countJoinedOnce_36 (fun H locs hP hS hz => ?_)
      have hP : gP g (pW g w q k kd li inn oth pa cs cg (upd (tN (cj2 j x F y)) ((x * 32) + y) (nI (bn (j x) y))) j) H := by have h9 : gP g (wd_up (pW g w q k kd li inn oth pa cs cg (tN (cj2 j x F y)) j) (q + 1) (wd_iA (g.2 0) 1024 (upd (tN (cj2 j x F y)) ((x * 32) + y) (nI (bn (j x) y))))) H := hP; rw [pW_s1] at h9; exact h9
      refine lv_iinc (v := nI (y + 1)) (lv' := [(2, .int (nI (y + 1))), (0, .ref q), (1, .int (nI x))]) hx hb dX0_countJoinedOnce_37 hl (k := 2) rfl (nI_1 _) (by decide) rfl (fun ls hl => ?_)
      refine lv_goto (tgt := 10) hx hb dX0_countJoinedOnce_40 (by decide) ?_
      have e8 : (pW g w q k kd li inn oth pa cs cg (upd (tN (cj2 j x F y)) ((x * 32) + y) (nI (bn (j x) y))) j) = (pW g w q k kd li inn oth pa cs cg (tN (cj2 j x F (y + 1))) j) := by rw [cj2, tN_up]
      rw [e8] at hP
      have hl : lv_has ls 3 [(0, .ref q), (1, .int (nI x)), (2, .int (nI (y + 1)))] := lv_sub hl [1, 2, 0] rfl
      exact ih (y + 1) (by omega) (by omega) _ _ ls hP hS hl

set_option maxHeartbeats 4000000 in
set_option maxRecDepth 100000 in
theorem lp_cj1 {p : Program} {l : Launch} {e : Env} {R : Room} {s : State} {m : MethodId} {args : Array Value} {below : List Frame} {meth : Method} {c : Code} {Q : State → Prop} {H0 : Heap} {cells slots : Nat} (g : gX) (s0 : Nat) (w : wd_M) (q : Nat) (hs0 : s0 ≤ q) (k : Int32) (kd : Int32) (li : Int32) (inn : Option Nat) (oth : Option Nat) (pa : Int64) (cs : Int32) (cg : Int32) (j : Nat → Int32) (F : Nat → Nat) (hx : p.tables.exec = Jvm.exec) (hb : c.code = cX0_countJoinedOnce) (hml : c.maxLocals = 3) (hown : s.vm.findClass RX0 = some m.cls) (hts : ∀ w ∈ Cond.code yX0_countJoinedOnce cX0_countJoinedOnce 3 (none) :: tg, w.before args s = true) (hK : gK g s) (h0s : s0 ≤ H0.size) (hRm : 0 ≤ R.frames ∧ 0 ≤ R.locals) (hcs : cells + 0 ≤ R.cells ∧ slots + 0 ≤ R.slots)  (kx : ∀ (H : Heap) (locs : List Loc) (ls : Array Slot), gP g (pW g w q k kd li inn oth pa cs cg (tN (cj1 j F 32)) j) H → gS s0 H0 H locs → lv_has ls 3 [(0, .ref q)] → W p l e R s m args below meth c H locs cells slots Q (F0 m 49 ls [])) :
    ∀ (n x : Nat), x ≤ 32 → 32 + 1 ≤ x + n → ∀ (H : Heap) (locs : List Loc) (ls : Array Slot), gP g (pW g w q k kd li inn oth pa cs cg (tN (cj1 j F x)) j) H → gS s0 H0 H locs → lv_has ls 3 [(0, .ref q), (1, .int (nI x))] → W p l e R s m args below meth c H locs cells slots Q (F0 m 2 ls []) := by
  intro n
  induction n with
  | zero =>
    intro x h1 h2
    exact absurd h2 (by omega)
  | succ n ih =>
    intro x hi hin H locs ls hP hS hl
    refine lv_iload_n hx hb dX0_countJoinedOnce_2 rfl (lv_at hl 1 rfl) ?_
    refine lv_bipush (v := nI 32) hx hb dX0_countJoinedOnce_3 (by decide) ?_
    refine lv_icmp_ge (tgt := 49) hx hb dX0_countJoinedOnce_5 (by decide) (fun c_5 => ?_) (fun c_5 => ?_)
    · have c_5 := (nI_leI (a := 32) (b := x) (by omega) (by omega)).mp c_5
      have e9 : x = 32 := by omega
      try rw [e9] at hP
      try rw [e9] at hl
      exact kx H locs ls hP hS (lv_sub hl [0] rfl)
    · have c_5 := mt (nI_leI (a := 32) (b := x) (by omega) (by omega)).mpr c_5
      refine lv_iconst (v := nI 0) hx hb dX0_countJoinedOnce_8 (by decide) ?_
      refine lv_istore_n (lv' := [(2, .int (nI 0)), (0, .ref q), (1, .int (nI x))]) hx hb dX0_countJoinedOnce_9 rfl hl (by decide) rfl (fun ls hl => ?_)
      have e8 : (pW g w q k kd li inn oth pa cs cg (tN (cj1 j F x)) j) = (pW g w q k kd li inn oth pa cs cg (tN (cj2 j x (cj1 j F x) 0)) j) := by rw [cj2]
      rw [e8] at hP
      have hl : lv_has ls 3 [(0, .ref q), (1, .int (nI x)), (2, .int (nI 0))] := lv_sub hl [1, 2, 0] rfl
      refine lp_cj2 g s0 w q hs0 k kd li inn oth pa cs cg j (cj1 j F x) x (by omega) hx hb hml hown hts hK h0s hRm hcs  ?_ (32 + 1) 0 (by omega) (by omega) _ _ ls hP hS hl
      intro H locs ls hP hS hl
      refine lv_iinc (v := nI (x + 1)) (lv' := [(1, .int (nI (x + 1))), (0, .ref q)]) hx hb dX0_countJoinedOnce_43 hl (k := 1) rfl (nI_1 _) (by decide) rfl (fun ls hl => ?_)
      refine lv_goto (tgt := 2) hx hb dX0_countJoinedOnce_46 (by decide) ?_
      have e8 : (pW g w q k kd li inn oth pa cs cg (tN (cj2 j x (cj1 j F x) 32)) j) = (pW g w q k kd li inn oth pa cs cg (tN (cj1 j F (x + 1))) j) := by rw [cj1]
      rw [e8] at hP
      have hl : lv_has ls 3 [(0, .ref q), (1, .int (nI (x + 1)))] := lv_sub hl [1, 0] rfl
      exact ih (x + 1) (by omega) (by omega) _ _ ls hP hS hl

set_option maxHeartbeats 4000000 in
set_option maxRecDepth 100000 in
theorem c_X0_countJoinedOnce (l : Launch) (g : gX) (s0 : Nat) (w : wd_M) (q : Nat) (hs0 : s0 ≤ q) (k : Int32) (kd : Int32) (li : Int32) (inn : Option Nat) (oth : Option Nat) (pa : Int64) (cs : Int32) (cg : Int32) (j : Nat → Int32) (F : Nat → Nat) : Met l yX0_countJoinedOnce (Cond.code yX0_countJoinedOnce cX0_countJoinedOnce 3 (none) :: tg) ({ frames := 0, cells := 0, slots := 0, locals := 0 }) (cP g s0 (pW g w q k kd li inn oth pa cs cg (tN F) j) [.ref q]) (cV g s0 (fun w' => w' = (pW g w q k kd li inn oth pa cs cg (tN (cj1 j F 32)) j))) 0 0 (cA s0) := by
  refine Met.ofW (cc := cX0_countJoinedOnce) (maxL := 3) (ret := none) (by decide) rfl ?_
  intro p e s m args below meth c s₁ B9 hml hv
  obtain ⟨rfl, h0s, hP, hK⟩ := hv
  have hx := B9.exec
  have hb := B9.bytes
  have hr := B9.returns
  have hts := atoms_spec (ws := Cond.code yX0_countJoinedOnce cX0_countJoinedOnce 3 (none) :: tg) B9.pre
  have hown : s.vm.findClass RX0 = some m.cls := findClass_of_methodNamed B9.named
  have hlocks := B9.notSynchronized
  have hS : gS s0 s.heap s.heap [] := va_S.rf
  have hRm : 0 ≤ (headSpec (Cond.code yX0_countJoinedOnce cX0_countJoinedOnce 3 (none) :: tg) ({ frames := 0, cells := 0, slots := 0, locals := 0 })).room.frames ∧ 0 ≤ (headSpec (Cond.code yX0_countJoinedOnce cX0_countJoinedOnce 3 (none) :: tg) ({ frames := 0, cells := 0, slots := 0, locals := 0 })).room.locals := ⟨Nat.le_refl _, Nat.le_refl _⟩
  have hcs : 0 + 0 ≤ (headSpec (Cond.code yX0_countJoinedOnce cX0_countJoinedOnce 3 (none) :: tg) ({ frames := 0, cells := 0, slots := 0, locals := 0 })).room.cells ∧ 0 + 0 ≤ (headSpec (Cond.code yX0_countJoinedOnce cX0_countJoinedOnce 3 (none) :: tg) ({ frames := 0, cells := 0, slots := 0, locals := 0 })).room.slots := ⟨Nat.zero_le _, Nat.zero_le _⟩
  have hl := lv_entry ([.ref q]) (n := 3) (Nat.le_of_ble_eq_true rfl)
  rw [lg_entry_eq]
  generalize (lg_sl ([.ref q]) ++ List.replicate (3 - (lg_sl ([.ref q])).length) Slot.unset).toArray = ls at hl ⊢
  have hl : lv_has ls 3 [(0, .ref q)] := hl
  refine lv_iconst (v := nI 0) hx hb dX0_countJoinedOnce_0 (by decide) ?_
  refine lv_istore_n (lv' := [(1, .int (nI 0)), (0, .ref q)]) hx hb dX0_countJoinedOnce_1 rfl hl (by decide) rfl (fun ls hl => ?_)
  have e8 : (pW g w q k kd li inn oth pa cs cg (tN F) j) = (pW g w q k kd li inn oth pa cs cg (tN (cj1 j F 0)) j) := by rw [cj1]
  rw [e8] at hP
  have hl : lv_has ls 3 [(0, .ref q), (1, .int (nI 0))] := lv_sub hl [1, 0] rfl
  refine lp_cj1 g s0 w q hs0 k kd li inn oth pa cs cg j F hx hb hml hown hts hK h0s hRm hcs  ?_ (32 + 1) 0 (by omega) (by omega) _ _ ls hP hS hl
  intro H locs ls hP hS hl
  exact W.vret hx hb hr (fun t9 ht hW => ⟨⟨(pW g w q k kd li inn oth pa cs cg (tN (cj1 j F 32)) j), rfl, rfl, cB_of ht hP⟩, hS.F ht⟩) hS.2.2 dX0_countJoinedOnce_49

