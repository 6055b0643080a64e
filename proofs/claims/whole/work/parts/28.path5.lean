/-! THE CLASS: bitCount, pairs, countLinks, countFrom -/
set_option maxHeartbeats 4000000 in
set_option maxRecDepth 100000 in
theorem c_bitCount (l : Launch) (g : gX) (s0 : Nat) (w : wd_M) (v : Int32) : Met l yJ6_bitCount_0f7a4 (Cond.code yJ6_bitCount_0f7a4 cJ6_bitCount_0f7a4 1 (some .int) :: tg) ({ frames := 0, cells := 0, slots := 0, locals := 0 }) (cP g s0 w [.int (v)]) (cI g s0 (fun r w' => r = nI (pcb (bt v) 32) ∧ w' = w)) 0 0 (cA s0) := by
  refine Met.ofW (cc := cJ6_bitCount_0f7a4) (maxL := 1) (ret := some .int) (by decide) rfl ?_
  intro p e s m args below meth c s₁ B9 hml hv
  obtain ⟨rfl, h0s, hP, hK⟩ := hv
  have hx := B9.exec
  have hb := B9.bytes
  have hr := B9.returns
  have hts := atoms_spec (ws := Cond.code yJ6_bitCount_0f7a4 cJ6_bitCount_0f7a4 1 (some .int) :: tg) B9.pre
  have hown : s.vm.findClass RJ6 = some m.cls := findClass_of_methodNamed B9.named
  have hlocks := B9.notSynchronized
  have hS : gS s0 s.heap s.heap [] := va_S.rf
  have hRm : 0 ≤ (headSpec (Cond.code yJ6_bitCount_0f7a4 cJ6_bitCount_0f7a4 1 (some .int) :: tg) ({ frames := 0, cells := 0, slots := 0, locals := 0 })).room.frames ∧ 0 ≤ (headSpec (Cond.code yJ6_bitCount_0f7a4 cJ6_bitCount_0f7a4 1 (some .int) :: tg) ({ frames := 0, cells := 0, slots := 0, locals := 0 })).room.locals := ⟨Nat.le_refl _, Nat.le_refl _⟩
  have hcs : 0 + 0 ≤ (headSpec (Cond.code yJ6_bitCount_0f7a4 cJ6_bitCount_0f7a4 1 (some .int) :: tg) ({ frames := 0, cells := 0, slots := 0, locals := 0 })).room.cells ∧ 0 + 0 ≤ (headSpec (Cond.code yJ6_bitCount_0f7a4 cJ6_bitCount_0f7a4 1 (some .int) :: tg) ({ frames := 0, cells := 0, slots := 0, locals := 0 })).room.slots := ⟨Nat.zero_le _, Nat.zero_le _⟩
  have hl := lv_entry ([.int (v)]) (n := 1) (Nat.le_of_ble_eq_true rfl)
  rw [lg_entry_eq]
  generalize (lg_sl ([.int (v)]) ++ List.replicate (1 - (lg_sl ([.int (v)])).length) Slot.unset).toArray = ls at hl ⊢
  have hl : lv_has ls 1 [(0, .int (v))] := hl
  refine lv_iload_n hx hb dJ6_bitCount_0f7a4_0 rfl (lv_at hl 0 rfl) ?_
  refine lv_iload_n hx hb dJ6_bitCount_0f7a4_1 rfl (lv_at hl 0 rfl) ?_
  refine lv_iconst (v := nI 1) hx hb dJ6_bitCount_0f7a4_2 (by decide) ?_
  refine lv_iushr (v := ((v).toUInt32 >>> ((nI 1).toUInt32 &&& Int32.toUInt32 31)).toInt32) hx hb dJ6_bitCount_0f7a4_3 (rfl) ?_
  refine lv_ldcw hx hb hown (hts _ (tg_tail _ tw_178)) dJ6_bitCount_0f7a4_4 ?_
  refine lv_iand hx hb dJ6_bitCount_0f7a4_7 ?_
  refine lv_isub hx hb dJ6_bitCount_0f7a4_8 ?_
  refine wd_ti (x' := bc1 v) (rfl) ?_
  refine lv_istore_n (lv' := [(0, .int (bc1 v))]) hx hb dJ6_bitCount_0f7a4_9 rfl hl (by decide) rfl (fun ls hl => ?_)
  refine lv_iload_n hx hb dJ6_bitCount_0f7a4_10 rfl (lv_at hl 0 rfl) ?_
  refine lv_ldcw hx hb hown (hts _ (tg_tail _ tw_179)) dJ6_bitCount_0f7a4_11 ?_
  refine lv_iand hx hb dJ6_bitCount_0f7a4_14 ?_
  refine lv_iload_n hx hb dJ6_bitCount_0f7a4_15 rfl (lv_at hl 0 rfl) ?_
  refine lv_iconst (v := nI 2) hx hb dJ6_bitCount_0f7a4_16 (by decide) ?_
  refine lv_iushr (v := ((bc1 v).toUInt32 >>> ((nI 2).toUInt32 &&& Int32.toUInt32 31)).toInt32) hx hb dJ6_bitCount_0f7a4_17 (rfl) ?_
  refine lv_ldcw hx hb hown (hts _ (tg_tail _ tw_179)) dJ6_bitCount_0f7a4_18 ?_
  refine lv_iand hx hb dJ6_bitCount_0f7a4_21 ?_
  refine lv_iadd hx hb dJ6_bitCount_0f7a4_22 ?_
  refine wd_ti (x' := bc2 (bc1 v)) (rfl) ?_
  refine lv_istore_n (lv' := [(0, .int (bc2 (bc1 v)))]) hx hb dJ6_bitCount_0f7a4_23 rfl hl (by decide) rfl (fun ls hl => ?_)
  refine lv_iload_n hx hb dJ6_bitCount_0f7a4_24 rfl (lv_at hl 0 rfl) ?_
  refine lv_iload_n hx hb dJ6_bitCount_0f7a4_25 rfl (lv_at hl 0 rfl) ?_
  refine lv_iconst (v := nI 4) hx hb dJ6_bitCount_0f7a4_26 (by decide) ?_
  refine lv_iushr (v := ((bc2 (bc1 v)).toUInt32 >>> ((nI 4).toUInt32 &&& Int32.toUInt32 31)).toInt32) hx hb dJ6_bitCount_0f7a4_27 (rfl) ?_
  refine lv_iadd hx hb dJ6_bitCount_0f7a4_28 ?_
  refine lv_ldcw hx hb hown (hts _ (tg_tail _ tw_180)) dJ6_bitCount_0f7a4_29 ?_
  refine lv_iand hx hb dJ6_bitCount_0f7a4_32 ?_
  refine wd_ti (x' := bc3 (bc2 (bc1 v))) (rfl) ?_
  refine lv_istore_n (lv' := [(0, .int (bc3 (bc2 (bc1 v))))]) hx hb dJ6_bitCount_0f7a4_33 rfl hl (by decide) rfl (fun ls hl => ?_)
  refine lv_iload_n hx hb dJ6_bitCount_0f7a4_34 rfl (lv_at hl 0 rfl) ?_
  refine lv_iload_n hx hb dJ6_bitCount_0f7a4_35 rfl (lv_at hl 0 rfl) ?_
  refine lv_bipush (v := nI 8) hx hb dJ6_bitCount_0f7a4_36 (by decide) ?_
  refine lv_iushr (v := ((bc3 (bc2 (bc1 v))).toUInt32 >>> ((nI 8).toUInt32 &&& Int32.toUInt32 31)).toInt32) hx hb dJ6_bitCount_0f7a4_38 (rfl) ?_
  refine lv_iadd hx hb dJ6_bitCount_0f7a4_39 ?_
  refine wd_ti (x' := bc4 (bc3 (bc2 (bc1 v)))) (rfl) ?_
  refine lv_istore_n (lv' := [(0, .int (bc4 (bc3 (bc2 (bc1 v)))))]) hx hb dJ6_bitCount_0f7a4_40 rfl hl (by decide) rfl (fun ls hl => ?_)
  refine lv_iload_n hx hb dJ6_bitCount_0f7a4_41 rfl (lv_at hl 0 rfl) ?_
  refine lv_iload_n hx hb dJ6_bitCount_0f7a4_42 rfl (lv_at hl 0 rfl) ?_
  refine lv_bipush (v := nI 16) hx hb dJ6_bitCount_0f7a4_43 (by decide) ?_
  refine lv_iushr (v := ((bc4 (bc3 (bc2 (bc1 v)))).toUInt32 >>> ((nI 16).toUInt32 &&& Int32.toUInt32 31)).toInt32) hx hb dJ6_bitCount_0f7a4_45 (rfl) ?_
  refine lv_iadd hx hb dJ6_bitCount_0f7a4_46 ?_
  refine wd_ti (x' := bc5 (bc4 (bc3 (bc2 (bc1 v))))) (rfl) ?_
  refine lv_istore_n (lv' := [(0, .int (bc5 (bc4 (bc3 (bc2 (bc1 v))))))]) hx hb dJ6_bitCount_0f7a4_47 rfl hl (by decide) rfl (fun ls hl => ?_)
  refine lv_iload_n hx hb dJ6_bitCount_0f7a4_48 rfl (lv_at hl 0 rfl) ?_
  refine lv_bipush (v := nI 63) hx hb dJ6_bitCount_0f7a4_49 (by decide) ?_
  refine lv_iand hx hb dJ6_bitCount_0f7a4_51 ?_
  exact W.iret (v := (bc5 (bc4 (bc3 (bc2 (bc1 v))))) &&& (nI 63)) hx hb hr (fun t9 ht hW => ⟨⟨_, w, rfl, ⟨bcF_pop v, rfl⟩, cB_of ht hP⟩, hS.F ht⟩) hS.2.2 dJ6_bitCount_0f7a4_52

def pr1 (j : Nat → Int32) : Nat → Nat
  | 0 => 0
  | x + 1 => pr1 j x + pcb (bt (j x)) 32
termination_by x => x
def cf1 (lk : Nat → Int32) (a : Nat) : Nat → Nat
  | 0 => 0
  | o + 1 => cf1 lk a o + pcb (bt (lk (a * 32 + o))) 32
termination_by o => o
def cl2 (lk : Nat → Int32) (li : Int32) (x : Nat) (t : aT) : Nat → aT
  | 0 => t
  | y + 1 => adT (cl2 lk li x t y) x y (pcb (bt (lk (x * 32 + y) &&& li)) 32)
termination_by y => y
def cl1 (lk : Nat → Int32) (li : Int32) (t : aT) : Nat → aT
  | 0 => t
  | x + 1 => cl2 lk li x (cl1 lk li t x) 32
termination_by x => x
theorem cl2_B {lk : Nat → Int32} {li : Int32} {x : Nat} {t : aT} (h : mB t.1) : ∀ y, mB (cl2 lk li x t y).1 := by
  intro y
  induction y with
  | zero => rw [cl2]; exact h
  | succ y ih => rw [cl2]; exact adT_B ih
theorem cl1_B {lk : Nat → Int32} {li : Int32} {t : aT} (h : mB t.1) : ∀ x, mB (cl1 lk li t x).1 := by
  intro x
  induction x with
  | zero => rw [cl1]; exact h
  | succ x ih => rw [cl1]; exact cl2_B ih 32
set_option maxHeartbeats 4000000 in
set_option maxRecDepth 100000 in
theorem lp_pr1 {p : Program} {l : Launch} {e : Env} {R : Room} {s : State} {m : MethodId} {args : Array Value} {below : List Frame} {meth : Method} {c : Code} {Q : State → Prop} {H0 : Heap} {cells slots : Nat} (g : gX) (s0 : Nat) (w : wd_M) (q : Nat) (hs0 : s0 ≤ q) (k : Int32) (kd : Int32) (li : Int32) (inn : Option Nat) (oth : Option Nat) (pa : Int64) (cs : Int32) (cg : Int32) (f : Nat → Int32) (j : Nat → Int32) (hx : p.tables.exec = Jvm.exec) (hb : c.code = cX0_pairs) (hml : c.maxLocals = 3) (hown : s.vm.findClass RX0 = some m.cls) (hts : ∀ w ∈ Cond.code yX0_pairs cX0_pairs 3 (some .int) :: tg, w.before args s = true) (hK : gK g s) (h0s : s0 ≤ H0.size) (hRm : 1 ≤ R.frames ∧ 20 ≤ R.locals) (hcs : cells + 0 ≤ R.cells ∧ slots + 0 ≤ R.slots)  (kx : ∀ (H : Heap) (locs : List Loc) (ls : Array Slot), gP g (pW g w q k kd li inn oth pa cs cg f j) H → gS s0 H0 H locs → lv_has ls 3 [(1, .int (nI (pr1 j 32)))] → W p l e R s m args below meth c H locs cells slots Q (F0 m 28 ls [])) :
    ∀ (n x : Nat), x ≤ 32 → 32 + 1 ≤ x + n → ∀ (H : Heap) (locs : List Loc) (ls : Array Slot), gP g (pW g w q k kd li inn oth pa cs cg f j) H → gS s0 H0 H locs → lv_has ls 3 [(0, .ref q), (1, .int (nI (pr1 j x))), (2, .int (nI x))] → W p l e R s m args below meth c H locs cells slots Q (F0 m 4 ls []) := by
  intro n
  induction n with
  | zero =>
    intro x h1 h2
    exact absurd h2 (by omega)
  | succ n ih =>
    intro x hi hin H locs ls hP hS hl
    refine lv_iload_n hx hb dX0_pairs_4 rfl (lv_at hl 2 rfl) ?_
    refine lv_bipush (v := nI 32) hx hb dX0_pairs_5 (by decide) ?_
    refine lv_icmp_ge (tgt := 28) hx hb dX0_pairs_7 (by decide) (fun c_7 => ?_) (fun c_7 => ?_)
    · have c_7 := (nI_leI (a := 32) (b := x) (by omega) (by omega)).mp c_7
      have e9 : x = 32 := by omega
      try rw [e9] at hP
      try rw [e9] at hl
      exact kx H locs ls hP hS (lv_sub hl [1] rfl)
    · have c_7 := mt (nI_leI (a := 32) (b := x) (by omega) (by omega)).mpr c_7
      refine lv_iload_n hx hb dX0_pairs_10 rfl (lv_at hl 1 rfl) ?_
      refine lv_aload_n hx hb dX0_pairs_11 rfl (lv_at hl 0 rfl) ?_
      refine wd_get (ci := 1) (v := .ref (q + 2)) (C := RX0) (T := TX0) (N := 10) hx hb hts iwX0 hown hK.1 hP (pW_0) rfl 7 (by decide) (hts _ (tg_tail _ tw_130)) (fun _ h9 => h9) rfl dX0_pairs_12 ?_
      refine lv_iload_n hx hb dX0_pairs_15 rfl (lv_at hl 2 rfl) ?_
      refine wd_ildN hx hb hK.1 hP 0 (k := x) (pW_2) rfl (by omega) (by decide) dX0_pairs_16 ?_
      refine cr_Si (As := [.int (j x)]) (rest := [.int (nI (pr1 j x))]) ⟨hx, hb, hml, hown, hts⟩ (c_bitCount l g s0 (pW g w q k kd li inn oth pa cs cg f j) (j x)) (cw_S 1 hts tg_tail tw_211 tw_176 tw_6 tw_177 rfl rfl (by decide +kernel) ⟨Nat.le_trans (by decide) hRm.1, Nat.le_trans (by decide) hRm.2⟩) hK hP h0s hS rfl hl.1 rfl (Nat.le_of_ble_eq_true rfl) dX0_pairs_17 hcs (fun r9 w9 H locs hw hP hS => ?_)
      obtain ⟨e_r9, hw9⟩ := hw
      rw [hw9] at hP
      subst e_r9
      refine lv_iadd hx hb dX0_pairs_20 ?_
      refine wd_ti (x' := nI ((pr1 j x) + (pcb (bt (j x)) 32))) (nI_add _ _) ?_
      refine lv_istore_n (lv' := [(1, .int (nI ((pr1 j x) + (pcb (bt (j x)) 32)))), (0, .ref q), (2, .int (nI x))]) hx hb dX0_pairs_21 rfl hl (by decide) rfl (fun ls hl => ?_)
      refine lv_iinc (v := nI (x + 1)) (lv' := [(2, .int (nI (x + 1))), (1, .int (nI ((pr1 j x) + (pcb (bt (j x)) 32)))), (0, .ref q)]) hx hb dX0_pairs_22 hl (k := 2) rfl (nI_1 _) (by decide) rfl (fun ls hl => ?_)
      refine lv_goto (tgt := 4) hx hb dX0_pairs_25 (by decide) ?_
      have hl : lv_has ls 3 [(0, .ref q), (1, .int (nI ((pr1 j x) + (pcb (bt (j x)) 32)))), (2, .int (nI (x + 1)))] := lv_sub hl [2, 1, 0] rfl
      have e8 : ([(0, .ref q), (1, .int (nI ((pr1 j x) + (pcb (bt (j x)) 32)))), (2, .int (nI (x + 1)))] : List (Nat × Value)) = [(0, .ref q), (1, .int (nI (pr1 j (x + 1)))), (2, .int (nI (x + 1)))] := by rw [pr1]
      rw [e8] at hl
      exact ih (x + 1) (by omega) (by omega) _ _ ls hP hS hl

set_option maxHeartbeats 4000000 in
set_option maxRecDepth 100000 in
theorem c_X0_pairs (l : Launch) (g : gX) (s0 : Nat) (w : wd_M) (q : Nat) (hs0 : s0 ≤ q) (k : Int32) (kd : Int32) (li : Int32) (inn : Option Nat) (oth : Option Nat) (pa : Int64) (cs : Int32) (cg : Int32) (f : Nat → Int32) (j : Nat → Int32)  : Met l yX0_pairs (Cond.code yX0_pairs cX0_pairs 3 (some .int) :: tg) ({ frames := 1, cells := 0, slots := 0, locals := 20 }) (cP g s0 (pW g w q k kd li inn oth pa cs cg f j) [.ref q]) (cI g s0 (fun r w' => r = nI (pr1 j 32) ∧ w' = (pW g w q k kd li inn oth pa cs cg f j))) 0 0 (cA s0) := by
  refine Met.ofW (cc := cX0_pairs) (maxL := 3) (ret := some .int) (by decide) rfl ?_
  intro p e s m args below meth c s₁ B9 hml hv
  obtain ⟨rfl, h0s, hP, hK⟩ := hv
  have hx := B9.exec
  have hb := B9.bytes
  have hr := B9.returns
  have hts := atoms_spec (ws := Cond.code yX0_pairs cX0_pairs 3 (some .int) :: tg) B9.pre
  have hown : s.vm.findClass RX0 = some m.cls := findClass_of_methodNamed B9.named
  have hlocks := B9.notSynchronized
  have hS : gS s0 s.heap s.heap [] := va_S.rf
  have hRm : 1 ≤ (headSpec (Cond.code yX0_pairs cX0_pairs 3 (some .int) :: tg) ({ frames := 1, cells := 0, slots := 0, locals := 20 })).room.frames ∧ 20 ≤ (headSpec (Cond.code yX0_pairs cX0_pairs 3 (some .int) :: tg) ({ frames := 1, cells := 0, slots := 0, locals := 20 })).room.locals := ⟨Nat.le_refl _, Nat.le_refl _⟩
  have hcs : 0 + 0 ≤ (headSpec (Cond.code yX0_pairs cX0_pairs 3 (some .int) :: tg) ({ frames := 1, cells := 0, slots := 0, locals := 20 })).room.cells ∧ 0 + 0 ≤ (headSpec (Cond.code yX0_pairs cX0_pairs 3 (some .int) :: tg) ({ frames := 1, cells := 0, slots := 0, locals := 20 })).room.slots := ⟨Nat.zero_le _, Nat.zero_le _⟩
  have hl := lv_entry ([.ref q]) (n := 3) (Nat.le_of_ble_eq_true rfl)
  rw [lg_entry_eq]
  generalize (lg_sl ([.ref q]) ++ List.replicate (3 - (lg_sl ([.ref q])).length) Slot.unset).toArray = ls at hl ⊢
  have hl : lv_has ls 3 [(0, .ref q)] := hl
  refine lv_iconst (v := nI 0) hx hb dX0_pairs_0 (by decide) ?_
  refine lv_istore_n (lv' := [(1, .int (nI 0)), (0, .ref q)]) hx hb dX0_pairs_1 rfl hl (by decide) rfl (fun ls hl => ?_)
  refine lv_iconst (v := nI 0) hx hb dX0_pairs_2 (by decide) ?_
  refine lv_istore_n (lv' := [(2, .int (nI 0)), (1, .int (nI 0)), (0, .ref q)]) hx hb dX0_pairs_3 rfl hl (by decide) rfl (fun ls hl => ?_)
  have hl : lv_has ls 3 [(0, .ref q), (1, .int (nI 0)), (2, .int (nI 0))] := lv_sub hl [2, 1, 0] rfl
  have e8 : ([(0, .ref q), (1, .int (nI 0)), (2, .int (nI 0))] : List (Nat × Value)) = [(0, .ref q), (1, .int (nI (pr1 j 0))), (2, .int (nI 0))] := by rw [pr1]
  rw [e8] at hl
  refine lp_pr1 g s0 w q hs0 k kd li inn oth pa cs cg f j hx hb hml hown hts hK h0s hRm hcs  ?_ (32 + 1) 0 (by omega) (by omega) _ _ ls hP hS hl
  intro H locs ls hP hS hl
  refine lv_iload_n hx hb dX0_pairs_28 rfl (lv_at hl 0 rfl) ?_
  exact W.iret (v := nI (pr1 j 32)) hx hb hr (fun t9 ht hW => ⟨⟨_, (pW g w q k kd li inn oth pa cs cg f j), rfl, ⟨rfl, rfl⟩, cB_of ht hP⟩, hS.F ht⟩) hS.2.2 dX0_pairs_29

set_option maxHeartbeats 4000000 in
set_option maxRecDepth 100000 in
theorem lp_cf1 {p : Program} {l : Launch} {e : Env} {R : Room} {s : State} {m : MethodId} {args : Array Value} {below : List Frame} {meth : Method} {c : Code} {Q : State → Prop} {H0 : Heap} {cells slots : Nat} (g : gX) (s0 : Nat) (w : wd_M) (x : Nat) (hs0 : s0 ≤ x) (pc : Int32) (mo : Int32) (no : Int32) (sz : Int32) (rs : Int32) (wr : Int32) (lk : Nat → Int32) (ps : Nat → Option Nat) (fs : Nat → Int32) (ss : Nat → Int32) (ds : Nat → Int32) (lv : Nat → Int32) (a : Nat) (ha : a < 32) (hx : p.tables.exec = Jvm.exec) (hb : c.code = cX2_countFrom) (hml : c.maxLocals = 4) (hown : s.vm.findClass RX2 = some m.cls) (hts : ∀ w ∈ Cond.code yX2_countFrom cX2_countFrom 4 (some .int) :: tg, w.before args s = true) (hK : gK g s) (h0s : s0 ≤ H0.size) (hRm : 1 ≤ R.frames ∧ 20 ≤ R.locals) (hcs : cells + 0 ≤ R.cells ∧ slots + 0 ≤ R.slots)  (kx : ∀ (H : Heap) (locs : List Loc) (ls : Array Slot), gP g (xW g w x pc mo no sz rs wr lk ps fs ss ds lv) H → gS s0 H0 H locs → lv_has ls 4 [(2, .int (nI (cf1 lk a 32)))] → W p l e R s m args below meth c H locs cells slots Q (F0 m 33 ls [])) :
    ∀ (n o : Nat), o ≤ 32 → 32 + 1 ≤ o + n → ∀ (H : Heap) (locs : List Loc) (ls : Array Slot), gP g (xW g w x pc mo no sz rs wr lk ps fs ss ds lv) H → gS s0 H0 H locs → lv_has ls 4 [(0, .ref (x + 1)), (1, .int (nI a)), (2, .int (nI (cf1 lk a o))), (3, .int (nI o))] → W p l e R s m args below meth c H locs cells slots Q (F0 m 4 ls []) := by
  intro n
  induction n with
  | zero =>
    intro o h1 h2
    exact absurd h2 (by omega)
  | succ n ih =>
    intro o hi hin H locs ls hP hS hl
    refine lv_iload_n hx hb dX2_countFrom_4 rfl (lv_at hl 3 rfl) ?_
    refine lv_bipush (v := nI 32) hx hb dX2_countFrom_5 (by decide) ?_
    refine lv_icmp_ge (tgt := 33) hx hb dX2_countFrom_7 (by decide) (fun c_7 => ?_) (fun c_7 => ?_)
    · have c_7 := (nI_leI (a := 32) (b := o) (by omega) (by omega)).mp c_7
      have e9 : o = 32 := by omega
      try rw [e9] at hP
      try rw [e9] at hl
      exact kx H locs ls hP hS (lv_sub hl [2] rfl)
    · have c_7 := mt (nI_leI (a := 32) (b := o) (by omega) (by omega)).mpr c_7
      refine lv_iload_n hx hb dX2_countFrom_10 rfl (lv_at hl 2 rfl) ?_
      refine lv_aload_n hx hb dX2_countFrom_11 rfl (lv_at hl 0 rfl) ?_
      refine wd_get (ci := 3) (v := .ref (x + 2)) (C := RX2) (T := TX2) (N := 3) hx hb hts iwX2 hown hK.1 hP (xW_1) rfl 0 (by decide) (hts _ (tg_tail _ tw_26)) (fun _ h9 => h9) rfl dX2_countFrom_12 ?_
      refine lv_iload_n hx hb dX2_countFrom_15 rfl (lv_at hl 1 rfl) ?_
      refine lv_bipush (v := nI 32) hx hb dX2_countFrom_16 (by decide) ?_
      refine lv_imul hx hb dX2_countFrom_18 ?_
      refine wd_ti (x' := nI (a * 32)) (pk_mul _ _) ?_
      refine lv_iload_n hx hb dX2_countFrom_19 rfl (lv_at hl 3 rfl) ?_
      refine lv_iadd hx hb dX2_countFrom_20 ?_
      refine wd_ti (x' := nI ((a * 32) + o)) (nI_add _ _) ?_
      refine wd_ildN hx hb hK.1 hP 0 (k := ((a * 32) + o)) (xW_2) rfl (by omega) (by decide) dX2_countFrom_21 ?_
      refine cr_Si (As := [.int (lk ((a * 32) + o))]) (rest := [.int (nI (cf1 lk a o))]) ⟨hx, hb, hml, hown, hts⟩ (c_bitCount l g s0 (xW g w x pc mo no sz rs wr lk ps fs ss ds lv) (lk (a * 32 + o))) (cw_S 1 hts tg_tail tw_175 tw_176 tw_6 tw_177 rfl rfl (by decide +kernel) ⟨Nat.le_trans (by decide) hRm.1, Nat.le_trans (by decide) hRm.2⟩) hK hP h0s hS rfl hl.1 rfl (Nat.le_of_ble_eq_true rfl) dX2_countFrom_22 hcs (fun r9 w9 H locs hw hP hS => ?_)
      obtain ⟨e_r9, hw9⟩ := hw
      rw [hw9] at hP
      subst e_r9
      refine lv_iadd hx hb dX2_countFrom_25 ?_
      refine wd_ti (x' := nI ((cf1 lk a o) + (pcb (bt (lk (a * 32 + o))) 32))) (nI_add _ _) ?_
      refine lv_istore_n (lv' := [(2, .int (nI ((cf1 lk a o) + (pcb (bt (lk (a * 32 + o))) 32)))), (0, .ref (x + 1)), (1, .int (nI a)), (3, .int (nI o))]) hx hb dX2_countFrom_26 rfl hl (by decide) rfl (fun ls hl => ?_)
      refine lv_iinc (v := nI (o + 1)) (lv' := [(3, .int (nI (o + 1))), (2, .int (nI ((cf1 lk a o) + (pcb (bt (lk (a * 32 + o))) 32)))), (0, .ref (x + 1)), (1, .int (nI a))]) hx hb dX2_countFrom_27 hl (k := 3) rfl (nI_1 _) (by decide) rfl (fun ls hl => ?_)
      refine lv_goto (tgt := 4) hx hb dX2_countFrom_30 (by decide) ?_
      have hl : lv_has ls 4 [(0, .ref (x + 1)), (1, .int (nI a)), (2, .int (nI ((cf1 lk a o) + (pcb (bt (lk (a * 32 + o))) 32)))), (3, .int (nI (o + 1)))] := lv_sub hl [2, 3, 1, 0] rfl
      have e8 : ([(0, .ref (x + 1)), (1, .int (nI a)), (2, .int (nI ((cf1 lk a o) + (pcb (bt (lk (a * 32 + o))) 32)))), (3, .int (nI (o + 1)))] : List (Nat × Value)) = [(0, .ref (x + 1)), (1, .int (nI a)), (2, .int (nI (cf1 lk a (o + 1)))), (3, .int (nI (o + 1)))] := by rw [cf1]
      rw [e8] at hl
      exact ih (o + 1) (by omega) (by omega) _ _ ls hP hS hl

set_option maxHeartbeats 4000000 in
set_option maxRecDepth 100000 in
theorem c_X2_countFrom (l : Launch) (g : gX) (s0 : Nat) (w : wd_M) (x : Nat) (hs0 : s0 ≤ x) (pc : Int32) (mo : Int32) (no : Int32) (sz : Int32) (rs : Int32) (wr : Int32) (lk : Nat → Int32) (ps : Nat → Option Nat) (fs : Nat → Int32) (ss : Nat → Int32) (ds : Nat → Int32) (lv : Nat → Int32) (a : Nat) (ha : a < 32) : Met l yX2_countFrom (Cond.code yX2_countFrom cX2_countFrom 4 (some .int) :: tg) ({ frames := 1, cells := 0, slots := 0, locals := 20 }) (cP g s0 (xW g w x pc mo no sz rs wr lk ps fs ss ds lv) [.ref (x + 1), .int (nI a)]) (cI g s0 (fun r w' => r = nI (cf1 lk a 32) ∧ w' = (xW g w x pc mo no sz rs wr lk ps fs ss ds lv))) 0 0 (cA s0) := by
  refine Met.ofW (cc := cX2_countFrom) (maxL := 4) (ret := some .int) (by decide) rfl ?_
  intro p e s m args below meth c s₁ B9 hml hv
  obtain ⟨rfl, h0s, hP, hK⟩ := hv
  have hx := B9.exec
  have hb := B9.bytes
  have hr := B9.returns
  have hts := atoms_spec (ws := Cond.code yX2_countFrom cX2_countFrom 4 (some .int) :: tg) B9.pre
  have hown : s.vm.findClass RX2 = some m.cls := findClass_of_methodNamed B9.named
  have hlocks := B9.notSynchronized
  have hS : gS s0 s.heap s.heap [] := va_S.rf
  have hRm : 1 ≤ (headSpec (Cond.code yX2_countFrom cX2_countFrom 4 (some .int) :: tg) ({ frames := 1, cells := 0, slots := 0, locals := 20 })).room.frames ∧ 20 ≤ (headSpec (Cond.code yX2_countFrom cX2_countFrom 4 (some .int) :: tg) ({ frames := 1, cells := 0, slots := 0, locals := 20 })).room.locals := ⟨Nat.le_refl _, Nat.le_refl _⟩
  have hcs : 0 + 0 ≤ (headSpec (Cond.code yX2_countFrom cX2_countFrom 4 (some .int) :: tg) ({ frames := 1, cells := 0, slots := 0, locals := 20 })).room.cells ∧ 0 + 0 ≤ (headSpec (Cond.code yX2_countFrom cX2_countFrom 4 (some .int) :: tg) ({ frames := 1, cells := 0, slots := 0, locals := 20 })).room.slots := ⟨Nat.zero_le _, Nat.zero_le _⟩
  have hl := lv_entry ([.ref (x + 1), .int (nI a)]) (n := 4) (Nat.le_of_ble_eq_true rfl)
  rw [lg_entry_eq]
  generalize (lg_sl ([.ref (x + 1), .int (nI a)]) ++ List.replicate (4 - (lg_sl ([.ref (x + 1), .int (nI a)])).length) Slot.unset).toArray = ls at hl ⊢
  have hl : lv_has ls 4 [(0, .ref (x + 1)), (1, .int (nI a))] := hl
  refine lv_iconst (v := nI 0) hx hb dX2_countFrom_0 (by decide) ?_
  refine lv_istore_n (lv' := [(2, .int (nI 0)), (0, .ref (x + 1)), (1, .int (nI a))]) hx hb dX2_countFrom_1 rfl hl (by decide) rfl (fun ls hl => ?_)
  refine lv_iconst (v := nI 0) hx hb dX2_countFrom_2 (by decide) ?_
  refine lv_istore_n (lv' := [(3, .int (nI 0)), (2, .int (nI 0)), (0, .ref (x + 1)), (1, .int (nI a))]) hx hb dX2_countFrom_3 rfl hl (by decide) rfl (fun ls hl => ?_)
  have hl : lv_has ls 4 [(0, .ref (x + 1)), (1, .int (nI a)), (2, .int (nI 0)), (3, .int (nI 0))] := lv_sub hl [2, 3, 1, 0] rfl
  have e8 : ([(0, .ref (x + 1)), (1, .int (nI a)), (2, .int (nI 0)), (3, .int (nI 0))] : List (Nat × Value)) = [(0, .ref (x + 1)), (1, .int (nI a)), (2, .int (nI (cf1 lk a 0))), (3, .int (nI 0))] := by rw [cf1]
  rw [e8] at hl
  refine lp_cf1 g s0 w x hs0 pc mo no sz rs wr lk ps fs ss ds lv a ha hx hb hml hown hts hK h0s hRm hcs  ?_ (32 + 1) 0 (by omega) (by omega) _ _ ls hP hS hl
  intro H locs ls hP hS hl
  refine lv_iload_n hx hb dX2_countFrom_33 rfl (lv_at hl 0 rfl) ?_
  exact W.iret (v := nI (cf1 lk a 32)) hx hb hr (fun t9 ht hW => ⟨⟨_, (xW g w x pc mo no sz rs wr lk ps fs ss ds lv), rfl, ⟨rfl, rfl⟩, cB_of ht hP⟩, hS.F ht⟩) hS.2.2 dX2_countFrom_34

set_option maxHeartbeats 4000000 in
set_option maxRecDepth 100000 in
theorem lp_cl2 {p : Program} {l : Launch} {e : Env} {R : Room} {s : State} {m : MethodId} {args : Array Value} {below : List Frame} {meth : Method} {c : Code} {Q : State → Prop} {H0 : Heap} {cells slots : Nat} (g : gX) (s0 : Nat) (w : wd_M) (q : Nat) (hs0 : s0 ≤ q) (k : Int32) (kd : Int32) (li : Int32) (inn : Option Nat) (oth : Option Nat) (pa : Int64) (cs : Int32) (cg : Int32) (x : Nat) (hx1 : x < 32) (t : aT) (hB : mB t.1) (tq : Nat) (no sz : Int32) (lk : Nat → Int32) (Ltq : w tq = some (.inr (3, [.ref (tq + 1), .int no, .int sz]))) (Llk : w (tq + 1) = some (wd_iA (g.2 0) 1024 lk)) (hnt : tq + 2 ≤ q ∨ q + 3 ≤ tq) (hx : p.tables.exec = Jvm.exec) (hb : c.code = cX0_countLinks) (hml : c.maxLocals = 4) (hown : s.vm.findClass RX0 = some m.cls) (hts : ∀ w ∈ Cond.code yX0_countLinks cX0_countLinks 4 (none) :: tg, w.before args s = true) (hK : gK g s) (h0s : s0 ≤ H0.size) (hRm : 2 ≤ R.frames ∧ 42 ≤ R.locals) (hcs : cells + 0 ≤ R.cells ∧ slots + 0 ≤ R.slots)  (kx : ∀ (H : Heap) (locs : List Loc) (ls : Array Slot), gP g (pW g w q k kd li inn oth pa cs cg (tN (cl2 lk li x t 32).1) ((cl2 lk li x t 32).2)) H → gS s0 H0 H locs → lv_has ls 4 [(0, .ref q), (1, .ref tq), (2, .int (nI x))] → W p l e R s m args below meth c H locs cells slots Q (F0 m 48 ls [])) :
    ∀ (n y : Nat), y ≤ 32 → 32 + 1 ≤ y + n → ∀ (H : Heap) (locs : List Loc) (ls : Array Slot), gP g (pW g w q k kd li inn oth pa cs cg (tN (cl2 lk li x t y).1) ((cl2 lk li x t y).2)) H → gS s0 H0 H locs → lv_has ls 4 [(0, .ref q), (1, .ref tq), (2, .int (nI x)), (3, .int (nI y))] → W p l e R s m args below meth c H locs cells slots Q (F0 m 10 ls []) := by
  intro n
  induction n with
  | zero =>
    intro y h1 h2
    exact absurd h2 (by omega)
  | succ n ih =>
    intro y hi hin H locs ls hP hS hl
    refine lv_iload_n hx hb dX0_countLinks_10 rfl (lv_at hl 3 rfl) ?_
    refine lv_bipush (v := nI 32) hx hb dX0_countLinks_11 (by decide) ?_
    refine lv_icmp_ge (tgt := 48) hx hb dX0_countLinks_13 (by decide) (fun c_13 => ?_) (fun c_13 => ?_)
    · have c_13 := (nI_leI (a := 32) (b := y) (by omega) (by omega)).mp c_13
      have e9 : y = 32 := by omega
      try rw [e9] at hP
      try rw [e9] at hl
      exact kx H locs ls hP hS (lv_sub hl [0, 1, 2] rfl)
    · have c_13 := mt (nI_leI (a := 32) (b := y) (by omega) (by omega)).mpr c_13
      refine lv_aload_n hx hb dX0_countLinks_16 rfl (lv_at hl 0 rfl) ?_
      refine lv_iload_n hx hb dX0_countLinks_17 rfl (lv_at hl 2 rfl) ?_
      refine lv_iload_n hx hb dX0_countLinks_18 rfl (lv_at hl 3 rfl) ?_
      refine lv_aload_n hx hb dX0_countLinks_19 rfl (lv_at hl 1 rfl) ?_
      refine wd_get (ci := 3) (v := .ref (tq + 1)) (C := RX2) (T := TX2) (N := 3) hx hb hts iwX2 hown hK.1 hP ((pW_out (by omega)).trans Ltq) rfl 0 (by decide) (hts _ (tg_tail _ tw_27)) (fun _ h9 => h9) rfl dX0_countLinks_20 ?_
      refine lv_iload_n hx hb dX0_countLinks_23 rfl (lv_at hl 2 rfl) ?_
      refine lv_bipush (v := nI 32) hx hb dX0_countLinks_24 (by decide) ?_
      refine lv_imul hx hb dX0_countLinks_26 ?_
      refine wd_ti (x' := nI (x * 32)) (pk_mul _ _) ?_
      refine lv_iload_n hx hb dX0_countLinks_27 rfl (lv_at hl 3 rfl) ?_
      refine lv_iadd hx hb dX0_countLinks_28 ?_
      refine wd_ti (x' := nI ((x * 32) + y)) (nI_add _ _) ?_
      refine wd_ildN hx hb hK.1 hP 0 (k := ((x * 32) + y)) ((pW_out (by omega)).trans Llk) rfl (by omega) (by decide) dX0_countLinks_29 ?_
      refine lv_aload_n hx hb dX0_countLinks_30 rfl (lv_at hl 0 rfl) ?_
      refine wd_get (ci := 1) (v := .int (li)) (C := RX0) (T := TX0) (N := 10) hx hb hts iwX0 hown hK.1 hP (pW_0) rfl 2 (by decide) (hts _ (tg_tail _ tw_125)) (fun _ h9 => h9) rfl dX0_countLinks_31 ?_
      refine lv_iand hx hb dX0_countLinks_34 ?_
      refine cr_Si (As := [.int ((lk ((x * 32) + y)) &&& (li))]) (rest := [.int (nI y), .int (nI x), .ref q]) ⟨hx, hb, hml, hown, hts⟩ (c_bitCount l g s0 (pW g w q k kd li inn oth pa cs cg (tN (cl2 lk li x t y).1) ((cl2 lk li x t y).2)) (lk (x * 32 + y) &&& li)) (cw_S 1 hts tg_tail tw_211 tw_176 tw_6 tw_177 rfl rfl (by decide +kernel) ⟨Nat.le_trans (by decide) hRm.1, Nat.le_trans (by decide) hRm.2⟩) hK hP h0s hS rfl hl.1 rfl (Nat.le_of_ble_eq_true rfl) dX0_countLinks_35 hcs (fun r9 w9 H locs hw hP hS => ?_)
      obtain ⟨e_r9, hw9⟩ := hw
      rw [hw9] at hP
      subst e_r9
      refine lv_i2l (v := lN (pcb (bt (lk (x * 32 + y) &&& li)) 32)) hx hb dX0_countLinks_38 (nI_l (by have h9 := pcb_le (bt (lk (x * 32 + y) &&& li)) 32; omega)) ?_
      refine cr_Vv (As := [.int (nI x), .int (nI y), .long (lN (pcb (bt (lk (x * 32 + y) &&& li)) 32))]) (rest := []) ⟨hx, hb, hml, hown, hts⟩ (c_X0_addTimes l g s0  w q hs0 k kd li inn oth pa cs cg x y (pcb (bt (lk (x * 32 + y) &&& li)) 32) (by omega) (by omega) (by have h9 := pcb_le (bt (lk (x * 32 + y) &&& li)) 32; omega) (by have h9 := pcb_le (bt (lk (x * 32 + y) &&& li)) 32; omega) (cl2 lk li x t y) (cl2_B hB y)) (cw_V 3 hts tg_tail tw_212 tw_214 tp_7 tw_5 tw_215 rfl rfl (by decide +kernel) ⟨Nat.le_trans (by decide) hRm.1, Nat.le_trans (by decide) hRm.2⟩) hK hP h0s hS (pW_0) rfl rfl rfl hl.1 rfl (Nat.le_of_ble_eq_true rfl) dX0_countLinks_39 hcs (fun w9 H locs hw hP hS => ?_)
      rw [hw] at hP
      refine lv_iinc (v := nI (y + 1)) (lv' := [(3, .int (nI (y + 1))), (0, .ref q), (1, .ref tq), (2, .int (nI x))]) hx hb dX0_countLinks_42 hl (k := 3) rfl (nI_1 _) (by decide) rfl (fun ls hl => ?_)
      refine lv_goto (tgt := 10) hx hb dX0_countLinks_45 (by decide) ?_
      have e8 : (pW g w q k kd li inn oth pa cs cg (tN (adT (cl2 lk li x t y) x y (pcb (bt (lk (x * 32 + y) &&& li)) 32)).1) ((adT (cl2 lk li x t y) x y (pcb (bt (lk (x * 32 + y) &&& li)) 32)).2)) = (pW g w q k kd li inn oth pa cs cg (tN (cl2 lk li x t (y + 1)).1) ((cl2 lk li x t (y + 1)).2)) := by rw [cl2]
      rw [e8] at hP
      have hl : lv_has ls 4 [(0, .ref q), (1, .ref tq), (2, .int (nI x)), (3, .int (nI (y + 1)))] := lv_sub hl [1, 2, 3, 0] rfl
      exact ih (y + 1) (by omega) (by omega) _ _ ls hP hS hl

set_option maxHeartbeats 4000000 in
set_option maxRecDepth 100000 in
theorem lp_cl1 {p : Program} {l : Launch} {e : Env} {R : Room} {s : State} {m : MethodId} {args : Array Value} {below : List Frame} {meth : Method} {c : Code} {Q : State → Prop} {H0 : Heap} {cells slots : Nat} (g : gX) (s0 : Nat) (w : wd_M) (q : Nat) (hs0 : s0 ≤ q) (k : Int32) (kd : Int32) (li : Int32) (inn : Option Nat) (oth : Option Nat) (pa : Int64) (cs : Int32) (cg : Int32) (t : aT) (hB : mB t.1) (tq : Nat) (no sz : Int32) (lk : Nat → Int32) (Ltq : w tq = some (.inr (3, [.ref (tq + 1), .int no, .int sz]))) (Llk : w (tq + 1) = some (wd_iA (g.2 0) 1024 lk)) (hnt : tq + 2 ≤ q ∨ q + 3 ≤ tq) (hx : p.tables.exec = Jvm.exec) (hb : c.code = cX0_countLinks) (hml : c.maxLocals = 4) (hown : s.vm.findClass RX0 = some m.cls) (hts : ∀ w ∈ Cond.code yX0_countLinks cX0_countLinks 4 (none) :: tg, w.before args s = true) (hK : gK g s) (h0s : s0 ≤ H0.size) (hRm : 2 ≤ R.frames ∧ 42 ≤ R.locals) (hcs : cells + 0 ≤ R.cells ∧ slots + 0 ≤ R.slots)  (kx : ∀ (H : Heap) (locs : List Loc) (ls : Array Slot), gP g (pW g w q k kd li inn oth pa cs cg (tN (cl1 lk li t 32).1) ((cl1 lk li t 32).2)) H → gS s0 H0 H locs → lv_has ls 4 [(0, .ref q)] → W p l e R s m args below meth c H locs cells slots Q (F0 m 54 ls [])) :
    ∀ (n x : Nat), x ≤ 32 → 32 + 1 ≤ x + n → ∀ (H : Heap) (locs : List Loc) (ls : Array Slot), gP g (pW g w q k kd li inn oth pa cs cg (tN (cl1 lk li t x).1) ((cl1 lk li t x).2)) H → gS s0 H0 H locs → lv_has ls 4 [(0, .ref q), (1, .ref tq), (2, .int (nI x))] → W p l e R s m args below meth c H locs cells slots Q (F0 m 2 ls []) := by
  intro n
  induction n with
  | zero =>
    intro x h1 h2
    exact absurd h2 (by omega)
  | succ n ih =>
    intro x hi hin H locs ls hP hS hl
    refine lv_iload_n hx hb dX0_countLinks_2 rfl (lv_at hl 2 rfl) ?_
    refine lv_bipush (v := nI 32) hx hb dX0_countLinks_3 (by decide) ?_
    refine lv_icmp_ge (tgt := 54) hx hb dX0_countLinks_5 (by decide) (fun c_5 => ?_) (fun c_5 => ?_)
    · have c_5 := (nI_leI (a := 32) (b := x) (by omega) (by omega)).mp c_5
      have e9 : x = 32 := by omega
      try rw [e9] at hP
      try rw [e9] at hl
      exact kx H locs ls hP hS (lv_sub hl [0] rfl)
    · have c_5 := mt (nI_leI (a := 32) (b := x) (by omega) (by omega)).mpr c_5
      refine lv_iconst (v := nI 0) hx hb dX0_countLinks_8 (by decide) ?_
      refine lv_istore_n (lv' := [(3, .int (nI 0)), (0, .ref q), (1, .ref tq), (2, .int (nI x))]) hx hb dX0_countLinks_9 rfl hl (by decide) rfl (fun ls hl => ?_)
      have e8 : (pW g w q k kd li inn oth pa cs cg (tN (cl1 lk li t x).1) ((cl1 lk li t x).2)) = (pW g w q k kd li inn oth pa cs cg (tN (cl2 lk li x ((cl1 lk li t x)) 0).1) ((cl2 lk li x ((cl1 lk li t x)) 0).2)) := by rw [cl2]
      rw [e8] at hP
      have hl : lv_has ls 4 [(0, .ref q), (1, .ref tq), (2, .int (nI x)), (3, .int (nI 0))] := lv_sub hl [1, 2, 3, 0] rfl
      refine lp_cl2 g s0 w q hs0 k kd li inn oth pa cs cg x (by omega) (cl1 lk li t x) (cl1_B hB x) tq no sz lk Ltq Llk hnt hx hb hml hown hts hK h0s hRm hcs  ?_ (32 + 1) 0 (by omega) (by omega) _ _ ls hP hS hl
      intro H locs ls hP hS hl
      refine lv_iinc (v := nI (x + 1)) (lv' := [(2, .int (nI (x + 1))), (0, .ref q), (1, .ref tq)]) hx hb dX0_countLinks_48 hl (k := 2) rfl (nI_1 _) (by decide) rfl (fun ls hl => ?_)
      refine lv_goto (tgt := 2) hx hb dX0_countLinks_51 (by decide) ?_
      have e8 : (pW g w q k kd li inn oth pa cs cg (tN (cl2 lk li x ((cl1 lk li t x)) 32).1) ((cl2 lk li x ((cl1 lk li t x)) 32).2)) = (pW g w q k kd li inn oth pa cs cg (tN (cl1 lk li t (x + 1)).1) ((cl1 lk li t (x + 1)).2)) := by rw [cl1]
      rw [e8] at hP
      have hl : lv_has ls 4 [(0, .ref q), (1, .ref tq), (2, .int (nI (x + 1)))] := lv_sub hl [1, 2, 0] rfl
      exact ih (x + 1) (by omega) (by omega) _ _ ls hP hS hl

set_option maxHeartbeats 4000000 in
set_option maxRecDepth 100000 in
theorem c_X0_countLinks (l : Launch) (g : gX) (s0 : Nat) (w : wd_M) (q : Nat) (hs0 : s0 ≤ q) (k : Int32) (kd : Int32) (li : Int32) (inn : Option Nat) (oth : Option Nat) (pa : Int64) (cs : Int32) (cg : Int32) (t : aT) (hB : mB t.1) (tq : Nat) (no sz : Int32) (lk : Nat → Int32) (Ltq : w tq = some (.inr (3, [.ref (tq + 1), .int no, .int sz]))) (Llk : w (tq + 1) = some (wd_iA (g.2 0) 1024 lk)) (hnt : tq + 2 ≤ q ∨ q + 3 ≤ tq) : Met l yX0_countLinks (Cond.code yX0_countLinks cX0_countLinks 4 (none) :: tg) ({ frames := 2, cells := 0, slots := 0, locals := 42 }) (cP g s0 (pW g w q k kd li inn oth pa cs cg (tN t.1) (t.2)) [.ref q, .ref tq]) (cV g s0 (fun w' => w' = (pW g w q k kd li inn oth pa cs cg (tN (cl1 lk li t 32).1) ((cl1 lk li t 32).2)))) 0 0 (cA s0) := by
  refine Met.ofW (cc := cX0_countLinks) (maxL := 4) (ret := none) (by decide) rfl ?_
  intro p e s m args below meth c s₁ B9 hml hv
  obtain ⟨rfl, h0s, hP, hK⟩ := hv
  have hx := B9.exec
  have hb := B9.bytes
  have hr := B9.returns
  have hts := atoms_spec (ws := Cond.code yX0_countLinks cX0_countLinks 4 (none) :: tg) B9.pre
  have hown : s.vm.findClass RX0 = some m.cls := findClass_of_methodNamed B9.named
  have hlocks := B9.notSynchronized
  have hS : gS s0 s.heap s.heap [] := va_S.rf
  have hRm : 2 ≤ (headSpec (Cond.code yX0_countLinks cX0_countLinks 4 (none) :: tg) ({ frames := 2, cells := 0, slots := 0, locals := 42 })).room.frames ∧ 42 ≤ (headSpec (Cond.code yX0_countLinks cX0_countLinks 4 (none) :: tg) ({ frames := 2, cells := 0, slots := 0, locals := 42 })).room.locals := ⟨Nat.le_refl _, Nat.le_refl _⟩
  have hcs : 0 + 0 ≤ (headSpec (Cond.code yX0_countLinks cX0_countLinks 4 (none) :: tg) ({ frames := 2, cells := 0, slots := 0, locals := 42 })).room.cells ∧ 0 + 0 ≤ (headSpec (Cond.code yX0_countLinks cX0_countLinks 4 (none) :: tg) ({ frames := 2, cells := 0, slots := 0, locals := 42 })).room.slots := ⟨Nat.zero_le _, Nat.zero_le _⟩
  have hl := lv_entry ([.ref q, .ref tq]) (n := 4) (Nat.le_of_ble_eq_true rfl)
  rw [lg_entry_eq]
  generalize (lg_sl ([.ref q, .ref tq]) ++ List.replicate (4 - (lg_sl ([.ref q, .ref tq])).length) Slot.unset).toArray = ls at hl ⊢
  have hl : lv_has ls 4 [(0, .ref q), (1, .ref tq)] := hl
  refine lv_iconst (v := nI 0) hx hb dX0_countLinks_0 (by decide) ?_
  refine lv_istore_n (lv' := [(2, .int (nI 0)), (0, .ref q), (1, .ref tq)]) hx hb dX0_countLinks_1 rfl hl (by decide) rfl (fun ls hl => ?_)
  have e8 : (pW g w q k kd li inn oth pa cs cg (tN t.1) (t.2)) = (pW g w q k kd li inn oth pa cs cg (tN (cl1 lk li t 0).1) ((cl1 lk li t 0).2)) := by rw [cl1]
  rw [e8] at hP
  have hl : lv_has ls 4 [(0, .ref q), (1, .ref tq), (2, .int (nI 0))] := lv_sub hl [1, 2, 0] rfl
  refine lp_cl1 g s0 w q hs0 k kd li inn oth pa cs cg t hB tq no sz lk Ltq Llk hnt hx hb hml hown hts hK h0s hRm hcs  ?_ (32 + 1) 0 (by omega) (by omega) _ _ ls hP hS hl
  intro H locs ls hP hS hl
  exact W.vret hx hb hr (fun t9 ht hW => ⟨⟨(pW g w q k kd li inn oth pa cs cg (tN (cl1 lk li t 32).1) ((cl1 lk li t 32).2)), rfl, rfl, cB_of ht hP⟩, hS.F ht⟩) hS.2.2 dX0_countLinks_54

