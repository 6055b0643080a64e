/-! THE CLASS: countParts, goesBeyond (walks) -/
set_option maxHeartbeats 4000000 in
set_option maxRecDepth 100000 in
theorem lp_cp {p : Program} {l : Launch} {e : Env} {R : Room} {s : State} {m : MethodId} {args : Array Value} {below : List Frame} {meth : Method} {c : Code} {Q : State → Prop} {H0 : Heap} {cells slots : Nat} (g : gX) (s0 : Nat) (x : Nat) (hs0 : s0 ≤ x) (mo : Int32) (no : Int32) (rs : Int32) (wr : Int32) (lk : Nat → Int32) (ps : Nat → Option Nat) (fs : Nat → Int32) (ss : Nat → Int32) (ds : Nat → Int32) (lv : Nat → Int32) (P : Nat) (hP4 : P ≤ 40) (Z : Nat) (qa : Nat → Nat) (KD LI : Nat → Int32) (ia ib PM : Nat → Nat) (hsh : shp P qa ia ib PM) (w0 : wd_M) (gr : Int32) (a : Nat) (ha1 : 1 ≤ a) (haP : a ≤ P) (sv ov : Int32) (hx : p.tables.exec = Jvm.exec) (hb : c.code = cX3_countParts) (hml : c.maxLocals = 7) (hown : s.vm.findClass RX3 = some m.cls) (hts : ∀ w ∈ Cond.code yX3_countParts cX3_countParts 7 (none) :: tg, w.before args s = true) (hK : gK g s) (h0s : s0 ≤ H0.size) (hRm : 6 ≤ R.frames ∧ 142 ≤ R.locals) (hcs : cells + 0 ≤ R.cells ∧ slots + 0 ≤ R.slots) (kx : ∀ (w : wd_M) (CS CG : Nat → Int32) (TF : Nat → Nat → Nat) (JF : Nat → Nat → Int32) (H : Heap) (locs : List Loc) (ls : Array Slot), cpI g w0 x P ps qa KD LI ia ib PM lk Z gr a (a + 1) w CS CG TF JF → gP g (xW g w x (nI P) mo no (nI Z) rs wr lk ps fs ss ds lv) H → gS s0 H0 H locs → W p l e R s m args below meth c H locs cells slots Q (F0 m 70 ls [])) :
    ∀ (n i : Nat), i ≤ a + 1 → a + 1 + 1 ≤ i + n → 1 ≤ i → ∀ (w : wd_M) (CS CG : Nat → Int32) (TF : Nat → Nat → Nat) (JF : Nat → Nat → Int32), cpI g w0 x P ps qa KD LI ia ib PM lk Z gr a i w CS CG TF JF → ∀ (H : Heap) (locs : List Loc) (ls : Array Slot), gP g (xW g w x (nI P) mo no (nI Z) rs wr lk ps fs ss ds lv) H → gS s0 H0 H locs → lv_has ls 7 [(0, .ref x), (1, .ref (qa a)), (2, .int (sv)), (3, .int (ov)), (4, .int (gr)), (5, .int (nI i))] → W p l e R s m args below meth c H locs cells slots Q (F0 m 22 ls []) := by
  intro n
  induction n with
  | zero =>
    intro i h1 h2
    exact absurd h2 (by omega)
  | succ n ih =>
    intro i hi hin hi1 w CS CG TF JF hI H locs ls hP hS hl
    obtain ⟨a1_a, a2_a, a3_a, a4_a, a5_a, a6_a⟩ := hI.1 a ha1 haP
    dsimp only at a4_a
    refine lv_iload hx hb dX3_countParts_22 (lv_at hl 5 rfl) ?_
    refine lv_aload_n hx hb dX3_countParts_24 rfl (lv_at hl 1 rfl) ?_
    refine wd_get (ci := 1) (v := .int (nI a)) (C := RX0) (T := TX0) (N := 10) hx hb hts iwX0 hown hK.1 hP ((xW_out (by omega)).trans a4_a) rfl 0 (by decide) (hts _ (tg_tail _ tw_123)) (fun _ h9 => h9) rfl dX3_countParts_25 ?_
    refine lv_icmp_gt (tgt := 70) hx hb dX3_countParts_28 (by decide) (fun c_28 => ?_) (fun c_28 => ?_)
    · have c_28 := (nI_ltI (a := a) (b := i) (by omega) (by omega)).mp c_28
      have e9 : i = a + 1 := by omega
      subst e9
      exact kx w CS CG TF JF H locs ls hI hP hS
    · have c_28 := mt (nI_ltI (a := a) (b := i) (by omega) (by omega)).mpr c_28
      obtain ⟨a1_i, a2_i, a3_i, a4_i, a5_i, a6_i⟩ := hI.1 i hi1 (by omega)
      dsimp only at a4_i
      refine lv_aload_n hx hb dX3_countParts_31 rfl (lv_at hl 0 rfl) ?_
      refine lv_iload hx hb dX3_countParts_32 (lv_at hl 5 rfl) ?_
      refine cr_Vo (As := [.int (nI i)]) (rest := []) ⟨hx, hb, hml, hown, hts⟩ (c_X3_known l g s0  w x hs0 mo no (nI Z) rs wr lk ps fs ss ds lv P hP4 (nI i)) (cw_V 1 hts tg_tail tw_155 tw_157 tp_1 tw_1 tw_158 rfl rfl (by decide +kernel) ⟨Nat.le_trans (by decide) hRm.1, Nat.le_trans (by decide) hRm.2⟩) hK hP h0s hS (xW_0) rfl rfl rfl hl.1 rfl (Nat.le_of_ble_eq_true rfl) dX3_countParts_34 hcs (fun r9 w9 H locs hw hP hS => ?_)
      have hk9 : r9 = some (qa i) ∧ w9 = (xW g w x (nI P) mo no (nI Z) rs wr lk ps fs ss ds lv) := by
        rcases hw with ⟨n9, -, -⟩ | ⟨u9, h1, h2, v9, e9, hw9⟩
        · exact absurd ⟨(nI_leI (by omega) (by omega)).mpr (by omega), (nI_leI (by omega) (by omega)).mpr (by omega)⟩ n9
        · have e8 := (nI_eq (by omega) (by omega)).mp v9; rw [← e8] at e9; exact ⟨e9.trans a1_i, hw9⟩
      obtain ⟨e_r9, hw9⟩ := hk9
      rw [hw9] at hP
      subst e_r9
      show W p l e _ s m _ below meth c H locs _ _ _ (F0 m 37 ls (.ref (qa i) :: []))
      refine lv_astore (lv' := [(6, .ref (qa i)), (0, .ref x), (1, .ref (qa a)), (2, .int (sv)), (3, .int (ov)), (4, .int (gr)), (5, .int (nI i))]) hx hb dX3_countParts_37 hl (by decide) rfl (fun ls hl => ?_)
      refine lv_aload hx hb dX3_countParts_39 (lv_at hl 0 rfl) ?_
      refine lv_ifnull hx hb dX3_countParts_41 ?_
      refine lv_aload_n hx hb dX3_countParts_44 rfl (lv_at hl 2 rfl) ?_
      refine lv_iload hx hb dX3_countParts_45 (lv_at hl 6 rfl) ?_
      refine cr_Vi (As := [.int (nI i)]) (rest := []) ⟨hx, hb, hml, hown, hts⟩ (c_made l g s0 (xW g w x (nI P) mo no (nI Z) rs wr lk ps fs ss ds lv) (qa a) (by omega) (nI a) (KD a) (LI a) (oN qa (ia a)) (oN qa (ib a)) (CS a) (CG a) (tN (TF a)) (JF a) i (by omega) (PM a) a3_a ((xW_out (by omega)).trans a4_a) ((xW_out (by omega)).trans a5_a) ((xW_out (by omega)).trans a6_a)) (cw_V 1 hts tg_tail tw_195 tw_196 tw_197 tw_5 tw_198 rfl rfl (by decide +kernel) ⟨Nat.le_trans (by decide) hRm.1, Nat.le_trans (by decide) hRm.2⟩) hK hP h0s hS ((xW_out (by omega)).trans a4_a) rfl rfl rfl hl.1 rfl (Nat.le_of_ble_eq_true rfl) dX3_countParts_47 hcs (fun r9 w9 H locs hw hP hS => ?_)
      obtain ⟨e_r9, hw9⟩ := hw
      rw [hw9] at hP
      subst e_r9
      refine lv_if_eq (tgt := 64) hx hb dX3_countParts_50 (by decide) (fun c_50 => ?_) (fun c_50 => ?_)
      · have c_50 := zB_0.mp c_50
        refine lv_iinc (v := nI (i + 1)) (lv' := [(5, .int (nI (i + 1))), (6, .ref (qa i)), (0, .ref x), (1, .ref (qa a)), (2, .int (sv)), (3, .int (ov)), (4, .int (gr))]) hx hb dX3_countParts_64 hl (k := 6) rfl (nI_1 _) (by decide) rfl (fun ls hl => ?_)
        refine lv_goto (tgt := 22) hx hb dX3_countParts_67 (by decide) ?_
        exact ih (i + 1) (by omega) (by omega) (by omega) w CS CG TF JF (cp_skip hI c_50) _ _ ls hP hS (lv_sub hl [2, 3, 4, 5, 6, 0] rfl)
      · have c_50 := zB_1.mp c_50
        refine lv_aload hx hb dX3_countParts_53 (lv_at hl 0 rfl) ?_
        refine lv_aload_n hx hb dX3_countParts_55 rfl (lv_at hl 1 rfl) ?_
        refine wd_get (ci := 4) (v := .ref (x + 1)) (C := RX3) (T := TX3) (N := 6) hx hb hts iwX3 hown hK.1 hP (xW_0) rfl 0 (by decide) (hts _ (tg_tail _ tw_69)) (fun _ h9 => h9) rfl dX3_countParts_56 ?_
        refine lv_iload hx hb dX3_countParts_59 (lv_at hl 5 rfl) ?_
        refine cr_Vv (As := [.ref (x + 1), .int (gr)]) (rest := []) ⟨hx, hb, hml, hown, hts⟩ (c_cin l g s0  w x hs0 mo no rs wr lk ps fs ss ds lv P hP4 Z qa KD LI ia ib PM hsh w0 gr a ha1 haP i CS CG TF JF hI hi1 (by omega) c_50) (cw_V 2 hts tg_tail tw_199 tw_200 tw_201 tw_5 tw_202 rfl rfl (by decide +kernel) ⟨Nat.le_trans (by decide) hRm.1, Nat.le_trans (by decide) hRm.2⟩) hK hP h0s hS ((xW_out (by omega)).trans a4_i) rfl rfl rfl hl.1 rfl (Nat.le_of_ble_eq_true rfl) dX3_countParts_61 hcs (fun w9 H locs hw hP hS => ?_)
        obtain ⟨w, CS, CG, TF, JF, hw9, hI⟩ := hw
        rw [hw9] at hP
        refine lv_iinc (v := nI (i + 1)) (lv' := [(5, .int (nI (i + 1))), (6, .ref (qa i)), (0, .ref x), (1, .ref (qa a)), (2, .int (sv)), (3, .int (ov)), (4, .int (gr))]) hx hb dX3_countParts_64 hl (k := 6) rfl (nI_1 _) (by decide) rfl (fun ls hl => ?_)
        refine lv_goto (tgt := 22) hx hb dX3_countParts_67 (by decide) ?_
        exact ih (i + 1) (by omega) (by omega) (by omega) w CS CG TF JF hI _ _ ls hP hS (lv_sub hl [2, 3, 4, 5, 6, 0] rfl)

set_option maxHeartbeats 4000000 in
set_option maxRecDepth 100000 in
theorem c_X3_countParts (l : Launch) (g : gX) (s0 : Nat) (w : wd_M) (x : Nat) (hs0 : s0 ≤ x) (mo : Int32) (no : Int32) (rs : Int32) (wr : Int32) (lk : Nat → Int32) (ps : Nat → Option Nat) (fs : Nat → Int32) (ss : Nat → Int32) (ds : Nat → Int32) (lv : Nat → Int32) (P : Nat) (hP4 : P ≤ 40) (Z : Nat) (qa : Nat → Nat) (KD LI : Nat → Int32) (ia ib PM : Nat → Nat) (hsh : shp P qa ia ib PM) (a : Nat) (ha1 : 1 ≤ a) (haP : a ≤ P) (CS CG : Nat → Int32) (TF : Nat → Nat → Nat) (JF : Nat → Nat → Int32) (hpl : poolN g w x P ps qa KD LI ia ib PM CS CG TF JF) (hcc : cch P Z KD LI ia ib lk CS CG TF JF) (sv ov : Int32) : Met l yX3_countParts (Cond.code yX3_countParts cX3_countParts 7 (none) :: tg) ({ frames := 6, cells := 0, slots := 0, locals := 142 }) (cP g s0 (xW g w x (nI P) mo no (nI Z) rs wr lk ps fs ss ds lv) [.ref x, .ref (qa a), .int (sv), .int (ov)]) (cV g s0 (fun w' => ∃ w3 CS3 CG3 TF3 JF3, w' = (xW g w3 x (nI P) mo no (nI Z) rs wr lk ps fs ss ds lv) ∧ cpI g w x P ps qa KD LI ia ib PM lk Z (no ||| (if sv = -1 then nI 0 else (1 : Int32) <<< (sv &&& 31)) ||| (if ov = -1 then nI 0 else (1 : Int32) <<< (ov &&& 31))) a (a + 1) w3 CS3 CG3 TF3 JF3)) 0 0 (cA s0) := by
  refine Met.ofW (cc := cX3_countParts) (maxL := 7) (ret := none) (by decide) rfl ?_
  intro p e s m args below meth c s₁ B9 hml hv
  obtain ⟨rfl, h0s, hP, hK⟩ := hv
  have hx := B9.exec
  have hb := B9.bytes
  have hr := B9.returns
  have hts := atoms_spec (ws := Cond.code yX3_countParts cX3_countParts 7 (none) :: tg) B9.pre
  have hown : s.vm.findClass RX3 = some m.cls := findClass_of_methodNamed B9.named
  have hlocks := B9.notSynchronized
  have hS : gS s0 s.heap s.heap [] := va_S.rf
  have hRm : 6 ≤ (headSpec (Cond.code yX3_countParts cX3_countParts 7 (none) :: tg) ({ frames := 6, cells := 0, slots := 0, locals := 142 })).room.frames ∧ 142 ≤ (headSpec (Cond.code yX3_countParts cX3_countParts 7 (none) :: tg) ({ frames := 6, cells := 0, slots := 0, locals := 142 })).room.locals := ⟨Nat.le_refl _, Nat.le_refl _⟩
  have hcs : 0 + 0 ≤ (headSpec (Cond.code yX3_countParts cX3_countParts 7 (none) :: tg) ({ frames := 6, cells := 0, slots := 0, locals := 142 })).room.cells ∧ 0 + 0 ≤ (headSpec (Cond.code yX3_countParts cX3_countParts 7 (none) :: tg) ({ frames := 6, cells := 0, slots := 0, locals := 142 })).room.slots := ⟨Nat.zero_le _, Nat.zero_le _⟩
  have hl := lv_entry ([.ref x, .ref (qa a), .int (sv), .int (ov)]) (n := 7) (Nat.le_of_ble_eq_true rfl)
  rw [lg_entry_eq]
  generalize (lg_sl ([.ref x, .ref (qa a), .int (sv), .int (ov)]) ++ List.replicate (7 - (lg_sl ([.ref x, .ref (qa a), .int (sv), .int (ov)])).length) Slot.unset).toArray = ls at hl ⊢
  have hl : lv_has ls 7 [(0, .ref x), (1, .ref (qa a)), (2, .int (sv)), (3, .int (ov))] := hl
  refine lv_aload_n hx hb dX3_countParts_0 rfl (lv_at hl 0 rfl) ?_
  refine wd_get (ci := 4) (v := .ref (x + 1)) (C := RX3) (T := TX3) (N := 6) hx hb hts iwX3 hown hK.1 hP (xW_0) rfl 0 (by decide) (hts _ (tg_tail _ tw_69)) (fun _ h9 => h9) rfl dX3_countParts_1 ?_
  refine wd_get (ci := 3) (v := .int (no)) (C := RX2) (T := TX2) (N := 3) hx hb hts iwX2 hown hK.1 hP (xW_1) rfl 1 (by decide) (hts _ (tg_tail _ tw_29)) (fun _ h9 => h9) rfl dX3_countParts_4 ?_
  refine lv_iload_n hx hb dX3_countParts_7 rfl (lv_at hl 2 rfl) ?_
  refine cr_Si (As := [.int (sv)]) (rest := [.int (no)]) ⟨hx, hb, hml, hown, hts⟩ (c_X3_bitOf l g s0 (xW g w x (nI P) mo no (nI Z) rs wr lk ps fs ss ds lv) sv) (cw_S 1 hts tg_tail tw_192 tw_193 tw_1 tw_194 rfl rfl (by decide +kernel) ⟨Nat.le_trans (by decide) hRm.1, Nat.le_trans (by decide) hRm.2⟩) hK hP h0s hS rfl hl.1 rfl (Nat.le_of_ble_eq_true rfl) dX3_countParts_8 hcs (fun r9 w9 H locs hw hP hS => ?_)
  obtain ⟨e_r9, hw9⟩ := hw
  rw [hw9] at hP
  subst e_r9
  refine lv_ior hx hb dX3_countParts_11 ?_
  refine lv_iload_n hx hb dX3_countParts_12 rfl (lv_at hl 3 rfl) ?_
  refine cr_Si (As := [.int (ov)]) (rest := [.int ((no) ||| ((if sv = -1 then nI 0 else (1 : Int32) <<< (sv &&& 31))))]) ⟨hx, hb, hml, hown, hts⟩ (c_X3_bitOf l g s0 (xW g w x (nI P) mo no (nI Z) rs wr lk ps fs ss ds lv) ov) (cw_S 1 hts tg_tail tw_192 tw_193 tw_1 tw_194 rfl rfl (by decide +kernel) ⟨Nat.le_trans (by decide) hRm.1, Nat.le_trans (by decide) hRm.2⟩) hK hP h0s hS rfl hl.1 rfl (Nat.le_of_ble_eq_true rfl) dX3_countParts_13 hcs (fun r9 w9 H locs hw hP hS => ?_)
  obtain ⟨e_r9, hw9⟩ := hw
  rw [hw9] at hP
  subst e_r9
  refine lv_ior hx hb dX3_countParts_16 ?_
  refine lv_istore (lv' := [(4, .int (((no) ||| ((if sv = -1 then nI 0 else (1 : Int32) <<< (sv &&& 31)))) ||| ((if ov = -1 then nI 0 else (1 : Int32) <<< (ov &&& 31))))), (0, .ref x), (1, .ref (qa a)), (2, .int (sv)), (3, .int (ov))]) hx hb dX3_countParts_17 hl (by decide) rfl (fun ls hl => ?_)
  refine lv_iconst (v := nI 1) hx hb dX3_countParts_19 (by decide) ?_
  refine lv_istore (lv' := [(5, .int (nI 1)), (4, .int (((no) ||| ((if sv = -1 then nI 0 else (1 : Int32) <<< (sv &&& 31)))) ||| ((if ov = -1 then nI 0 else (1 : Int32) <<< (ov &&& 31))))), (0, .ref x), (1, .ref (qa a)), (2, .int (sv)), (3, .int (ov))]) hx hb dX3_countParts_20 hl (by decide) rfl (fun ls hl => ?_)
  have hl : lv_has ls 7 [(0, .ref x), (1, .ref (qa a)), (2, .int (sv)), (3, .int (ov)), (4, .int (no ||| (if sv = -1 then nI 0 else (1 : Int32) <<< (sv &&& 31)) ||| (if ov = -1 then nI 0 else (1 : Int32) <<< (ov &&& 31)))), (5, .int (nI 1))] := lv_sub hl [2, 3, 4, 5, 1, 0] rfl
  refine lp_cp g s0 x hs0 mo no rs wr lk ps fs ss ds lv P hP4 Z qa KD LI ia ib PM hsh w (no ||| (if sv = -1 then nI 0 else (1 : Int32) <<< (sv &&& 31)) ||| (if ov = -1 then nI 0 else (1 : Int32) <<< (ov &&& 31))) a ha1 haP sv ov hx hb hml hown hts hK h0s hRm hcs ?_ (a + 1 + 1) 1 (by omega) (by omega) (by omega) w CS CG TF JF ⟨hpl, hcc, fun _ _ => rfl, fun u h1 h2 _ => absurd h2 (by omega)⟩ _ _ ls hP hS hl
  intro w3 CS3 CG3 TF3 JF3 H locs ls hI hP hS
  exact W.vret hx hb hr (fun t9 ht hW => ⟨⟨(xW g w3 x (nI P) mo no (nI Z) rs wr lk ps fs ss ds lv), rfl, ⟨w3, CS3, CG3, TF3, JF3, rfl, hI⟩, cB_of ht hP⟩, hS.F ht⟩) hS.2.2 dX3_countParts_70

