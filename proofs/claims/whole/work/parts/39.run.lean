/-! THE CLASS: run, plain -/
def enF (v : Int32) (lo hi : Nat) : Prop := lo ≤ hi + 1 ∧ hi < 32 ∧ ((v = -1 ∧ lo = 0 ∧ hi = 31) ∨ (v = nI lo ∧ hi = lo ∧ lo < 32))
theorem nI_m1 {k : Nat} (h : k < 2 ^ 31) : ¬ nI k = -1 := by
  intro q
  have h1 := congrArg Int32.toInt q
  rw [nI_toInt h] at h1
  have h2 : (-1 : Int32).toInt = -1 := by decide
  omega
theorem enF_of {v : Int32} (h : v = -1 ∨ (0 ≤ v ∧ v < nI 32)) : ∃ lo hi, enF v lo hi := by
  rcases h with h | h
  · exact ⟨0, 31, by omega, by omega, Or.inl ⟨h, rfl, rfl⟩⟩
  · obtain ⟨k, hk, e⟩ := ix_n (n := 32) (by decide) h
    exact ⟨k, k, by omega, by omega, Or.inr ⟨e, rfl, hk⟩⟩
theorem enF_lo {v : Int32} {lo hi : Nat} (h : enF v lo hi) : (if v = -1 then nI 0 else v) = nI lo := by
  obtain ⟨h1, h2, h3 | h3⟩ := h
  · rw [if_pos h3.1, h3.2.1]
  · rw [h3.1, if_neg (nI_m1 (by omega))]
theorem enF_hi {v : Int32} {lo hi : Nat} (h : enF v lo hi) : (if v = -1 then nI 31 else v) = nI hi := by
  obtain ⟨h1, h2, h3 | h3⟩ := h
  · rw [if_pos h3.1, h3.2.2]
  · rw [h3.1, if_neg (nI_m1 (by omega)), h3.2.1]
theorem bw2_le {G : Nat → Nat} (h : mB G) {x ol n0 : Nat} : ∀ i, bw2 G x ol n0 i ≤ n0 + i * 1000000 := by
  intro i
  induction i with
  | zero => rw [bw2]; omega
  | succ i ih =>
    rw [bw2]
    have := h (x * 32 + (ol + i))
    omega
theorem bw1_le {G : Nat → Nat} (h : mB G) {sl ol oc : Nat} (ho : oc ≤ 32) : ∀ i, bw1 G sl ol oc i ≤ i * 32000000 := by
  intro i
  induction i with
  | zero => rw [bw1]; omega
  | succ i ih =>
    rw [bw1]
    have h1 := bw2_le h (x := sl + i) (ol := ol) (n0 := bw1 G sl ol oc i) oc
    have h2 : oc * 1000000 ≤ 32000000 := by omega
    omega
set_option maxHeartbeats 4000000 in
set_option maxRecDepth 100000 in
theorem c_X3_run (l : Launch) (g : gX) (s0 : Nat) (w : wd_M) (x : Nat) (hs0 : s0 ≤ x) (mo : Int32) (no : Int32) (rs : Int32) (wr : Int32) (lk : Nat → Int32) (ps : Nat → Option Nat) (fs : Nat → Int32) (ss : Nat → Int32) (ds : Nat → Int32) (lv : Nat → Int32) (P : Nat) (hP4 : P ≤ 40) (Z : Nat) (qa : Nat → Nat) (KD LI : Nat → Int32) (ia ib PM : Nat → Nat) (hsh : shp P qa ia ib PM) (CS CG : Nat → Int32) (TF : Nat → Nat → Nat) (JF : Nat → Nat → Int32) (hpl : poolN g w x P ps qa KD LI ia ib PM CS CG TF JF) (hcc : cch P Z KD LI ia ib lk CS CG TF JF) (pv sv ov : Int32) : Met l yX3_run (Cond.code yX3_run cX3_run 6 (some .int) :: tg) ({ frames := 7, cells := 0, slots := 0, locals := 168 }) (cP g s0 (xW g w x (nI P) mo no (nI Z) rs wr lk ps fs ss ds lv) [.ref x, .int (pv), .int (sv), .int (ov)]) (cI g s0 (fun r w' => (¬ (nI 1 ≤ pv ∧ pv ≤ nI P) ∧ r = -1 ∧ w' = (xW g w x (nI P) mo no (nI Z) rs wr lk ps fs ss ds lv)) ∨ ((nI 1 ≤ pv ∧ pv ≤ nI P) ∧ ¬ ((sv = -1 ∨ (0 ≤ sv ∧ sv < nI 32)) ∧ (ov = -1 ∨ (0 ≤ ov ∧ ov < nI 32))) ∧ r = -2 ∧ w' = (xW g w x (nI P) mo no (nI Z) rs wr lk ps fs ss ds lv)) ∨ (∃ u sl sh ol oh, 1 ≤ u ∧ u ≤ P ∧ pv = nI u ∧ enF sv sl sh ∧ enF ov ol oh ∧ ∃ w3 CS3 CG3 TF3 JF3, cpI g w x P ps qa KD LI ia ib PM lk Z (no ||| (if sv = -1 then nI 0 else (1 : Int32) <<< (sv &&& 31)) ||| (if ov = -1 then nI 0 else (1 : Int32) <<< (ov &&& 31))) u (u + 1) w3 CS3 CG3 TF3 JF3 ∧ ((gby (PM u) KD JF3 mo u = true ∧ r = -5 ∧ w' = (xW g w3 x (nI P) mo no (nI Z) rs wr lk ps fs ss ds lv)) ∨ (gby (PM u) KD JF3 mo u = false ∧ 2000 < bw1 (TF3 u) sl ol (oh + 1 - ol) (sh + 1 - sl) ∧ r = -4 ∧ w' = (xW g w3 x (nI P) mo no (nI Z) rs wr lk ps fs ss ds lv)) ∨ (gby (PM u) KD JF3 mo u = false ∧ bw1 (TF3 u) sl ol (oh + 1 - ol) (sh + 1 - sl) ≤ 2000 ∧ r = nI (bw1 (TF3 u) sl ol (oh + 1 - ol) (sh + 1 - sl)) ∧ w' = (xW g w3 x (nI P) mo no (nI Z) (nI ((kr1 (KD u) (ia u) (JF3 (ia u)) (JF3 u) (TF3 u) sl ol (oh + 1 - ol) ((fs, ss, ds, 0), lv) (sh + 1 - sl)).1.2.2.2)) (nI 1) lk ps ((kr1 (KD u) (ia u) (JF3 (ia u)) (JF3 u) (TF3 u) sl ol (oh + 1 - ol) ((fs, ss, ds, 0), lv) (sh + 1 - sl)).1.1) ((kr1 (KD u) (ia u) (JF3 (ia u)) (JF3 u) (TF3 u) sl ol (oh + 1 - ol) ((fs, ss, ds, 0), lv) (sh + 1 - sl)).1.2.1) ((kr1 (KD u) (ia u) (JF3 (ia u)) (JF3 u) (TF3 u) sl ol (oh + 1 - ol) ((fs, ss, ds, 0), lv) (sh + 1 - sl)).1.2.2.1) ((kr1 (KD u) (ia u) (JF3 (ia u)) (JF3 u) (TF3 u) sl ol (oh + 1 - ol) ((fs, ss, ds, 0), lv) (sh + 1 - sl)).2))))))) 0 0 (cA s0) := by
  refine Met.ofW (cc := cX3_run) (maxL := 6) (ret := some .int) (by decide) rfl ?_
  intro p e s m args below meth c s₁ B9 hml hv
  obtain ⟨rfl, h0s, hP, hK⟩ := hv
  have hx := B9.exec
  have hb := B9.bytes
  have hr := B9.returns
  have hts := atoms_spec (ws := Cond.code yX3_run cX3_run 6 (some .int) :: tg) B9.pre
  have hown : s.vm.findClass RX3 = some m.cls := findClass_of_methodNamed B9.named
  have hlocks := B9.notSynchronized
  have hS : gS s0 s.heap s.heap [] := va_S.rf
  have hRm : 7 ≤ (headSpec (Cond.code yX3_run cX3_run 6 (some .int) :: tg) ({ frames := 7, cells := 0, slots := 0, locals := 168 })).room.frames ∧ 168 ≤ (headSpec (Cond.code yX3_run cX3_run 6 (some .int) :: tg) ({ frames := 7, cells := 0, slots := 0, locals := 168 })).room.locals := ⟨Nat.le_refl _, Nat.le_refl _⟩
  have hcs : 0 + 0 ≤ (headSpec (Cond.code yX3_run cX3_run 6 (some .int) :: tg) ({ frames := 7, cells := 0, slots := 0, locals := 168 })).room.cells ∧ 0 + 0 ≤ (headSpec (Cond.code yX3_run cX3_run 6 (some .int) :: tg) ({ frames := 7, cells := 0, slots := 0, locals := 168 })).room.slots := ⟨Nat.zero_le _, Nat.zero_le _⟩
  have hl := lv_entry ([.ref x, .int (pv), .int (sv), .int (ov)]) (n := 6) (Nat.le_of_ble_eq_true rfl)
  rw [lg_entry_eq]
  generalize (lg_sl ([.ref x, .int (pv), .int (sv), .int (ov)]) ++ List.replicate (6 - (lg_sl ([.ref x, .int (pv), .int (sv), .int (ov)])).length) Slot.unset).toArray = ls at hl ⊢
  have hl : lv_has ls 6 [(0, .ref x), (1, .int (pv)), (2, .int (sv)), (3, .int (ov))] := hl
  refine lv_aload_n hx hb dX3_run_0 rfl (lv_at hl 0 rfl) ?_
  refine lv_iload_n hx hb dX3_run_1 rfl (lv_at hl 1 rfl) ?_
  refine cr_Vo (As := [.int (pv)]) (rest := []) ⟨hx, hb, hml, hown, hts⟩ (c_X3_known l g s0  w x hs0 mo no (nI Z) rs wr lk ps fs ss ds lv P hP4 (pv)) (cw_V 1 hts tg_tail tw_155 tw_157 tp_1 tw_1 tw_158 rfl rfl (by decide +kernel) ⟨Nat.le_trans (by decide) hRm.1, Nat.le_trans (by decide) hRm.2⟩) hK hP h0s hS (xW_0) rfl rfl rfl hl.1 rfl (Nat.le_of_ble_eq_true rfl) dX3_run_2 hcs (fun r9 w9 H locs hw hP hS => ?_)
  rcases hw with ⟨n_u, e_r9, hw9⟩ | ⟨u, h1_u, h2_u, v_u, e_r9, hw9⟩
  · rw [hw9] at hP
    subst e_r9
    show W p l e _ s m _ below meth c H locs _ _ _ (F0 m 5 ls (.null :: []))
    refine lv_astoreN (lv' := [(4, .null), (0, .ref x), (1, .int (pv)), (2, .int (sv)), (3, .int (ov))]) hx hb dX3_run_5 hl (by decide) rfl (fun ls hl => ?_)
    refine lv_aloadN hx hb dX3_run_7 (lv_at hl 0 rfl) ?_
    refine lv_ifnonnullN hx hb dX3_run_9 ?_
    refine lv_iconst (v := (-1)) hx hb dX3_run_12 (by decide) ?_
    exact W.iret (v := (-1)) hx hb hr (fun t9 ht hW => ⟨⟨_, (xW g w x (nI P) mo no (nI Z) rs wr lk ps fs ss ds lv), rfl, Or.inl ⟨n_u, rfl, rfl⟩, cB_of ht hP⟩, hS.F ht⟩) hS.2.2 dX3_run_13
  · rw [hw9] at hP
    obtain ⟨a1_u, a2_u, a3_u, a4_u, a5_u, a6_u⟩ := hpl u h1_u h2_u
    rw [a1_u] at e_r9
    subst e_r9
    show W p l e _ s m _ below meth c H locs _ _ _ (F0 m 5 ls (.ref (qa u) :: []))
    dsimp only at a4_u
    have hk9 : nI 1 ≤ pv ∧ pv ≤ nI P := by rw [v_u]; exact ⟨nI_le h1_u (by omega), nI_le h2_u (by omega)⟩
    refine lv_astore (lv' := [(4, .ref (qa u)), (0, .ref x), (1, .int (pv)), (2, .int (sv)), (3, .int (ov))]) hx hb dX3_run_5 hl (by decide) rfl (fun ls hl => ?_)
    refine lv_aload hx hb dX3_run_7 (lv_at hl 0 rfl) ?_
    refine lv_ifnonnull (tgt := 14) hx hb dX3_run_9 (by decide) ?_
    refine lv_iload_n hx hb dX3_run_14 rfl (lv_at hl 3 rfl) ?_
    refine cr_Si (As := [.int (sv)]) (rest := []) ⟨hx, hb, hml, hown, hts⟩ (c_X3_isEnd l g s0 (xW g w x (nI P) mo no (nI Z) rs wr lk ps fs ss ds lv) sv) (cw_S 1 hts tg_tail tw_185 tw_186 tw_1 tw_187 rfl rfl (by decide +kernel) ⟨Nat.le_trans (by decide) hRm.1, Nat.le_trans (by decide) hRm.2⟩) hK hP h0s hS rfl hl.1 rfl (Nat.le_of_ble_eq_true rfl) dX3_run_15 hcs (fun r9 w9 H locs hw hP hS => ?_)
    obtain ⟨e_r9, hw9⟩ := hw
    rw [hw9] at hP
    subst e_r9
    refine lv_if_eq (tgt := 28) hx hb dX3_run_18 (by decide) (fun c_18 => ?_) (fun c_18 => ?_)
    · have c_18 := zB_0.mp c_18
      refine lv_bipush (v := (-2)) hx hb dX3_run_28 (by decide) ?_
      exact W.iret (v := (-2)) hx hb hr (fun t9 ht hW => ⟨⟨_, (xW g w x (nI P) mo no (nI Z) rs wr lk ps fs ss ds lv), rfl, Or.inr (Or.inl ⟨hk9, fun q9 => c_18 q9.1, rfl, rfl⟩), cB_of ht hP⟩, hS.F ht⟩) hS.2.2 dX3_run_30
    · have c_18 := zB_1.mp c_18
      refine lv_iload_n hx hb dX3_run_21 rfl (lv_at hl 4 rfl) ?_
      refine cr_Si (As := [.int (ov)]) (rest := []) ⟨hx, hb, hml, hown, hts⟩ (c_X3_isEnd l g s0 (xW g w x (nI P) mo no (nI Z) rs wr lk ps fs ss ds lv) ov) (cw_S 1 hts tg_tail tw_185 tw_186 tw_1 tw_187 rfl rfl (by decide +kernel) ⟨Nat.le_trans (by decide) hRm.1, Nat.le_trans (by decide) hRm.2⟩) hK hP h0s hS rfl hl.1 rfl (Nat.le_of_ble_eq_true rfl) dX3_run_22 hcs (fun r9 w9 H locs hw hP hS => ?_)
      obtain ⟨e_r9, hw9⟩ := hw
      rw [hw9] at hP
      subst e_r9
      refine lv_if_ne (tgt := 31) hx hb dX3_run_25 (by decide) (fun c_25 => ?_) (fun c_25 => ?_)
      · have c_25 := zB_1.mp c_25
        refine lv_aload_n hx hb dX3_run_31 rfl (lv_at hl 1 rfl) ?_
        refine lv_aload hx hb dX3_run_32 (lv_at hl 0 rfl) ?_
        refine lv_iload_n hx hb dX3_run_34 rfl (lv_at hl 3 rfl) ?_
        refine lv_iload_n hx hb dX3_run_35 rfl (lv_at hl 4 rfl) ?_
        refine cr_Vv (As := [.ref (qa u), .int (sv), .int (ov)]) (rest := []) ⟨hx, hb, hml, hown, hts⟩ (c_X3_countParts l g s0  w x hs0 mo no rs wr lk ps fs ss ds lv P hP4 Z qa KD LI ia ib PM hsh u h1_u h2_u CS CG TF JF hpl hcc sv ov) (cw_V 3 hts tg_tail tw_188 tw_190 tp_4 tw_1 tw_191 rfl rfl (by decide +kernel) ⟨Nat.le_trans (by decide) hRm.1, Nat.le_trans (by decide) hRm.2⟩) hK hP h0s hS (xW_0) rfl rfl rfl hl.1 rfl (Nat.le_of_ble_eq_true rfl) dX3_run_36 hcs (fun w9 H locs hw hP hS => ?_)
        obtain ⟨w3, CS3, CG3, TF3, JF3, hw9, hI⟩ := hw
        rw [hw9] at hP
        obtain ⟨b1, b2, b3, b4, b5, b6⟩ := hI.1 u h1_u h2_u
        dsimp only at b4
        obtain ⟨m1, -, -⟩ := hI.2.1 u h1_u h2_u
        obtain ⟨sl, sh, hsE⟩ := enF_of c_18
        obtain ⟨ol, oh, hoE⟩ := enF_of c_25
        have hN9 : bw1 (TF3 u) sl ol (oh + 1 - ol) (sh + 1 - sl) ≤ (sh + 1 - sl) * 32000000 := bw1_le m1 (by have := hoE.2.1; omega) _
        have hN8 : (sh + 1 - sl) * 32000000 ≤ 1024000000 := by have := hsE.2.1; omega
        refine lv_aload_n hx hb dX3_run_39 rfl (lv_at hl 1 rfl) ?_
        refine lv_aload hx hb dX3_run_40 (lv_at hl 0 rfl) ?_
        refine cr_Vi (As := [.ref (qa u)]) (rest := []) ⟨hx, hb, hml, hown, hts⟩ (c_X3_goesBeyond l g s0  w3 x hs0 mo no rs wr lk ps fs ss ds lv P hP4 Z qa KD LI ia ib PM hsh CS3 CG3 TF3 JF3 hI.1 u h1_u h2_u) (cw_V 1 hts tg_tail tw_267 tw_269 tp_18 tw_1 tw_270 rfl rfl (by decide +kernel) ⟨Nat.le_trans (by decide) hRm.1, Nat.le_trans (by decide) hRm.2⟩) hK hP h0s hS (xW_0) rfl rfl rfl hl.1 rfl (Nat.le_of_ble_eq_true rfl) dX3_run_42 hcs (fun r9 w9 H locs hw hP hS => ?_)
        obtain ⟨e_r9, hw9⟩ := hw
        rw [hw9] at hP
        subst e_r9
        refine lv_if_eq (tgt := 51) hx hb dX3_run_45 (by decide) (fun c_45 => ?_) (fun c_45 => ?_)
        · have c_45 := zB_0.mp c_45
          refine lv_aload hx hb dX3_run_51 (lv_at hl 0 rfl) ?_
          refine lv_iload_n hx hb dX3_run_53 rfl (lv_at hl 3 rfl) ?_
          refine lv_iload_n hx hb dX3_run_54 rfl (lv_at hl 4 rfl) ?_
          refine cr_Vi (As := [.int (sv), .int (ov)]) (rest := []) ⟨hx, hb, hml, hown, hts⟩ (c_X0_countBetween l g s0 (xW g w3 x (nI P) mo no (nI Z) rs wr lk ps fs ss ds lv) (qa u) (nI u) (KD u) (LI u) (oN qa (ia u)) (oN qa (ib u)) (lN (PM u)) (CS3 u) (CG3 u) (TF3 u) ((xW_out (by omega)).trans b4) ((xW_out (by omega)).trans b5) sv ov sl sh ol oh (enF_lo hsE) (enF_hi hsE) hsE.1 hsE.2.1 (enF_lo hoE) (enF_hi hoE) hoE.1 hoE.2.1) (cw_V 2 hts tg_tail tw_276 tw_277 tw_278 tw_5 tw_279 rfl rfl (by decide +kernel) ⟨Nat.le_trans (by decide) hRm.1, Nat.le_trans (by decide) hRm.2⟩) hK hP h0s hS ((xW_out (by omega)).trans b4) rfl rfl rfl hl.1 rfl (Nat.le_of_ble_eq_true rfl) dX3_run_55 hcs (fun r9 w9 H locs hw hP hS => ?_)
          obtain ⟨e_r9, hw9⟩ := hw
          rw [hw9] at hP
          subst e_r9
          refine lv_istore (lv' := [(5, .int (nI (bw1 (TF3 u) sl ol (oh + 1 - ol) (sh + 1 - sl)))), (4, .ref (qa u)), (0, .ref x), (1, .int (pv)), (2, .int (sv)), (3, .int (ov))]) hx hb dX3_run_58 hl (by decide) rfl (fun ls hl => ?_)
          refine lv_iload hx hb dX3_run_60 (lv_at hl 0 rfl) ?_
          refine lv_sipush (v := nI 2000) hx hb dX3_run_62 (by decide +kernel) ?_
          refine lv_icmp_le (tgt := 71) hx hb dX3_run_65 (by decide) (fun c_65 => ?_) (fun c_65 => ?_)
          · have c_65 := (nI_leI (a := (bw1 (TF3 u) sl ol (oh + 1 - ol) (sh + 1 - sl))) (b := 2000) (by omega) (by omega)).mp c_65
            refine lv_aload_n hx hb dX3_run_71 rfl (lv_at hl 2 rfl) ?_
            refine lv_aload hx hb dX3_run_72 (lv_at hl 1 rfl) ?_
            refine lv_iload_n hx hb dX3_run_74 rfl (lv_at hl 4 rfl) ?_
            refine lv_iload_n hx hb dX3_run_75 rfl (lv_at hl 5 rfl) ?_
            refine cr_Vv (As := [.ref (qa u), .int (sv), .int (ov)]) (rest := []) ⟨hx, hb, hml, hown, hts⟩ (c_X3_keepRows l g s0  w3 x hs0 mo no rs wr lk ps fs ss ds lv P hP4 Z qa KD LI ia ib PM hsh CS3 CG3 TF3 JF3 hI.1 u h1_u h2_u sv ov sl sh ol oh (enF_lo hsE) (enF_hi hsE) hsE.1 hsE.2.1 (enF_lo hoE) (enF_hi hoE) hoE.1 hoE.2.1 (by omega)) (cw_V 3 hts tg_tail tw_286 tw_288 tp_19 tw_1 tw_289 rfl rfl (by decide +kernel) ⟨Nat.le_trans (by decide) hRm.1, Nat.le_trans (by decide) hRm.2⟩) hK hP h0s hS (xW_0) rfl rfl rfl hl.1 rfl (Nat.le_of_ble_eq_true rfl) dX3_run_76 hcs (fun w9 H locs hw hP hS => ?_)
            rw [hw] at hP
            refine lv_iload hx hb dX3_run_79 (lv_at hl 0 rfl) ?_
            exact W.iret (v := nI (bw1 (TF3 u) sl ol (oh + 1 - ol) (sh + 1 - sl))) hx hb hr (fun t9 ht hW => ⟨⟨_, (xW g w3 x (nI P) mo no (nI Z) (nI ((kr1 (KD u) (ia u) (JF3 (ia u)) (JF3 u) (TF3 u) sl ol (oh + 1 - ol) ((fs, ss, ds, 0), lv) (sh + 1 - sl)).1.2.2.2)) (nI 1) lk ps ((kr1 (KD u) (ia u) (JF3 (ia u)) (JF3 u) (TF3 u) sl ol (oh + 1 - ol) ((fs, ss, ds, 0), lv) (sh + 1 - sl)).1.1) ((kr1 (KD u) (ia u) (JF3 (ia u)) (JF3 u) (TF3 u) sl ol (oh + 1 - ol) ((fs, ss, ds, 0), lv) (sh + 1 - sl)).1.2.1) ((kr1 (KD u) (ia u) (JF3 (ia u)) (JF3 u) (TF3 u) sl ol (oh + 1 - ol) ((fs, ss, ds, 0), lv) (sh + 1 - sl)).1.2.2.1) ((kr1 (KD u) (ia u) (JF3 (ia u)) (JF3 u) (TF3 u) sl ol (oh + 1 - ol) ((fs, ss, ds, 0), lv) (sh + 1 - sl)).2)), rfl, Or.inr (Or.inr ⟨u, sl, sh, ol, oh, h1_u, h2_u, v_u, hsE, hoE, w3, CS3, CG3, TF3, JF3, hI, Or.inr (Or.inr ⟨Bool.eq_false_iff.mpr c_45, by omega, rfl, rfl⟩)⟩), cB_of ht hP⟩, hS.F ht⟩) hS.2.2 dX3_run_81
          · have c_65 := mt (nI_leI (a := (bw1 (TF3 u) sl ol (oh + 1 - ol) (sh + 1 - sl))) (b := 2000) (by omega) (by omega)).mpr c_65
            refine lv_bipush (v := (-4)) hx hb dX3_run_68 (by decide) ?_
            exact W.iret (v := (-4)) hx hb hr (fun t9 ht hW => ⟨⟨_, (xW g w3 x (nI P) mo no (nI Z) rs wr lk ps fs ss ds lv), rfl, Or.inr (Or.inr ⟨u, sl, sh, ol, oh, h1_u, h2_u, v_u, hsE, hoE, w3, CS3, CG3, TF3, JF3, hI, Or.inr (Or.inl ⟨Bool.eq_false_iff.mpr c_45, by omega, rfl, rfl⟩)⟩), cB_of ht hP⟩, hS.F ht⟩) hS.2.2 dX3_run_70
        · have c_45 := zB_1.mp c_45
          refine lv_bipush (v := (-5)) hx hb dX3_run_48 (by decide) ?_
          exact W.iret (v := (-5)) hx hb hr (fun t9 ht hW => ⟨⟨_, (xW g w3 x (nI P) mo no (nI Z) rs wr lk ps fs ss ds lv), rfl, Or.inr (Or.inr ⟨u, sl, sh, ol, oh, h1_u, h2_u, v_u, hsE, hoE, w3, CS3, CG3, TF3, JF3, hI, Or.inl ⟨c_45, rfl, rfl⟩⟩), cB_of ht hP⟩, hS.F ht⟩) hS.2.2 dX3_run_50
      · have c_25 := zB_0.mp c_25
        refine lv_bipush (v := (-2)) hx hb dX3_run_28 (by decide) ?_
        exact W.iret (v := (-2)) hx hb hr (fun t9 ht hW => ⟨⟨_, (xW g w x (nI P) mo no (nI Z) rs wr lk ps fs ss ds lv), rfl, Or.inr (Or.inl ⟨hk9, fun q9 => c_25 q9.2, rfl, rfl⟩), cB_of ht hP⟩, hS.F ht⟩) hS.2.2 dX3_run_30

set_option maxHeartbeats 4000000 in
set_option maxRecDepth 100000 in
theorem c_X3_plain (l : Launch) (g : gX) (s0 : Nat) (w : wd_M) (x : Nat) (hs0 : s0 ≤ x) (mo : Int32) (no : Int32) (rs : Int32) (wr : Int32) (lk : Nat → Int32) (ps : Nat → Option Nat) (fs : Nat → Int32) (ss : Nat → Int32) (ds : Nat → Int32) (lv : Nat → Int32) (P : Nat) (hP4 : P ≤ 40) (Z : Nat) (qa : Nat → Nat) (KD LI : Nat → Int32) (ia ib PM : Nat → Nat) (hsh : shp P qa ia ib PM) (CS CG : Nat → Int32) (TF : Nat → Nat → Nat) (JF : Nat → Nat → Int32) (hpl : poolN g w x P ps qa KD LI ia ib PM CS CG TF JF) (hcc : cch P Z KD LI ia ib lk CS CG TF JF) (pv sv ov : Int32) : Met l yX3_plain (Cond.code yX3_plain cX3_plain 5 (some .int) :: tg) ({ frames := 7, cells := 0, slots := 0, locals := 168 }) (cP g s0 (xW g w x (nI P) mo no (nI Z) rs wr lk ps fs ss ds lv) [.ref x, .int (pv), .int (sv), .int (ov)]) (cI g s0 (fun r w' => (¬ (nI 1 ≤ pv ∧ pv ≤ nI P) ∧ r = -1 ∧ w' = (xW g w x (nI P) mo no (nI Z) rs wr lk ps fs ss ds lv)) ∨ ((nI 1 ≤ pv ∧ pv ≤ nI P) ∧ ¬ ((sv = -1 ∨ (0 ≤ sv ∧ sv < nI 32)) ∧ (ov = -1 ∨ (0 ≤ ov ∧ ov < nI 32))) ∧ r = -2 ∧ w' = (xW g w x (nI P) mo no (nI Z) rs wr lk ps fs ss ds lv)) ∨ (∃ u sl sh ol oh, 1 ≤ u ∧ u ≤ P ∧ pv = nI u ∧ enF sv sl sh ∧ enF ov ol oh ∧ ∃ w3 CS3 CG3 TF3 JF3, cpI g w x P ps qa KD LI ia ib PM lk Z (no ||| (if sv = -1 then nI 0 else (1 : Int32) <<< (sv &&& 31)) ||| (if ov = -1 then nI 0 else (1 : Int32) <<< (ov &&& 31))) u (u + 1) w3 CS3 CG3 TF3 JF3 ∧ (r = nI (bw1 (TF3 u) sl ol (oh + 1 - ol) (sh + 1 - sl)) ∧ w' = (xW g w3 x (nI P) mo no (nI Z) rs wr lk ps fs ss ds lv))))) 0 0 (cA s0) := by
  refine Met.ofW (cc := cX3_plain) (maxL := 5) (ret := some .int) (by decide) rfl ?_
  intro p e s m args below meth c s₁ B9 hml hv
  obtain ⟨rfl, h0s, hP, hK⟩ := hv
  have hx := B9.exec
  have hb := B9.bytes
  have hr := B9.returns
  have hts := atoms_spec (ws := Cond.code yX3_plain cX3_plain 5 (some .int) :: tg) B9.pre
  have hown : s.vm.findClass RX3 = some m.cls := findClass_of_methodNamed B9.named
  have hlocks := B9.notSynchronized
  have hS : gS s0 s.heap s.heap [] := va_S.rf
  have hRm : 7 ≤ (headSpec (Cond.code yX3_plain cX3_plain 5 (some .int) :: tg) ({ frames := 7, cells := 0, slots := 0, locals := 168 })).room.frames ∧ 168 ≤ (headSpec (Cond.code yX3_plain cX3_plain 5 (some .int) :: tg) ({ frames := 7, cells := 0, slots := 0, locals := 168 })).room.locals := ⟨Nat.le_refl _, Nat.le_refl _⟩
  have hcs : 0 + 0 ≤ (headSpec (Cond.code yX3_plain cX3_plain 5 (some .int) :: tg) ({ frames := 7, cells := 0, slots := 0, locals := 168 })).room.cells ∧ 0 + 0 ≤ (headSpec (Cond.code yX3_plain cX3_plain 5 (some .int) :: tg) ({ frames := 7, cells := 0, slots := 0, locals := 168 })).room.slots := ⟨Nat.zero_le _, Nat.zero_le _⟩
  have hl := lv_entry ([.ref x, .int (pv), .int (sv), .int (ov)]) (n := 5) (Nat.le_of_ble_eq_true rfl)
  rw [lg_entry_eq]
  generalize (lg_sl ([.ref x, .int (pv), .int (sv), .int (ov)]) ++ List.replicate (5 - (lg_sl ([.ref x, .int (pv), .int (sv), .int (ov)])).length) Slot.unset).toArray = ls at hl ⊢
  have hl : lv_has ls 5 [(0, .ref x), (1, .int (pv)), (2, .int (sv)), (3, .int (ov))] := hl
  refine lv_aload_n hx hb dX3_plain_0 rfl (lv_at hl 0 rfl) ?_
  refine lv_iload_n hx hb dX3_plain_1 rfl (lv_at hl 1 rfl) ?_
  refine cr_Vo (As := [.int (pv)]) (rest := []) ⟨hx, hb, hml, hown, hts⟩ (c_X3_known l g s0  w x hs0 mo no (nI Z) rs wr lk ps fs ss ds lv P hP4 (pv)) (cw_V 1 hts tg_tail tw_155 tw_157 tp_1 tw_1 tw_158 rfl rfl (by decide +kernel) ⟨Nat.le_trans (by decide) hRm.1, Nat.le_trans (by decide) hRm.2⟩) hK hP h0s hS (xW_0) rfl rfl rfl hl.1 rfl (Nat.le_of_ble_eq_true rfl) dX3_plain_2 hcs (fun r9 w9 H locs hw hP hS => ?_)
  rcases hw with ⟨n_u, e_r9, hw9⟩ | ⟨u, h1_u, h2_u, v_u, e_r9, hw9⟩
  · rw [hw9] at hP
    subst e_r9
    show W p l e _ s m _ below meth c H locs _ _ _ (F0 m 5 ls (.null :: []))
    refine lv_astoreN (lv' := [(4, .null), (0, .ref x), (1, .int (pv)), (2, .int (sv)), (3, .int (ov))]) hx hb dX3_plain_5 hl (by decide) rfl (fun ls hl => ?_)
    refine lv_aloadN hx hb dX3_plain_7 (lv_at hl 0 rfl) ?_
    refine lv_ifnonnullN hx hb dX3_plain_9 ?_
    refine lv_iconst (v := (-1)) hx hb dX3_plain_12 (by decide) ?_
    exact W.iret (v := (-1)) hx hb hr (fun t9 ht hW => ⟨⟨_, (xW g w x (nI P) mo no (nI Z) rs wr lk ps fs ss ds lv), rfl, Or.inl ⟨n_u, rfl, rfl⟩, cB_of ht hP⟩, hS.F ht⟩) hS.2.2 dX3_plain_13
  · rw [hw9] at hP
    obtain ⟨a1_u, a2_u, a3_u, a4_u, a5_u, a6_u⟩ := hpl u h1_u h2_u
    rw [a1_u] at e_r9
    subst e_r9
    show W p l e _ s m _ below meth c H locs _ _ _ (F0 m 5 ls (.ref (qa u) :: []))
    dsimp only at a4_u
    have hk9 : nI 1 ≤ pv ∧ pv ≤ nI P := by rw [v_u]; exact ⟨nI_le h1_u (by omega), nI_le h2_u (by omega)⟩
    refine lv_astore (lv' := [(4, .ref (qa u)), (0, .ref x), (1, .int (pv)), (2, .int (sv)), (3, .int (ov))]) hx hb dX3_plain_5 hl (by decide) rfl (fun ls hl => ?_)
    refine lv_aload hx hb dX3_plain_7 (lv_at hl 0 rfl) ?_
    refine lv_ifnonnull (tgt := 14) hx hb dX3_plain_9 (by decide) ?_
    refine lv_iload_n hx hb dX3_plain_14 rfl (lv_at hl 3 rfl) ?_
    refine cr_Si (As := [.int (sv)]) (rest := []) ⟨hx, hb, hml, hown, hts⟩ (c_X3_isEnd l g s0 (xW g w x (nI P) mo no (nI Z) rs wr lk ps fs ss ds lv) sv) (cw_S 1 hts tg_tail tw_185 tw_186 tw_1 tw_187 rfl rfl (by decide +kernel) ⟨Nat.le_trans (by decide) hRm.1, Nat.le_trans (by decide) hRm.2⟩) hK hP h0s hS rfl hl.1 rfl (Nat.le_of_ble_eq_true rfl) dX3_plain_15 hcs (fun r9 w9 H locs hw hP hS => ?_)
    obtain ⟨e_r9, hw9⟩ := hw
    rw [hw9] at hP
    subst e_r9
    refine lv_if_eq (tgt := 28) hx hb dX3_plain_18 (by decide) (fun c_18 => ?_) (fun c_18 => ?_)
    · have c_18 := zB_0.mp c_18
      refine lv_bipush (v := (-2)) hx hb dX3_plain_28 (by decide) ?_
      exact W.iret (v := (-2)) hx hb hr (fun t9 ht hW => ⟨⟨_, (xW g w x (nI P) mo no (nI Z) rs wr lk ps fs ss ds lv), rfl, Or.inr (Or.inl ⟨hk9, fun q9 => c_18 q9.1, rfl, rfl⟩), cB_of ht hP⟩, hS.F ht⟩) hS.2.2 dX3_plain_30
    · have c_18 := zB_1.mp c_18
      refine lv_iload_n hx hb dX3_plain_21 rfl (lv_at hl 4 rfl) ?_
      refine cr_Si (As := [.int (ov)]) (rest := []) ⟨hx, hb, hml, hown, hts⟩ (c_X3_isEnd l g s0 (xW g w x (nI P) mo no (nI Z) rs wr lk ps fs ss ds lv) ov) (cw_S 1 hts tg_tail tw_185 tw_186 tw_1 tw_187 rfl rfl (by decide +kernel) ⟨Nat.le_trans (by decide) hRm.1, Nat.le_trans (by decide) hRm.2⟩) hK hP h0s hS rfl hl.1 rfl (Nat.le_of_ble_eq_true rfl) dX3_plain_22 hcs (fun r9 w9 H locs hw hP hS => ?_)
      obtain ⟨e_r9, hw9⟩ := hw
      rw [hw9] at hP
      subst e_r9
      refine lv_if_ne (tgt := 31) hx hb dX3_plain_25 (by decide) (fun c_25 => ?_) (fun c_25 => ?_)
      · have c_25 := zB_1.mp c_25
        refine lv_aload_n hx hb dX3_plain_31 rfl (lv_at hl 1 rfl) ?_
        refine lv_aload hx hb dX3_plain_32 (lv_at hl 0 rfl) ?_
        refine lv_iload_n hx hb dX3_plain_34 rfl (lv_at hl 3 rfl) ?_
        refine lv_iload_n hx hb dX3_plain_35 rfl (lv_at hl 4 rfl) ?_
        refine cr_Vv (As := [.ref (qa u), .int (sv), .int (ov)]) (rest := []) ⟨hx, hb, hml, hown, hts⟩ (c_X3_countParts l g s0  w x hs0 mo no rs wr lk ps fs ss ds lv P hP4 Z qa KD LI ia ib PM hsh u h1_u h2_u CS CG TF JF hpl hcc sv ov) (cw_V 3 hts tg_tail tw_188 tw_190 tp_4 tw_1 tw_191 rfl rfl (by decide +kernel) ⟨Nat.le_trans (by decide) hRm.1, Nat.le_trans (by decide) hRm.2⟩) hK hP h0s hS (xW_0) rfl rfl rfl hl.1 rfl (Nat.le_of_ble_eq_true rfl) dX3_plain_36 hcs (fun w9 H locs hw hP hS => ?_)
        obtain ⟨w3, CS3, CG3, TF3, JF3, hw9, hI⟩ := hw
        rw [hw9] at hP
        obtain ⟨b1, b2, b3, b4, b5, b6⟩ := hI.1 u h1_u h2_u
        dsimp only at b4
        obtain ⟨m1, -, -⟩ := hI.2.1 u h1_u h2_u
        obtain ⟨sl, sh, hsE⟩ := enF_of c_18
        obtain ⟨ol, oh, hoE⟩ := enF_of c_25
        have hN9 : bw1 (TF3 u) sl ol (oh + 1 - ol) (sh + 1 - sl) ≤ (sh + 1 - sl) * 32000000 := bw1_le m1 (by have := hoE.2.1; omega) _
        have hN8 : (sh + 1 - sl) * 32000000 ≤ 1024000000 := by have := hsE.2.1; omega
        refine lv_aload hx hb dX3_plain_39 (lv_at hl 0 rfl) ?_
        refine lv_iload_n hx hb dX3_plain_41 rfl (lv_at hl 3 rfl) ?_
        refine lv_iload_n hx hb dX3_plain_42 rfl (lv_at hl 4 rfl) ?_
        refine cr_Vi (As := [.int (sv), .int (ov)]) (rest := []) ⟨hx, hb, hml, hown, hts⟩ (c_X0_countBetween l g s0 (xW g w3 x (nI P) mo no (nI Z) rs wr lk ps fs ss ds lv) (qa u) (nI u) (KD u) (LI u) (oN qa (ia u)) (oN qa (ib u)) (lN (PM u)) (CS3 u) (CG3 u) (TF3 u) ((xW_out (by omega)).trans b4) ((xW_out (by omega)).trans b5) sv ov sl sh ol oh (enF_lo hsE) (enF_hi hsE) hsE.1 hsE.2.1 (enF_lo hoE) (enF_hi hoE) hoE.1 hoE.2.1) (cw_V 2 hts tg_tail tw_276 tw_277 tw_278 tw_5 tw_279 rfl rfl (by decide +kernel) ⟨Nat.le_trans (by decide) hRm.1, Nat.le_trans (by decide) hRm.2⟩) hK hP h0s hS ((xW_out (by omega)).trans b4) rfl rfl rfl hl.1 rfl (Nat.le_of_ble_eq_true rfl) dX3_plain_43 hcs (fun r9 w9 H locs hw hP hS => ?_)
        obtain ⟨e_r9, hw9⟩ := hw
        rw [hw9] at hP
        subst e_r9
        exact W.iret (v := nI (bw1 (TF3 u) sl ol (oh + 1 - ol) (sh + 1 - sl))) hx hb hr (fun t9 ht hW => ⟨⟨_, (xW g w3 x (nI P) mo no (nI Z) rs wr lk ps fs ss ds lv), rfl, Or.inr (Or.inr ⟨u, sl, sh, ol, oh, h1_u, h2_u, v_u, hsE, hoE, w3, CS3, CG3, TF3, JF3, hI, rfl, rfl⟩), cB_of ht hP⟩, hS.F ht⟩) hS.2.2 dX3_plain_46
      · have c_25 := zB_0.mp c_25
        refine lv_bipush (v := (-2)) hx hb dX3_plain_28 (by decide) ?_
        exact W.iret (v := (-2)) hx hb hr (fun t9 ht hW => ⟨⟨_, (xW g w x (nI P) mo no (nI Z) rs wr lk ps fs ss ds lv), rfl, Or.inr (Or.inl ⟨hk9, fun q9 => c_25 q9.2, rfl, rfl⟩), cB_of ht hP⟩, hS.F ht⟩) hS.2.2 dX3_plain_30

