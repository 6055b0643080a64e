/-! THE CLASS: path -/
theorem tb_out {v : Int32} (h0 : ¬ v = nI 0) (h1 : ¬ v = nI 1) (h2 : ¬ v = nI 2) (h3 : ¬ v = nI 3) (h4 : ¬ v = nI 4) (h5 : ¬ v = nI 5) (h6 : ¬ v = nI 6) : v.toInt < 0 ∨ 6 < v.toInt := by
  rcases pk_ix v (n := 7) (by decide) with h | h | ⟨j, hj, rfl⟩
  · left
    rw [Int32.lt_iff_toInt_lt, Int32.toInt_zero] at h
    exact h
  · right
    rw [Int32.le_iff_toInt_le, nI_toInt (by decide)] at h
    omega
  · exfalso
    rcases (show j = 0 ∨ j = 1 ∨ j = 2 ∨ j = 3 ∨ j = 4 ∨ j = 5 ∨ j = 6 by omega) with rfl | rfl | rfl | rfl | rfl | rfl | rfl
    · exact h0 rfl
    · exact h1 rfl
    · exact h2 rfl
    · exact h3 rfl
    · exact h4 rfl
    · exact h5 rfl
    · exact h6 rfl
set_option maxHeartbeats 4000000 in
set_option maxRecDepth 100000 in
theorem c_X3_path (l : Launch) (g : gX) (s0 : Nat) (w : wd_M) (x : Nat) (hs0 : s0 ≤ x) (mo : Int32) (no : Int32) (sz : Int32) (rs : Int32) (wr : Int32) (lk : Nat → Int32) (ps : Nat → Option Nat) (fs : Nat → Int32) (ss : Nat → Int32) (ds : Nat → Int32) (lv : Nat → Int32) (P : Nat) (hP4 : P ≤ 40) (qa : Nat → Nat) (KD LI : Nat → Int32) (IN OT : Nat → Option Nat) (PM : Nat → Nat) (CS CG : Nat → Int32) (TF : Nat → Nat → Nat) (JF : Nat → Nat → Int32) (hpl : pool g w x P ps qa KD LI IN OT PM CS CG TF JF) (kd av bv : Int32) : Met l yX3_path (Cond.code yX3_path cX3_path 4 (some .int) :: tg) ({ frames := 4, cells := 3, slots := 1066, locals := 87 }) (cP g s0 (xW g w x (nI P) mo no sz rs wr lk ps fs ss ds lv) [.ref x, .int (kd), .int (av), .int (bv)]) (cI g s0 (fun r w' => (kd = nI 0 ∧ ((¬ (0 ≤ av ∧ av < nI 16) ∧ r = -2 ∧ w' = (xW g w x (nI P) mo no sz rs wr lk ps fs ss ds lv)) ∨ ((0 ≤ av ∧ av < nI 16) ∧ ((40 ≤ P ∧ r = -4 ∧ w' = (xW g w x (nI P) mo no sz rs wr lk ps fs ss ds lv)) ∨ (P < 40 ∧ ∃ q, x + 9 ≤ q ∧ (∀ a, q ≤ a → w a = none) ∧ r = nI (P + 1) ∧ w' = (xW g (pW g w q (nI (P + 1)) (nI 0) ((1 : Int32) <<< (av &&& 31)) none none (lN (1 * 2 ^ (P + 1))) (-1) (nI 0) (fun _ => 0) (fun _ => 0)) x (nI (P + 1)) mo no sz rs wr lk (va_up ps (P + 1) (some q)) fs ss ds lv)))))) ∨ ((kd = nI 1 ∨ kd = nI 4 ∨ kd = nI 5 ∨ kd = nI 6) ∧ ((¬ (nI 1 ≤ av ∧ av ≤ nI P) ∧ r = -1 ∧ w' = (xW g w x (nI P) mo no sz rs wr lk ps fs ss ds lv)) ∨ (∃ u, 1 ≤ u ∧ u ≤ P ∧ av = nI u ∧ ((40 ≤ P ∧ r = -4 ∧ w' = (xW g w x (nI P) mo no sz rs wr lk ps fs ss ds lv)) ∨ (P < 40 ∧ ∃ q, x + 9 ≤ q ∧ (∀ a, q ≤ a → w a = none) ∧ r = nI (P + 1) ∧ w' = (xW g (pW g w q (nI (P + 1)) kd (nI 0) (some (qa u)) none (lN (1 * 2 ^ (P + 1) ||| (PM u))) (-1) (nI 0) (fun _ => 0) (fun _ => 0)) x (nI (P + 1)) mo no sz rs wr lk (va_up ps (P + 1) (some q)) fs ss ds lv)))))) ∨ ((kd = nI 2 ∨ kd = nI 3) ∧ ((¬ ((nI 1 ≤ av ∧ av ≤ nI P) ∧ (nI 1 ≤ bv ∧ bv ≤ nI P)) ∧ r = -1 ∧ w' = (xW g w x (nI P) mo no sz rs wr lk ps fs ss ds lv)) ∨ (∃ u u3, 1 ≤ u ∧ u ≤ P ∧ av = nI u ∧ 1 ≤ u3 ∧ u3 ≤ P ∧ bv = nI u3 ∧ ((40 ≤ P ∧ r = -4 ∧ w' = (xW g w x (nI P) mo no sz rs wr lk ps fs ss ds lv)) ∨ (P < 40 ∧ ∃ q, x + 9 ≤ q ∧ (∀ a, q ≤ a → w a = none) ∧ r = nI (P + 1) ∧ w' = (xW g (pW g w q (nI (P + 1)) kd (nI 0) (some (qa u)) (some (qa u3)) (lN (1 * 2 ^ (P + 1) ||| (PM u) ||| (PM u3))) (-1) (nI 0) (fun _ => 0) (fun _ => 0)) x (nI (P + 1)) mo no sz rs wr lk (va_up ps (P + 1) (some q)) fs ss ds lv)))))) ∨ ((¬ kd = nI 0 ∧ ¬ kd = nI 1 ∧ ¬ kd = nI 2 ∧ ¬ kd = nI 3 ∧ ¬ kd = nI 4 ∧ ¬ kd = nI 5 ∧ ¬ kd = nI 6) ∧ r = -2 ∧ w' = (xW g w x (nI P) mo no sz rs wr lk ps fs ss ds lv)))) 3 1066 (cA s0) := by
  refine Met.ofW (cc := cX3_path) (maxL := 4) (ret := some .int) (by decide) rfl ?_
  intro p e s m args below meth c s₁ B9 hml hv
  obtain ⟨rfl, h0s, hP, hK⟩ := hv
  have hx := B9.exec
  have hb := B9.bytes
  have hr := B9.returns
  have hts := atoms_spec (ws := Cond.code yX3_path cX3_path 4 (some .int) :: tg) B9.pre
  have hown : s.vm.findClass RX3 = some m.cls := findClass_of_methodNamed B9.named
  have hlocks := B9.notSynchronized
  have hS : gS s0 s.heap s.heap [] := va_S.rf
  have hRm : 4 ≤ (headSpec (Cond.code yX3_path cX3_path 4 (some .int) :: tg) ({ frames := 4, cells := 3, slots := 1066, locals := 87 })).room.frames ∧ 87 ≤ (headSpec (Cond.code yX3_path cX3_path 4 (some .int) :: tg) ({ frames := 4, cells := 3, slots := 1066, locals := 87 })).room.locals := ⟨Nat.le_refl _, Nat.le_refl _⟩
  have hcs : 0 + 0 ≤ (headSpec (Cond.code yX3_path cX3_path 4 (some .int) :: tg) ({ frames := 4, cells := 3, slots := 1066, locals := 87 })).room.cells ∧ 0 + 0 ≤ (headSpec (Cond.code yX3_path cX3_path 4 (some .int) :: tg) ({ frames := 4, cells := 3, slots := 1066, locals := 87 })).room.slots := ⟨Nat.zero_le _, Nat.zero_le _⟩
  have hl := lv_entry ([.ref x, .int (kd), .int (av), .int (bv)]) (n := 4) (Nat.le_of_ble_eq_true rfl)
  rw [lg_entry_eq]
  generalize (lg_sl ([.ref x, .int (kd), .int (av), .int (bv)]) ++ List.replicate (4 - (lg_sl ([.ref x, .int (kd), .int (av), .int (bv)])).length) Slot.unset).toArray = ls at hl ⊢
  have hl : lv_has ls 4 [(0, .ref x), (1, .int (kd)), (2, .int (av)), (3, .int (bv))] := hl
  refine lv_iload_n hx hb dX3_path_0 rfl (lv_at hl 1 rfl) ?_
  by_cases k_0 : kd = nI 0
  · refine lv_tableIn (tgt := 44) hx hb dX3_path_1 (by rw [k_0]; decide) (by rw [k_0]; decide) (by rw [k_0]; rfl) (by decide) ?_
    refine lv_iload_n hx hb dX3_path_44 rfl (lv_at hl 2 rfl) ?_
    refine cr_Si (As := [.int (av)]) (rest := []) ⟨hx, hb, hml, hown, hts⟩ (c_X3_isPredicate l g s0 (xW g w x (nI P) mo no sz rs wr lk ps fs ss ds lv) av) (cw_S 1 hts tg_tail tw_95 tw_96 tw_1 tw_97 rfl rfl (by decide +kernel) ⟨Nat.le_trans (by decide) hRm.1, Nat.le_trans (by decide) hRm.2⟩) hK hP h0s hS rfl hl.1 rfl (Nat.le_of_ble_eq_true rfl) dX3_path_45 hcs (fun r9 w9 H locs hw hP hS => ?_)
    obtain ⟨e_r9, hw9⟩ := hw
    rw [hw9] at hP
    subst e_r9
    refine lv_if_eq (tgt := 64) hx hb dX3_path_48 (by decide) (fun c_48 => ?_) (fun c_48 => ?_)
    · have c_48 := zB_0.mp c_48
      refine lv_bipush (v := (-2)) hx hb dX3_path_64 (by decide) ?_
      refine W.widen (k := 3) (n := 1066) (Nat.zero_le _) (Nat.zero_le _) ?_
      exact W.iret (v := (-2)) hx hb hr (fun t9 ht hW => ⟨⟨_, (xW g w x (nI P) mo no sz rs wr lk ps fs ss ds lv), rfl, Or.inl ⟨k_0, Or.inl ⟨c_48, rfl, rfl⟩⟩, cB_of ht hP⟩, hS.F ht⟩) hS.2.2 dX3_path_66
    · have c_48 := zB_1.mp c_48
      refine lv_aload_n hx hb dX3_path_51 rfl (lv_at hl 0 rfl) ?_
      refine lv_iconst (v := nI 0) hx hb dX3_path_52 (by decide) ?_
      refine lv_iconst (v := (1 : Int32)) hx hb dX3_path_53 (by decide) ?_
      refine lv_iload_n hx hb dX3_path_54 rfl (lv_at hl 2 rfl) ?_
      refine lv_ishl hx hb dX3_path_55 ?_
      refine lv_null hx hb dX3_path_56 ?_
      refine lv_null hx hb dX3_path_57 ?_
      refine cr_Vi (As := [.int (nI 0), .int (((1 : Int32)) <<< ((av) &&& 31)), .null, .null]) (rest := []) ⟨hx, hb, hml, hown, hts⟩ (c_X3_keepPath_n l g s0  w x hs0 mo no sz rs wr lk ps fs ss ds lv P hP4 (nI 0) (((1 : Int32)) <<< ((av) &&& 31))) (cw_V 4 hts tg_tail tw_113 tw_115 tp_0 tw_1 tw_116 rfl rfl (by decide +kernel) ⟨Nat.le_trans (by decide) hRm.1, Nat.le_trans (by decide) hRm.2⟩) hK hP h0s hS (xW_0) rfl rfl rfl hl.1 rfl (Nat.le_of_ble_eq_true rfl) dX3_path_58 ⟨by decide +kernel, by decide +kernel⟩ (fun r9 w9 H locs hw hP hS => ?_)
      refine lv_goto (tgt := 66) hx hb dX3_path_61 (by decide) ?_
      refine W.widen (k := 3) (n := 1066) (by decide +kernel) (by decide +kernel) ?_
      exact W.iret (v := r9) hx hb hr (fun t9 ht hW => ⟨⟨_, w9, rfl, Or.inl ⟨k_0, Or.inr ⟨c_48, hw⟩⟩, cB_of ht hP⟩, hS.F ht⟩) hS.2.2 dX3_path_66
  · by_cases k_1 : kd = nI 1
    · refine lv_tableIn (tgt := 83) hx hb dX3_path_1 (by rw [k_1]; decide) (by rw [k_1]; decide) (by rw [k_1]; rfl) (by decide) ?_
      refine lv_aload_n hx hb dX3_path_83 rfl (lv_at hl 0 rfl) ?_
      refine lv_iload_n hx hb dX3_path_84 rfl (lv_at hl 1 rfl) ?_
      refine lv_aload_n hx hb dX3_path_85 rfl (lv_at hl 0 rfl) ?_
      refine lv_iload_n hx hb dX3_path_86 rfl (lv_at hl 2 rfl) ?_
      refine cr_Vo (As := [.int (av)]) (rest := [.int (kd), .ref x]) ⟨hx, hb, hml, hown, hts⟩ (c_X3_known l g s0  w x hs0 mo no sz rs wr lk ps fs ss ds lv P hP4 (av)) (cw_V 1 hts tg_tail tw_155 tw_157 tp_1 tw_1 tw_158 rfl rfl (by decide +kernel) ⟨Nat.le_trans (by decide) hRm.1, Nat.le_trans (by decide) hRm.2⟩) hK hP h0s hS (xW_0) rfl rfl rfl hl.1 rfl (Nat.le_of_ble_eq_true rfl) dX3_path_87 hcs (fun r9 w9 H locs hw hP hS => ?_)
      rcases hw with ⟨n_u, e_r9, hw9⟩ | ⟨u, h1_u, h2_u, v_u, e_r9, hw9⟩
      · rw [hw9] at hP
        subst e_r9
        show W p l e _ s m _ below meth c H locs _ _ _ (F0 m 90 ls (.null :: .int (kd) :: .ref x :: []))
        refine cr_Vi (As := [.int (kd), .null]) (rest := []) ⟨hx, hb, hml, hown, hts⟩ (c_X3_keepOverOne_n l g s0  w x hs0 mo no sz rs wr lk ps fs ss ds lv P hP4 kd) (cw_V 2 hts tg_tail tw_163 tw_165 tp_3 tw_1 tw_166 rfl rfl (by decide +kernel) ⟨Nat.le_trans (by decide) hRm.1, Nat.le_trans (by decide) hRm.2⟩) hK hP h0s hS (xW_0) rfl rfl rfl hl.1 rfl (Nat.le_of_ble_eq_true rfl) dX3_path_90 ⟨by decide +kernel, by decide +kernel⟩ (fun r8 w9 H locs hw hP hS => ?_)
        refine W.widen (k := 3) (n := 1066) (by decide +kernel) (by decide +kernel) ?_
        exact W.iret (v := r8) hx hb hr (fun t9 ht hW => ⟨⟨_, w9, rfl, Or.inr (Or.inl ⟨Or.inl k_1, Or.inl ⟨n_u, hw.1, hw.2⟩⟩), cB_of ht hP⟩, hS.F ht⟩) hS.2.2 dX3_path_93
      · rw [hw9] at hP
        obtain ⟨a1_u, a2_u, a3_u, a4_u, a5_u, a6_u⟩ := hpl u h1_u h2_u
        rw [a1_u] at e_r9
        subst e_r9
        show W p l e _ s m _ below meth c H locs _ _ _ (F0 m 90 ls (.ref (qa u) :: .int (kd) :: .ref x :: []))
        refine cr_Vi (As := [.int (kd), .ref (qa u)]) (rest := []) ⟨hx, hb, hml, hown, hts⟩ (c_X3_keepOverOne_i l g s0  w x hs0 mo no sz rs wr lk ps fs ss ds lv P hP4 kd (qa u) (nI u) (KD u) (LI u) (IN u) (OT u) (CS u) (CG u) (PM u) a3_u (JF u) a4_u a6_u (Or.inr a2_u)) (cw_V 2 hts tg_tail tw_163 tw_165 tp_3 tw_1 tw_166 rfl rfl (by decide +kernel) ⟨Nat.le_trans (by decide) hRm.1, Nat.le_trans (by decide) hRm.2⟩) hK hP h0s hS (xW_0) rfl rfl rfl hl.1 rfl (Nat.le_of_ble_eq_true rfl) dX3_path_90 ⟨by decide +kernel, by decide +kernel⟩ (fun r8 w9 H locs hw hP hS => ?_)
        refine W.widen (k := 3) (n := 1066) (by decide +kernel) (by decide +kernel) ?_
        exact W.iret (v := r8) hx hb hr (fun t9 ht hW => ⟨⟨_, w9, rfl, Or.inr (Or.inl ⟨Or.inl k_1, Or.inr ⟨u, h1_u, h2_u, v_u, hw⟩⟩), cB_of ht hP⟩, hS.F ht⟩) hS.2.2 dX3_path_93
    · by_cases k_2 : kd = nI 2
      · refine lv_tableIn (tgt := 67) hx hb dX3_path_1 (by rw [k_2]; decide) (by rw [k_2]; decide) (by rw [k_2]; rfl) (by decide) ?_
        refine lv_aload_n hx hb dX3_path_67 rfl (lv_at hl 0 rfl) ?_
        refine lv_iload_n hx hb dX3_path_68 rfl (lv_at hl 1 rfl) ?_
        refine lv_aload_n hx hb dX3_path_69 rfl (lv_at hl 0 rfl) ?_
        refine lv_iload_n hx hb dX3_path_70 rfl (lv_at hl 2 rfl) ?_
        refine cr_Vo (As := [.int (av)]) (rest := [.int (kd), .ref x]) ⟨hx, hb, hml, hown, hts⟩ (c_X3_known l g s0  w x hs0 mo no sz rs wr lk ps fs ss ds lv P hP4 (av)) (cw_V 1 hts tg_tail tw_155 tw_157 tp_1 tw_1 tw_158 rfl rfl (by decide +kernel) ⟨Nat.le_trans (by decide) hRm.1, Nat.le_trans (by decide) hRm.2⟩) hK hP h0s hS (xW_0) rfl rfl rfl hl.1 rfl (Nat.le_of_ble_eq_true rfl) dX3_path_71 hcs (fun r9 w9 H locs hw hP hS => ?_)
        rcases hw with ⟨n_u, e_r9, hw9⟩ | ⟨u, h1_u, h2_u, v_u, e_r9, hw9⟩
        · rw [hw9] at hP
          subst e_r9
          show W p l e _ s m _ below meth c H locs _ _ _ (F0 m 74 ls (.null :: .int (kd) :: .ref x :: []))
          refine lv_aload_n hx hb dX3_path_74 rfl (lv_at hl 0 rfl) ?_
          refine lv_iload_n hx hb dX3_path_75 rfl (lv_at hl 3 rfl) ?_
          refine cr_Vo (As := [.int (bv)]) (rest := [.null, .int (kd), .ref x]) ⟨hx, hb, hml, hown, hts⟩ (c_X3_known l g s0  w x hs0 mo no sz rs wr lk ps fs ss ds lv P hP4 (bv)) (cw_V 1 hts tg_tail tw_155 tw_157 tp_1 tw_1 tw_158 rfl rfl (by decide +kernel) ⟨Nat.le_trans (by decide) hRm.1, Nat.le_trans (by decide) hRm.2⟩) hK hP h0s hS (xW_0) rfl rfl rfl hl.1 rfl (Nat.le_of_ble_eq_true rfl) dX3_path_76 hcs (fun r9 w9 H locs hw hP hS => ?_)
          rcases hw with ⟨n_u3, e_r9, hw9⟩ | ⟨u3, h1_u3, h2_u3, v_u3, e_r9, hw9⟩
          · rw [hw9] at hP
            subst e_r9
            show W p l e _ s m _ below meth c H locs _ _ _ (F0 m 79 ls (.null :: .null :: .int (kd) :: .ref x :: []))
            refine cr_Vi (As := [.int (kd), .null, .null]) (rest := []) ⟨hx, hb, hml, hown, hts⟩ (c_X3_keepOverTwo_n l g s0  w x hs0 mo no sz rs wr lk ps fs ss ds lv P hP4 kd) (cw_V 3 hts tg_tail tw_159 tw_161 tp_2 tw_1 tw_162 rfl rfl (by decide +kernel) ⟨Nat.le_trans (by decide) hRm.1, Nat.le_trans (by decide) hRm.2⟩) hK hP h0s hS (xW_0) rfl rfl rfl hl.1 rfl (Nat.le_of_ble_eq_true rfl) dX3_path_79 ⟨by decide +kernel, by decide +kernel⟩ (fun r8 w9 H locs hw hP hS => ?_)
            refine W.widen (k := 3) (n := 1066) (by decide +kernel) (by decide +kernel) ?_
            exact W.iret (v := r8) hx hb hr (fun t9 ht hW => ⟨⟨_, w9, rfl, Or.inr (Or.inr (Or.inl ⟨Or.inl k_2, Or.inl ⟨fun q9 => n_u q9.1, hw.1, hw.2⟩⟩)), cB_of ht hP⟩, hS.F ht⟩) hS.2.2 dX3_path_82
          · rw [hw9] at hP
            obtain ⟨a1_u3, a2_u3, a3_u3, a4_u3, a5_u3, a6_u3⟩ := hpl u3 h1_u3 h2_u3
            rw [a1_u3] at e_r9
            subst e_r9
            show W p l e _ s m _ below meth c H locs _ _ _ (F0 m 79 ls (.ref (qa u3) :: .null :: .int (kd) :: .ref x :: []))
            refine cr_Vi (As := [.int (kd), .null, .ref (qa u3)]) (rest := []) ⟨hx, hb, hml, hown, hts⟩ (c_X3_keepOverTwo_m l g s0  w x hs0 mo no sz rs wr lk ps fs ss ds lv P hP4 kd (qa u3)) (cw_V 3 hts tg_tail tw_159 tw_161 tp_2 tw_1 tw_162 rfl rfl (by decide +kernel) ⟨Nat.le_trans (by decide) hRm.1, Nat.le_trans (by decide) hRm.2⟩) hK hP h0s hS (xW_0) rfl rfl rfl hl.1 rfl (Nat.le_of_ble_eq_true rfl) dX3_path_79 ⟨by decide +kernel, by decide +kernel⟩ (fun r8 w9 H locs hw hP hS => ?_)
            refine W.widen (k := 3) (n := 1066) (by decide +kernel) (by decide +kernel) ?_
            exact W.iret (v := r8) hx hb hr (fun t9 ht hW => ⟨⟨_, w9, rfl, Or.inr (Or.inr (Or.inl ⟨Or.inl k_2, Or.inl ⟨fun q9 => n_u q9.1, hw.1, hw.2⟩⟩)), cB_of ht hP⟩, hS.F ht⟩) hS.2.2 dX3_path_82
        · rw [hw9] at hP
          obtain ⟨a1_u, a2_u, a3_u, a4_u, a5_u, a6_u⟩ := hpl u h1_u h2_u
          rw [a1_u] at e_r9
          subst e_r9
          show W p l e _ s m _ below meth c H locs _ _ _ (F0 m 74 ls (.ref (qa u) :: .int (kd) :: .ref x :: []))
          refine lv_aload_n hx hb dX3_path_74 rfl (lv_at hl 0 rfl) ?_
          refine lv_iload_n hx hb dX3_path_75 rfl (lv_at hl 3 rfl) ?_
          refine cr_Vo (As := [.int (bv)]) (rest := [.ref (qa u), .int (kd), .ref x]) ⟨hx, hb, hml, hown, hts⟩ (c_X3_known l g s0  w x hs0 mo no sz rs wr lk ps fs ss ds lv P hP4 (bv)) (cw_V 1 hts tg_tail tw_155 tw_157 tp_1 tw_1 tw_158 rfl rfl (by decide +kernel) ⟨Nat.le_trans (by decide) hRm.1, Nat.le_trans (by decide) hRm.2⟩) hK hP h0s hS (xW_0) rfl rfl rfl hl.1 rfl (Nat.le_of_ble_eq_true rfl) dX3_path_76 hcs (fun r9 w9 H locs hw hP hS => ?_)
          rcases hw with ⟨n_u3, e_r9, hw9⟩ | ⟨u3, h1_u3, h2_u3, v_u3, e_r9, hw9⟩
          · rw [hw9] at hP
            subst e_r9
            show W p l e _ s m _ below meth c H locs _ _ _ (F0 m 79 ls (.null :: .ref (qa u) :: .int (kd) :: .ref x :: []))
            refine cr_Vi (As := [.int (kd), .ref (qa u), .null]) (rest := []) ⟨hx, hb, hml, hown, hts⟩ (c_X3_keepOverTwo_o l g s0  w x hs0 mo no sz rs wr lk ps fs ss ds lv P hP4 kd (qa u)) (cw_V 3 hts tg_tail tw_159 tw_161 tp_2 tw_1 tw_162 rfl rfl (by decide +kernel) ⟨Nat.le_trans (by decide) hRm.1, Nat.le_trans (by decide) hRm.2⟩) hK hP h0s hS (xW_0) rfl rfl rfl hl.1 rfl (Nat.le_of_ble_eq_true rfl) dX3_path_79 ⟨by decide +kernel, by decide +kernel⟩ (fun r8 w9 H locs hw hP hS => ?_)
            refine W.widen (k := 3) (n := 1066) (by decide +kernel) (by decide +kernel) ?_
            exact W.iret (v := r8) hx hb hr (fun t9 ht hW => ⟨⟨_, w9, rfl, Or.inr (Or.inr (Or.inl ⟨Or.inl k_2, Or.inl ⟨fun q9 => n_u3 q9.2, hw.1, hw.2⟩⟩)), cB_of ht hP⟩, hS.F ht⟩) hS.2.2 dX3_path_82
          · rw [hw9] at hP
            obtain ⟨a1_u3, a2_u3, a3_u3, a4_u3, a5_u3, a6_u3⟩ := hpl u3 h1_u3 h2_u3
            rw [a1_u3] at e_r9
            subst e_r9
            show W p l e _ s m _ below meth c H locs _ _ _ (F0 m 79 ls (.ref (qa u3) :: .ref (qa u) :: .int (kd) :: .ref x :: []))
            refine cr_Vi (As := [.int (kd), .ref (qa u), .ref (qa u3)]) (rest := []) ⟨hx, hb, hml, hown, hts⟩ (c_X3_keepOverTwo_b l g s0  w x hs0 mo no sz rs wr lk ps fs ss ds lv P hP4 kd (qa u) (nI u) (KD u) (LI u) (IN u) (OT u) (CS u) (CG u) (PM u) a3_u (JF u) a4_u a6_u (Or.inr a2_u) (qa u3) (nI u3) (KD u3) (LI u3) (IN u3) (OT u3) (CS u3) (CG u3) (PM u3) a3_u3 (JF u3) a4_u3 a6_u3 (Or.inr a2_u3)) (cw_V 3 hts tg_tail tw_159 tw_161 tp_2 tw_1 tw_162 rfl rfl (by decide +kernel) ⟨Nat.le_trans (by decide) hRm.1, Nat.le_trans (by decide) hRm.2⟩) hK hP h0s hS (xW_0) rfl rfl rfl hl.1 rfl (Nat.le_of_ble_eq_true rfl) dX3_path_79 ⟨by decide +kernel, by decide +kernel⟩ (fun r8 w9 H locs hw hP hS => ?_)
            refine W.widen (k := 3) (n := 1066) (by decide +kernel) (by decide +kernel) ?_
            exact W.iret (v := r8) hx hb hr (fun t9 ht hW => ⟨⟨_, w9, rfl, Or.inr (Or.inr (Or.inl ⟨Or.inl k_2, Or.inr ⟨u, u3, h1_u, h2_u, v_u, h1_u3, h2_u3, v_u3, hw⟩⟩)), cB_of ht hP⟩, hS.F ht⟩) hS.2.2 dX3_path_82
      · by_cases k_3 : kd = nI 3
        · refine lv_tableIn (tgt := 67) hx hb dX3_path_1 (by rw [k_3]; decide) (by rw [k_3]; decide) (by rw [k_3]; rfl) (by decide) ?_
          refine lv_aload_n hx hb dX3_path_67 rfl (lv_at hl 0 rfl) ?_
          refine lv_iload_n hx hb dX3_path_68 rfl (lv_at hl 1 rfl) ?_
          refine lv_aload_n hx hb dX3_path_69 rfl (lv_at hl 0 rfl) ?_
          refine lv_iload_n hx hb dX3_path_70 rfl (lv_at hl 2 rfl) ?_
          refine cr_Vo (As := [.int (av)]) (rest := [.int (kd), .ref x]) ⟨hx, hb, hml, hown, hts⟩ (c_X3_known l g s0  w x hs0 mo no sz rs wr lk ps fs ss ds lv P hP4 (av)) (cw_V 1 hts tg_tail tw_155 tw_157 tp_1 tw_1 tw_158 rfl rfl (by decide +kernel) ⟨Nat.le_trans (by decide) hRm.1, Nat.le_trans (by decide) hRm.2⟩) hK hP h0s hS (xW_0) rfl rfl rfl hl.1 rfl (Nat.le_of_ble_eq_true rfl) dX3_path_71 hcs (fun r9 w9 H locs hw hP hS => ?_)
          rcases hw with ⟨n_u, e_r9, hw9⟩ | ⟨u, h1_u, h2_u, v_u, e_r9, hw9⟩
          · rw [hw9] at hP
            subst e_r9
            show W p l e _ s m _ below meth c H locs _ _ _ (F0 m 74 ls (.null :: .int (kd) :: .ref x :: []))
            refine lv_aload_n hx hb dX3_path_74 rfl (lv_at hl 0 rfl) ?_
            refine lv_iload_n hx hb dX3_path_75 rfl (lv_at hl 3 rfl) ?_
            refine cr_Vo (As := [.int (bv)]) (rest := [.null, .int (kd), .ref x]) ⟨hx, hb, hml, hown, hts⟩ (c_X3_known l g s0  w x hs0 mo no sz rs wr lk ps fs ss ds lv P hP4 (bv)) (cw_V 1 hts tg_tail tw_155 tw_157 tp_1 tw_1 tw_158 rfl rfl (by decide +kernel) ⟨Nat.le_trans (by decide) hRm.1, Nat.le_trans (by decide) hRm.2⟩) hK hP h0s hS (xW_0) rfl rfl rfl hl.1 rfl (Nat.le_of_ble_eq_true rfl) dX3_path_76 hcs (fun r9 w9 H locs hw hP hS => ?_)
            rcases hw with ⟨n_u3, e_r9, hw9⟩ | ⟨u3, h1_u3, h2_u3, v_u3, e_r9, hw9⟩
            · rw [hw9] at hP
              subst e_r9
              show W p l e _ s m _ below meth c H locs _ _ _ (F0 m 79 ls (.null :: .null :: .int (kd) :: .ref x :: []))
              refine cr_Vi (As := [.int (kd), .null, .null]) (rest := []) ⟨hx, hb, hml, hown, hts⟩ (c_X3_keepOverTwo_n l g s0  w x hs0 mo no sz rs wr lk ps fs ss ds lv P hP4 kd) (cw_V 3 hts tg_tail tw_159 tw_161 tp_2 tw_1 tw_162 rfl rfl (by decide +kernel) ⟨Nat.le_trans (by decide) hRm.1, Nat.le_trans (by decide) hRm.2⟩) hK hP h0s hS (xW_0) rfl rfl rfl hl.1 rfl (Nat.le_of_ble_eq_true rfl) dX3_path_79 ⟨by decide +kernel, by decide +kernel⟩ (fun r8 w9 H locs hw hP hS => ?_)
              refine W.widen (k := 3) (n := 1066) (by decide +kernel) (by decide +kernel) ?_
              exact W.iret (v := r8) hx hb hr (fun t9 ht hW => ⟨⟨_, w9, rfl, Or.inr (Or.inr (Or.inl ⟨Or.inr k_3, Or.inl ⟨fun q9 => n_u q9.1, hw.1, hw.2⟩⟩)), cB_of ht hP⟩, hS.F ht⟩) hS.2.2 dX3_path_82
            · rw [hw9] at hP
              obtain ⟨a1_u3, a2_u3, a3_u3, a4_u3, a5_u3, a6_u3⟩ := hpl u3 h1_u3 h2_u3
              rw [a1_u3] at e_r9
              subst e_r9
              show W p l e _ s m _ below meth c H locs _ _ _ (F0 m 79 ls (.ref (qa u3) :: .null :: .int (kd) :: .ref x :: []))
              refine cr_Vi (As := [.int (kd), .null, .ref (qa u3)]) (rest := []) ⟨hx, hb, hml, hown, hts⟩ (c_X3_keepOverTwo_m l g s0  w x hs0 mo no sz rs wr lk ps fs ss ds lv P hP4 kd (qa u3)) (cw_V 3 hts tg_tail tw_159 tw_161 tp_2 tw_1 tw_162 rfl rfl (by decide +kernel) ⟨Nat.le_trans (by decide) hRm.1, Nat.le_trans (by decide) hRm.2⟩) hK hP h0s hS (xW_0) rfl rfl rfl hl.1 rfl (Nat.le_of_ble_eq_true rfl) dX3_path_79 ⟨by decide +kernel, by decide +kernel⟩ (fun r8 w9 H locs hw hP hS => ?_)
              refine W.widen (k := 3) (n := 1066) (by decide +kernel) (by decide +kernel) ?_
              exact W.iret (v := r8) hx hb hr (fun t9 ht hW => ⟨⟨_, w9, rfl, Or.inr (Or.inr (Or.inl ⟨Or.inr k_3, Or.inl ⟨fun q9 => n_u q9.1, hw.1, hw.2⟩⟩)), cB_of ht hP⟩, hS.F ht⟩) hS.2.2 dX3_path_82
          · rw [hw9] at hP
            obtain ⟨a1_u, a2_u, a3_u, a4_u, a5_u, a6_u⟩ := hpl u h1_u h2_u
            rw [a1_u] at e_r9
            subst e_r9
            show W p l e _ s m _ below meth c H locs _ _ _ (F0 m 74 ls (.ref (qa u) :: .int (kd) :: .ref x :: []))
            refine lv_aload_n hx hb dX3_path_74 rfl (lv_at hl 0 rfl) ?_
            refine lv_iload_n hx hb dX3_path_75 rfl (lv_at hl 3 rfl) ?_
            refine cr_Vo (As := [.int (bv)]) (rest := [.ref (qa u), .int (kd), .ref x]) ⟨hx, hb, hml, hown, hts⟩ (c_X3_known l g s0  w x hs0 mo no sz rs wr lk ps fs ss ds lv P hP4 (bv)) (cw_V 1 hts tg_tail tw_155 tw_157 tp_1 tw_1 tw_158 rfl rfl (by decide +kernel) ⟨Nat.le_trans (by decide) hRm.1, Nat.le_trans (by decide) hRm.2⟩) hK hP h0s hS (xW_0) rfl rfl rfl hl.1 rfl (Nat.le_of_ble_eq_true rfl) dX3_path_76 hcs (fun r9 w9 H locs hw hP hS => ?_)
            rcases hw with ⟨n_u3, e_r9, hw9⟩ | ⟨u3, h1_u3, h2_u3, v_u3, e_r9, hw9⟩
            · rw [hw9] at hP
              subst e_r9
              show W p l e _ s m _ below meth c H locs _ _ _ (F0 m 79 ls (.null :: .ref (qa u) :: .int (kd) :: .ref x :: []))
              refine cr_Vi (As := [.int (kd), .ref (qa u), .null]) (rest := []) ⟨hx, hb, hml, hown, hts⟩ (c_X3_keepOverTwo_o l g s0  w x hs0 mo no sz rs wr lk ps fs ss ds lv P hP4 kd (qa u)) (cw_V 3 hts tg_tail tw_159 tw_161 tp_2 tw_1 tw_162 rfl rfl (by decide +kernel) ⟨Nat.le_trans (by decide) hRm.1, Nat.le_trans (by decide) hRm.2⟩) hK hP h0s hS (xW_0) rfl rfl rfl hl.1 rfl (Nat.le_of_ble_eq_true rfl) dX3_path_79 ⟨by decide +kernel, by decide +kernel⟩ (fun r8 w9 H locs hw hP hS => ?_)
              refine W.widen (k := 3) (n := 1066) (by decide +kernel) (by decide +kernel) ?_
              exact W.iret (v := r8) hx hb hr (fun t9 ht hW => ⟨⟨_, w9, rfl, Or.inr (Or.inr (Or.inl ⟨Or.inr k_3, Or.inl ⟨fun q9 => n_u3 q9.2, hw.1, hw.2⟩⟩)), cB_of ht hP⟩, hS.F ht⟩) hS.2.2 dX3_path_82
            · rw [hw9] at hP
              obtain ⟨a1_u3, a2_u3, a3_u3, a4_u3, a5_u3, a6_u3⟩ := hpl u3 h1_u3 h2_u3
              rw [a1_u3] at e_r9
              subst e_r9
              show W p l e _ s m _ below meth c H locs _ _ _ (F0 m 79 ls (.ref (qa u3) :: .ref (qa u) :: .int (kd) :: .ref x :: []))
              refine cr_Vi (As := [.int (kd), .ref (qa u), .ref (qa u3)]) (rest := []) ⟨hx, hb, hml, hown, hts⟩ (c_X3_keepOverTwo_b l g s0  w x hs0 mo no sz rs wr lk ps fs ss ds lv P hP4 kd (qa u) (nI u) (KD u) (LI u) (IN u) (OT u) (CS u) (CG u) (PM u) a3_u (JF u) a4_u a6_u (Or.inr a2_u) (qa u3) (nI u3) (KD u3) (LI u3) (IN u3) (OT u3) (CS u3) (CG u3) (PM u3) a3_u3 (JF u3) a4_u3 a6_u3 (Or.inr a2_u3)) (cw_V 3 hts tg_tail tw_159 tw_161 tp_2 tw_1 tw_162 rfl rfl (by decide +kernel) ⟨Nat.le_trans (by decide) hRm.1, Nat.le_trans (by decide) hRm.2⟩) hK hP h0s hS (xW_0) rfl rfl rfl hl.1 rfl (Nat.le_of_ble_eq_true rfl) dX3_path_79 ⟨by decide +kernel, by decide +kernel⟩ (fun r8 w9 H locs hw hP hS => ?_)
              refine W.widen (k := 3) (n := 1066) (by decide +kernel) (by decide +kernel) ?_
              exact W.iret (v := r8) hx hb hr (fun t9 ht hW => ⟨⟨_, w9, rfl, Or.inr (Or.inr (Or.inl ⟨Or.inr k_3, Or.inr ⟨u, u3, h1_u, h2_u, v_u, h1_u3, h2_u3, v_u3, hw⟩⟩)), cB_of ht hP⟩, hS.F ht⟩) hS.2.2 dX3_path_82
        · by_cases k_4 : kd = nI 4
          · refine lv_tableIn (tgt := 83) hx hb dX3_path_1 (by rw [k_4]; decide) (by rw [k_4]; decide) (by rw [k_4]; rfl) (by decide) ?_
            refine lv_aload_n hx hb dX3_path_83 rfl (lv_at hl 0 rfl) ?_
            refine lv_iload_n hx hb dX3_path_84 rfl (lv_at hl 1 rfl) ?_
            refine lv_aload_n hx hb dX3_path_85 rfl (lv_at hl 0 rfl) ?_
            refine lv_iload_n hx hb dX3_path_86 rfl (lv_at hl 2 rfl) ?_
            refine cr_Vo (As := [.int (av)]) (rest := [.int (kd), .ref x]) ⟨hx, hb, hml, hown, hts⟩ (c_X3_known l g s0  w x hs0 mo no sz rs wr lk ps fs ss ds lv P hP4 (av)) (cw_V 1 hts tg_tail tw_155 tw_157 tp_1 tw_1 tw_158 rfl rfl (by decide +kernel) ⟨Nat.le_trans (by decide) hRm.1, Nat.le_trans (by decide) hRm.2⟩) hK hP h0s hS (xW_0) rfl rfl rfl hl.1 rfl (Nat.le_of_ble_eq_true rfl) dX3_path_87 hcs (fun r9 w9 H locs hw hP hS => ?_)
            rcases hw with ⟨n_u, e_r9, hw9⟩ | ⟨u, h1_u, h2_u, v_u, e_r9, hw9⟩
            · rw [hw9] at hP
              subst e_r9
              show W p l e _ s m _ below meth c H locs _ _ _ (F0 m 90 ls (.null :: .int (kd) :: .ref x :: []))
              refine cr_Vi (As := [.int (kd), .null]) (rest := []) ⟨hx, hb, hml, hown, hts⟩ (c_X3_keepOverOne_n l g s0  w x hs0 mo no sz rs wr lk ps fs ss ds lv P hP4 kd) (cw_V 2 hts tg_tail tw_163 tw_165 tp_3 tw_1 tw_166 rfl rfl (by decide +kernel) ⟨Nat.le_trans (by decide) hRm.1, Nat.le_trans (by decide) hRm.2⟩) hK hP h0s hS (xW_0) rfl rfl rfl hl.1 rfl (Nat.le_of_ble_eq_true rfl) dX3_path_90 ⟨by decide +kernel, by decide +kernel⟩ (fun r8 w9 H locs hw hP hS => ?_)
              refine W.widen (k := 3) (n := 1066) (by decide +kernel) (by decide +kernel) ?_
              exact W.iret (v := r8) hx hb hr (fun t9 ht hW => ⟨⟨_, w9, rfl, Or.inr (Or.inl ⟨Or.inr (Or.inl k_4), Or.inl ⟨n_u, hw.1, hw.2⟩⟩), cB_of ht hP⟩, hS.F ht⟩) hS.2.2 dX3_path_93
            · rw [hw9] at hP
              obtain ⟨a1_u, a2_u, a3_u, a4_u, a5_u, a6_u⟩ := hpl u h1_u h2_u
              rw [a1_u] at e_r9
              subst e_r9
              show W p l e _ s m _ below meth c H locs _ _ _ (F0 m 90 ls (.ref (qa u) :: .int (kd) :: .ref x :: []))
              refine cr_Vi (As := [.int (kd), .ref (qa u)]) (rest := []) ⟨hx, hb, hml, hown, hts⟩ (c_X3_keepOverOne_i l g s0  w x hs0 mo no sz rs wr lk ps fs ss ds lv P hP4 kd (qa u) (nI u) (KD u) (LI u) (IN u) (OT u) (CS u) (CG u) (PM u) a3_u (JF u) a4_u a6_u (Or.inr a2_u)) (cw_V 2 hts tg_tail tw_163 tw_165 tp_3 tw_1 tw_166 rfl rfl (by decide +kernel) ⟨Nat.le_trans (by decide) hRm.1, Nat.le_trans (by decide) hRm.2⟩) hK hP h0s hS (xW_0) rfl rfl rfl hl.1 rfl (Nat.le_of_ble_eq_true rfl) dX3_path_90 ⟨by decide +kernel, by decide +kernel⟩ (fun r8 w9 H locs hw hP hS => ?_)
              refine W.widen (k := 3) (n := 1066) (by decide +kernel) (by decide +kernel) ?_
              exact W.iret (v := r8) hx hb hr (fun t9 ht hW => ⟨⟨_, w9, rfl, Or.inr (Or.inl ⟨Or.inr (Or.inl k_4), Or.inr ⟨u, h1_u, h2_u, v_u, hw⟩⟩), cB_of ht hP⟩, hS.F ht⟩) hS.2.2 dX3_path_93
          · by_cases k_5 : kd = nI 5
            · refine lv_tableIn (tgt := 83) hx hb dX3_path_1 (by rw [k_5]; decide) (by rw [k_5]; decide) (by rw [k_5]; rfl) (by decide) ?_
              refine lv_aload_n hx hb dX3_path_83 rfl (lv_at hl 0 rfl) ?_
              refine lv_iload_n hx hb dX3_path_84 rfl (lv_at hl 1 rfl) ?_
              refine lv_aload_n hx hb dX3_path_85 rfl (lv_at hl 0 rfl) ?_
              refine lv_iload_n hx hb dX3_path_86 rfl (lv_at hl 2 rfl) ?_
              refine cr_Vo (As := [.int (av)]) (rest := [.int (kd), .ref x]) ⟨hx, hb, hml, hown, hts⟩ (c_X3_known l g s0  w x hs0 mo no sz rs wr lk ps fs ss ds lv P hP4 (av)) (cw_V 1 hts tg_tail tw_155 tw_157 tp_1 tw_1 tw_158 rfl rfl (by decide +kernel) ⟨Nat.le_trans (by decide) hRm.1, Nat.le_trans (by decide) hRm.2⟩) hK hP h0s hS (xW_0) rfl rfl rfl hl.1 rfl (Nat.le_of_ble_eq_true rfl) dX3_path_87 hcs (fun r9 w9 H locs hw hP hS => ?_)
              rcases hw with ⟨n_u, e_r9, hw9⟩ | ⟨u, h1_u, h2_u, v_u, e_r9, hw9⟩
              · rw [hw9] at hP
                subst e_r9
                show W p l e _ s m _ below meth c H locs _ _ _ (F0 m 90 ls (.null :: .int (kd) :: .ref x :: []))
                refine cr_Vi (As := [.int (kd), .null]) (rest := []) ⟨hx, hb, hml, hown, hts⟩ (c_X3_keepOverOne_n l g s0  w x hs0 mo no sz rs wr lk ps fs ss ds lv P hP4 kd) (cw_V 2 hts tg_tail tw_163 tw_165 tp_3 tw_1 tw_166 rfl rfl (by decide +kernel) ⟨Nat.le_trans (by decide) hRm.1, Nat.le_trans (by decide) hRm.2⟩) hK hP h0s hS (xW_0) rfl rfl rfl hl.1 rfl (Nat.le_of_ble_eq_true rfl) dX3_path_90 ⟨by decide +kernel, by decide +kernel⟩ (fun r8 w9 H locs hw hP hS => ?_)
                refine W.widen (k := 3) (n := 1066) (by decide +kernel) (by decide +kernel) ?_
                exact W.iret (v := r8) hx hb hr (fun t9 ht hW => ⟨⟨_, w9, rfl, Or.inr (Or.inl ⟨Or.inr (Or.inr (Or.inl k_5)), Or.inl ⟨n_u, hw.1, hw.2⟩⟩), cB_of ht hP⟩, hS.F ht⟩) hS.2.2 dX3_path_93
              · rw [hw9] at hP
                obtain ⟨a1_u, a2_u, a3_u, a4_u, a5_u, a6_u⟩ := hpl u h1_u h2_u
                rw [a1_u] at e_r9
                subst e_r9
                show W p l e _ s m _ below meth c H locs _ _ _ (F0 m 90 ls (.ref (qa u) :: .int (kd) :: .ref x :: []))
                refine cr_Vi (As := [.int (kd), .ref (qa u)]) (rest := []) ⟨hx, hb, hml, hown, hts⟩ (c_X3_keepOverOne_i l g s0  w x hs0 mo no sz rs wr lk ps fs ss ds lv P hP4 kd (qa u) (nI u) (KD u) (LI u) (IN u) (OT u) (CS u) (CG u) (PM u) a3_u (JF u) a4_u a6_u (Or.inr a2_u)) (cw_V 2 hts tg_tail tw_163 tw_165 tp_3 tw_1 tw_166 rfl rfl (by decide +kernel) ⟨Nat.le_trans (by decide) hRm.1, Nat.le_trans (by decide) hRm.2⟩) hK hP h0s hS (xW_0) rfl rfl rfl hl.1 rfl (Nat.le_of_ble_eq_true rfl) dX3_path_90 ⟨by decide +kernel, by decide +kernel⟩ (fun r8 w9 H locs hw hP hS => ?_)
                refine W.widen (k := 3) (n := 1066) (by decide +kernel) (by decide +kernel) ?_
                exact W.iret (v := r8) hx hb hr (fun t9 ht hW => ⟨⟨_, w9, rfl, Or.inr (Or.inl ⟨Or.inr (Or.inr (Or.inl k_5)), Or.inr ⟨u, h1_u, h2_u, v_u, hw⟩⟩), cB_of ht hP⟩, hS.F ht⟩) hS.2.2 dX3_path_93
            · by_cases k_6 : kd = nI 6
              · refine lv_tableIn (tgt := 83) hx hb dX3_path_1 (by rw [k_6]; decide) (by rw [k_6]; decide) (by rw [k_6]; rfl) (by decide) ?_
                refine lv_aload_n hx hb dX3_path_83 rfl (lv_at hl 0 rfl) ?_
                refine lv_iload_n hx hb dX3_path_84 rfl (lv_at hl 1 rfl) ?_
                refine lv_aload_n hx hb dX3_path_85 rfl (lv_at hl 0 rfl) ?_
                refine lv_iload_n hx hb dX3_path_86 rfl (lv_at hl 2 rfl) ?_
                refine cr_Vo (As := [.int (av)]) (rest := [.int (kd), .ref x]) ⟨hx, hb, hml, hown, hts⟩ (c_X3_known l g s0  w x hs0 mo no sz rs wr lk ps fs ss ds lv P hP4 (av)) (cw_V 1 hts tg_tail tw_155 tw_157 tp_1 tw_1 tw_158 rfl rfl (by decide +kernel) ⟨Nat.le_trans (by decide) hRm.1, Nat.le_trans (by decide) hRm.2⟩) hK hP h0s hS (xW_0) rfl rfl rfl hl.1 rfl (Nat.le_of_ble_eq_true rfl) dX3_path_87 hcs (fun r9 w9 H locs hw hP hS => ?_)
                rcases hw with ⟨n_u, e_r9, hw9⟩ | ⟨u, h1_u, h2_u, v_u, e_r9, hw9⟩
                · rw [hw9] at hP
                  subst e_r9
                  show W p l e _ s m _ below meth c H locs _ _ _ (F0 m 90 ls (.null :: .int (kd) :: .ref x :: []))
                  refine cr_Vi (As := [.int (kd), .null]) (rest := []) ⟨hx, hb, hml, hown, hts⟩ (c_X3_keepOverOne_n l g s0  w x hs0 mo no sz rs wr lk ps fs ss ds lv P hP4 kd) (cw_V 2 hts tg_tail tw_163 tw_165 tp_3 tw_1 tw_166 rfl rfl (by decide +kernel) ⟨Nat.le_trans (by decide) hRm.1, Nat.le_trans (by decide) hRm.2⟩) hK hP h0s hS (xW_0) rfl rfl rfl hl.1 rfl (Nat.le_of_ble_eq_true rfl) dX3_path_90 ⟨by decide +kernel, by decide +kernel⟩ (fun r8 w9 H locs hw hP hS => ?_)
                  refine W.widen (k := 3) (n := 1066) (by decide +kernel) (by decide +kernel) ?_
                  exact W.iret (v := r8) hx hb hr (fun t9 ht hW => ⟨⟨_, w9, rfl, Or.inr (Or.inl ⟨Or.inr (Or.inr (Or.inr k_6)), Or.inl ⟨n_u, hw.1, hw.2⟩⟩), cB_of ht hP⟩, hS.F ht⟩) hS.2.2 dX3_path_93
                · rw [hw9] at hP
                  obtain ⟨a1_u, a2_u, a3_u, a4_u, a5_u, a6_u⟩ := hpl u h1_u h2_u
                  rw [a1_u] at e_r9
                  subst e_r9
                  show W p l e _ s m _ below meth c H locs _ _ _ (F0 m 90 ls (.ref (qa u) :: .int (kd) :: .ref x :: []))
                  refine cr_Vi (As := [.int (kd), .ref (qa u)]) (rest := []) ⟨hx, hb, hml, hown, hts⟩ (c_X3_keepOverOne_i l g s0  w x hs0 mo no sz rs wr lk ps fs ss ds lv P hP4 kd (qa u) (nI u) (KD u) (LI u) (IN u) (OT u) (CS u) (CG u) (PM u) a3_u (JF u) a4_u a6_u (Or.inr a2_u)) (cw_V 2 hts tg_tail tw_163 tw_165 tp_3 tw_1 tw_166 rfl rfl (by decide +kernel) ⟨Nat.le_trans (by decide) hRm.1, Nat.le_trans (by decide) hRm.2⟩) hK hP h0s hS (xW_0) rfl rfl rfl hl.1 rfl (Nat.le_of_ble_eq_true rfl) dX3_path_90 ⟨by decide +kernel, by decide +kernel⟩ (fun r8 w9 H locs hw hP hS => ?_)
                  refine W.widen (k := 3) (n := 1066) (by decide +kernel) (by decide +kernel) ?_
                  exact W.iret (v := r8) hx hb hr (fun t9 ht hW => ⟨⟨_, w9, rfl, Or.inr (Or.inl ⟨Or.inr (Or.inr (Or.inr k_6)), Or.inr ⟨u, h1_u, h2_u, v_u, hw⟩⟩), cB_of ht hP⟩, hS.F ht⟩) hS.2.2 dX3_path_93
              · refine lv_tableOut (tgt := 94) hx hb dX3_path_1 (tb_out k_0 k_1 k_2 k_3 k_4 k_5 k_6) (by decide) ?_
                refine lv_bipush (v := (-2)) hx hb dX3_path_94 (by decide) ?_
                refine W.widen (k := 3) (n := 1066) (Nat.zero_le _) (Nat.zero_le _) ?_
                exact W.iret (v := (-2)) hx hb hr (fun t9 ht hW => ⟨⟨_, (xW g w x (nI P) mo no sz rs wr lk ps fs ss ds lv), rfl, Or.inr (Or.inr (Or.inr ⟨⟨k_0, k_1, k_2, k_3, k_4, k_5, k_6⟩, rfl, rfl⟩)), cB_of ht hP⟩, hS.F ht⟩) hS.2.2 dX3_path_96

