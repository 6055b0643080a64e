/-! THE CLASS: a PATH is kept -/
theorem xW_up {g : gX} {w : wd_M} {x q : Nat} {pc : Int32} {mo : Int32} {no : Int32} {sz : Int32} {rs : Int32} {wr : Int32} {lk : Nat → Int32} {ps : Nat → Option Nat} {fs : Nat → Int32} {ss : Nat → Int32} {ds : Nat → Int32} {lv : Nat → Int32} {e : va_E} (h : q < x ∨ x + 9 ≤ q) : wd_up (xW g w x pc mo no sz rs wr lk ps fs ss ds lv) q e = xW g (wd_up w q e) x pc mo no sz rs wr lk ps fs ss ds lv := by
  funext b
  unfold xW wd_up
  by_cases e9 : b = q
  · rw [if_pos e9, if_neg (by omega), if_neg (by omega), if_neg (by omega), if_neg (by omega), if_neg (by omega), if_neg (by omega), if_neg (by omega), if_neg (by omega), if_neg (by omega), if_pos e9]
  · rw [if_neg e9, if_neg e9]
theorem xW_pW {g : gX} {w : wd_M} {x q : Nat} {pc : Int32} {mo : Int32} {no : Int32} {sz : Int32} {rs : Int32} {wr : Int32} {lk : Nat → Int32} {ps : Nat → Option Nat} {fs : Nat → Int32} {ss : Nat → Int32} {ds : Nat → Int32} {lv : Nat → Int32} {k9 : Int32} {kd9 : Int32} {li9 : Int32} {inn9 : Option Nat} {oth9 : Option Nat} {pa9 : Int64} {cs9 : Int32} {cg9 : Int32} {f9 : Nat → Int32} {j9 : Nat → Int32} {e : va_E} (h : x + 9 ≤ q) : pW g (xW g (wd_up w q e) x pc mo no sz rs wr lk ps fs ss ds lv) q k9 kd9 li9 inn9 oth9 pa9 cs9 cg9 f9 j9 = xW g (pW g w q k9 kd9 li9 inn9 oth9 pa9 cs9 cg9 f9 j9) x pc mo no sz rs wr lk ps fs ss ds lv := by
  funext b
  unfold pW xW wd_up
  dsimp only
  by_cases e0 : b = q
  · rw [if_pos e0, if_neg (by omega), if_neg (by omega), if_neg (by omega), if_neg (by omega), if_neg (by omega), if_neg (by omega), if_neg (by omega), if_neg (by omega), if_neg (by omega), if_pos e0]
  · by_cases e1 : b = q + 1
    · rw [if_neg e0, if_pos e1, if_neg (by omega), if_neg (by omega), if_neg (by omega), if_neg (by omega), if_neg (by omega), if_neg (by omega), if_neg (by omega), if_neg (by omega), if_neg (by omega), if_neg e0, if_pos e1]
    · by_cases e2 : b = q + 2
      · rw [if_neg e0, if_neg e1, if_pos e2, if_neg (by omega), if_neg (by omega), if_neg (by omega), if_neg (by omega), if_neg (by omega), if_neg (by omega), if_neg (by omega), if_neg (by omega), if_neg (by omega), if_neg e0, if_neg e1, if_pos e2]
      · rw [if_neg e0, if_neg e1, if_neg e2, if_neg e0, if_neg e0, if_neg e1, if_neg e2]
theorem wd_qstN {p : Program} {l : Launch} {e : Env} {R : Room} {s : State} {m : MethodId} {args : Array Value} {below : List Frame} {meth : Method} {c : Code} {H : Heap} {locs : List Loc} {cells slots : Nat} {Q : State → Prop} {cc : ByteArray} {pc : Nat} {ls : Array Slot} {rest : List Value} {D : va_G} {cl : List vw_C} {a s0 : Nat} {tys : List (ClassId × FieldType)} {w : wd_M} {H0 : Heap} (hexec : p.tables.exec = Jvm.exec) (hb : c.code = cc) (hK : va_K D cl tys s) (hP : wd_P D cl w H) (hS : va_S (fun q => s0 ≤ q) H0 H locs) (ha0 : s0 ≤ a) (t0 ci : Nat) {cA : ClassId} {r : vw_C} {n v k : Nat} {vs : List Value} {f : Nat → Option Nat} (ha : w a = some (.inl (cA, n, .inr (.inr (.inr (.inr f)))))) (ht : tys[t0]? = some (cA, .object r.1)) (hv : w v = some (.inr (ci, vs))) (hc : cl[ci]? = some r) (hk : k < n) (hn : n < 2 ^ 31) (hdg : decode cc pc = .ok (.aastore, 1))
    (kk : ∀ (H1 : Heap) (locs1 : List Loc), wd_P D cl (wd_up w a (.inl (cA, n, .inr (.inr (.inr (.inr (va_up f k (some v)))))))) H1 → va_S (fun q => s0 ≤ q) H0 H1 locs1 → H1.size = H.size → W p l e R s m args below meth c H1 locs1 cells slots Q (F0 m (pc + 1) ls rest)) : W p l e R s m args below meth c H locs cells slots Q (F0 m pc ls (.ref v :: .int (nI k) :: .ref a :: rest)) :=
  wd_astq hexec hb hK hP hS ha0 t0 ci ha ht hv hc (vp_in_nI hk hn) hdg (by rw [nI_clamp (Nat.lt_trans hk hn)]; exact kk)
set_option maxHeartbeats 4000000 in
set_option maxRecDepth 100000 in
theorem c_X3_keepPath_n (l : Launch) (g : gX) (s0 : Nat) (w : wd_M) (x : Nat) (hs0 : s0 ≤ x) (mo : Int32) (no : Int32) (sz : Int32) (rs : Int32) (wr : Int32) (lk : Nat → Int32) (ps : Nat → Option Nat) (fs : Nat → Int32) (ss : Nat → Int32) (ds : Nat → Int32) (lv : Nat → Int32) (P : Nat) (hP4 : P ≤ 40) (kd li : Int32) : Met l yX3_keepPath (Cond.code yX3_keepPath cX3_keepPath 5 (some .int) :: tg) ({ frames := 2, cells := 3, slots := 1066, locals := 39 }) (cP g s0 (xW g w x (nI P) mo no sz rs wr lk ps fs ss ds lv) [.ref x, .int (kd), .int (li), .null, .null]) (cI g s0 (fun r w' => ((40 ≤ P ∧ r = -4 ∧ w' = (xW g w x (nI P) mo no sz rs wr lk ps fs ss ds lv)) ∨ (P < 40 ∧ ∃ q, x + 9 ≤ q ∧ (∀ a, q ≤ a → w a = none) ∧ r = nI (P + 1) ∧ w' = (xW g (pW g w q (nI (P + 1)) kd li none none (lN (1 * 2 ^ (P + 1))) (-1) (nI 0) (fun _ => 0) (fun _ => 0)) x (nI (P + 1)) mo no sz rs wr lk (va_up ps (P + 1) (some q)) fs ss ds lv))))) 3 1066 (cA s0) := by
  refine Met.ofW (cc := cX3_keepPath) (maxL := 5) (ret := some .int) (by decide) rfl ?_
  intro p e s m args below meth c s₁ B9 hml hv
  obtain ⟨rfl, h0s, hP, hK⟩ := hv
  have hx := B9.exec
  have hb := B9.bytes
  have hr := B9.returns
  have hts := atoms_spec (ws := Cond.code yX3_keepPath cX3_keepPath 5 (some .int) :: tg) B9.pre
  have hown : s.vm.findClass RX3 = some m.cls := findClass_of_methodNamed B9.named
  have hlocks := B9.notSynchronized
  have hS : gS s0 s.heap s.heap [] := va_S.rf
  have hRm : 2 ≤ (headSpec (Cond.code yX3_keepPath cX3_keepPath 5 (some .int) :: tg) ({ frames := 2, cells := 3, slots := 1066, locals := 39 })).room.frames ∧ 39 ≤ (headSpec (Cond.code yX3_keepPath cX3_keepPath 5 (some .int) :: tg) ({ frames := 2, cells := 3, slots := 1066, locals := 39 })).room.locals := ⟨Nat.le_refl _, Nat.le_refl _⟩
  have hcs : 0 + 0 ≤ (headSpec (Cond.code yX3_keepPath cX3_keepPath 5 (some .int) :: tg) ({ frames := 2, cells := 3, slots := 1066, locals := 39 })).room.cells ∧ 0 + 0 ≤ (headSpec (Cond.code yX3_keepPath cX3_keepPath 5 (some .int) :: tg) ({ frames := 2, cells := 3, slots := 1066, locals := 39 })).room.slots := ⟨Nat.zero_le _, Nat.zero_le _⟩
  have hl := lv_entry ([.ref x, .int (kd), .int (li), .null, .null]) (n := 5) (Nat.le_of_ble_eq_true rfl)
  rw [lg_entry_eq]
  generalize (lg_sl ([.ref x, .int (kd), .int (li), .null, .null]) ++ List.replicate (5 - (lg_sl ([.ref x, .int (kd), .int (li), .null, .null])).length) Slot.unset).toArray = ls at hl ⊢
  have hl : lv_has ls 5 [(0, .ref x), (1, .int (kd)), (2, .int (li)), (3, .null), (4, .null)] := hl
  refine lv_aload_n hx hb dX3_keepPath_0 rfl (lv_at hl 0 rfl) ?_
  refine wd_get (ci := 4) (v := .int (nI P)) (C := RX3) (T := TX3) (N := 6) hx hb hts iwX3 hown hK.1 hP (xW_0) rfl 4 (by decide) (hts _ (tg_tail _ tw_73)) (fun _ h9 => h9) rfl dX3_keepPath_1 ?_
  refine lv_bipush (v := nI 40) hx hb dX3_keepPath_4 (by decide) ?_
  refine lv_icmp_lt (tgt := 12) hx hb dX3_keepPath_6 (by decide) (fun c_6 => ?_) (fun c_6 => ?_)
  · have c_6 := (nI_ltI (a := P) (b := 40) (by omega) (by omega)).mp c_6
    refine lv_aload_n hx hb dX3_keepPath_12 rfl (lv_at hl 0 rfl) ?_
    refine lv_dup hx hb dX3_keepPath_13 rfl ?_
    refine wd_get (ci := 4) (v := .int (nI P)) (C := RX3) (T := TX3) (N := 6) hx hb hts iwX3 hown hK.1 hP (xW_0) rfl 4 (by decide) (hts _ (tg_tail _ tw_73)) (fun _ h9 => h9) rfl dX3_keepPath_14 ?_
    refine lv_iconst (v := nI 1) hx hb dX3_keepPath_17 (by decide) ?_
    refine lv_iadd hx hb dX3_keepPath_18 ?_
    refine wd_ti (x' := nI (P + 1)) (nI_add _ _) ?_
    refine wd_put (ci := 4) (v := .int (nI (P + 1))) (ty := .int) (C := RX3) (T := TX3) (N := 6) hx hb hts iwX3 tyX3 tyX3_ok nmX3 hown hK.1 hP hS (by omega) (xW_0) rfl 4 (by decide) (hts _ (tg_tail _ tw_73)) (fun _ h9 => h9) rfl (by decide +kernel) (rfl) (rfl) (Nat.le_of_ble_eq_true rfl) dX3_keepPath_19 (fun H locs hP hS hz => ?_)
    have hP : gP g (xW g w x (nI (P + 1)) mo no sz rs wr lk ps fs ss ds lv) H := by have h9 : gP g (wd_up (xW g w x (nI P) mo no sz rs wr lk ps fs ss ds lv) x (.inr (4, [.ref (x + 1), .ref (x + 3), .ref (x + 4), .ref (x + 8), .int (nI (P + 1)), .int (mo)]))) H := hP; rw [xW_s0] at h9; exact h9
    refine lv_aload_n hx hb dX3_keepPath_22 rfl (lv_at hl 0 rfl) ?_
    refine wd_get (ci := 4) (v := .ref (x + 3)) (C := RX3) (T := TX3) (N := 6) hx hb hts iwX3 hown hK.1 hP (xW_0) rfl 1 (by decide) (hts _ (tg_tail _ tw_70)) (fun _ h9 => h9) rfl dX3_keepPath_23 ?_
    refine lv_aload_n hx hb dX3_keepPath_26 rfl (lv_at hl 0 rfl) ?_
    refine wd_get (ci := 4) (v := .int (nI (P + 1))) (C := RX3) (T := TX3) (N := 6) hx hb hts iwX3 hown hK.1 hP (xW_0) rfl 4 (by decide) (hts _ (tg_tail _ tw_73)) (fun _ h9 => h9) rfl dX3_keepPath_27 ?_
    obtain ⟨q, hsz⟩ : ∃ q, H.size = q := ⟨_, rfl⟩
    have hq8 : x + 8 < q := by rw [← hsz]; exact hP.lt xW_8
    have hfr : ∀ a, q ≤ a → w a = none := fun a ha => by have h9 := hP.fresh (a := a) (by rw [hsz]; exact ha); rw [xW_out (by omega)] at h9; exact h9
    refine wd_newZ (ci := 1) (fs := [.int (0), .int (0), .int (0), .null, .null, .long (0), .null, .null, .int (0), .int (0)]) (C := RX0) (T := TX0) (N := 10) (q := q) hx hb hts iwX0 tyX0 tyX0_ok hown (hts _ (tg_tail _ tw_41)) (hts _ (tg_tail _ tw_117)) (hts _ (tg_tail _ tw_5)) hK.1 hP hS rfl (fun j hj => by rcases (show j = 0 ∨ j = 1 ∨ j = 2 ∨ j = 3 ∨ j = 4 ∨ j = 5 ∨ j = 6 ∨ j = 7 ∨ j = 8 ∨ j = 9 by omega) with rfl | rfl | rfl | rfl | rfl | rfl | rfl | rfl | rfl | rfl <;> rfl) (by decide +kernel) (by decide +kernel) hsz dX3_keepPath_30 (fun H hsz hn9 hP hS => ?_)
    rw [xW_up (by omega)] at hP
    refine lv_dup hx hb dX3_keepPath_33 rfl ?_
    refine lv_aload_n hx hb dX3_keepPath_34 rfl (lv_at hl 0 rfl) ?_
    refine wd_get (ci := 4) (v := .int (nI (P + 1))) (C := RX3) (T := TX3) (N := 6) hx hb hts iwX3 hown hK.1 hP (xW_0) rfl 4 (by decide) (hts _ (tg_tail _ tw_73)) (fun _ h9 => h9) rfl dX3_keepPath_35 ?_
    refine lv_iload_n hx hb dX3_keepPath_38 rfl (lv_at hl 1 rfl) ?_
    refine lv_iload_n hx hb dX3_keepPath_39 rfl (lv_at hl 2 rfl) ?_
    refine lv_aload_nN hx hb dX3_keepPath_40 rfl (lv_at hl 3 rfl) ?_
    refine lv_aloadN hx hb dX3_keepPath_41 (lv_at hl 4 rfl) ?_
    refine cr_Iz (As := [.int (nI (P + 1)), .int (kd), .int (li), .null, .null]) (rest := [.ref q, .int (nI (P + 1)), .ref (x + 3)]) ⟨hx, hb, hml, hown, hts⟩ (c_X0_init_n l g s0 (xW g (wd_up w q (.inr (1, [.int (0), .int (0), .int (0), .null, .null, .long (0), .null, .null, .int (0), .int (0)]))) x (nI (P + 1)) mo no sz rs wr lk ps fs ss ds lv) q (by omega) ((xW_out (by omega)).trans wd_us) (P + 1) (by omega) kd li) (cw_I 5 hts tg_tail tw_118 tw_119 tw_5 tw_120 rfl rfl rfl (by decide +kernel) ⟨Nat.le_trans (by decide) hRm.1, Nat.le_trans (by decide) hRm.2⟩) hK hP h0s hS hsz rfl hl.1 rfl (Nat.le_of_ble_eq_true rfl) dX3_keepPath_43 ⟨by decide +kernel, by decide +kernel⟩ (fun w9 H locs hw hP hS hsz => ?_)
    rw [hw, xW_pW (by omega)] at hP
    refine wd_qstN hx hb hK.1 hP hS (by omega) 2 1 (k := (P + 1)) xW_3 rfl ((xW_out (by omega)).trans pW_0) rfl (by omega) (by decide) dX3_keepPath_46 (fun H locs hP hS hz => ?_)
    have hP : gP g (xW g (pW g w q (nI (P + 1)) kd li none none (lN (1 * 2 ^ (P + 1))) (-1) (nI 0) (fun _ => 0) (fun _ => 0)) x (nI (P + 1)) mo no sz rs wr lk (va_up ps (P + 1) (some q)) fs ss ds lv) H := by have h9 : gP g (wd_up (xW g (pW g w q (nI (P + 1)) kd li none none (lN (1 * 2 ^ (P + 1))) (-1) (nI 0) (fun _ => 0) (fun _ => 0)) x (nI (P + 1)) mo no sz rs wr lk ps fs ss ds lv) (x + 3) (wd_qA (g.2 2) 41 (va_up ps (P + 1) (some q)))) H := hP; rw [xW_s3] at h9; exact h9
    refine lv_aload_n hx hb dX3_keepPath_47 rfl (lv_at hl 0 rfl) ?_
    refine wd_get (ci := 4) (v := .int (nI (P + 1))) (C := RX3) (T := TX3) (N := 6) hx hb hts iwX3 hown hK.1 hP (xW_0) rfl 4 (by decide) (hts _ (tg_tail _ tw_73)) (fun _ h9 => h9) rfl dX3_keepPath_48 ?_
    refine W.widen (k := 3) (n := 1066) (by decide +kernel) (by decide +kernel) ?_
    exact W.iret (v := nI (P + 1)) hx hb hr (fun t9 ht hW => ⟨⟨_, (xW g (pW g w q (nI (P + 1)) kd li none none (lN (1 * 2 ^ (P + 1))) (-1) (nI 0) (fun _ => 0) (fun _ => 0)) x (nI (P + 1)) mo no sz rs wr lk (va_up ps (P + 1) (some q)) fs ss ds lv), rfl, Or.inr ⟨by omega, q, by omega, hfr, rfl, rfl⟩, cB_of ht hP⟩, hS.F ht⟩) hS.2.2 dX3_keepPath_51
  · have c_6 := mt (nI_ltI (a := P) (b := 40) (by omega) (by omega)).mpr c_6
    refine lv_bipush (v := (-4)) hx hb dX3_keepPath_9 (by decide) ?_
    refine W.widen (k := 3) (n := 1066) (Nat.zero_le _) (Nat.zero_le _) ?_
    exact W.iret (v := (-4)) hx hb hr (fun t9 ht hW => ⟨⟨_, (xW g w x (nI P) mo no sz rs wr lk ps fs ss ds lv), rfl, Or.inl ⟨by omega, rfl, rfl⟩, cB_of ht hP⟩, hS.F ht⟩) hS.2.2 dX3_keepPath_11

set_option maxHeartbeats 4000000 in
set_option maxRecDepth 100000 in
theorem c_X3_keepPath_i (l : Launch) (g : gX) (s0 : Nat) (w : wd_M) (x : Nat) (hs0 : s0 ≤ x) (mo : Int32) (no : Int32) (sz : Int32) (rs : Int32) (wr : Int32) (lk : Nat → Int32) (ps : Nat → Option Nat) (fs : Nat → Int32) (ss : Nat → Int32) (ds : Nat → Int32) (lv : Nat → Int32) (P : Nat) (hP4 : P ≤ 40) (kd li : Int32) (q2 : Nat) (k2 kd2 li2 : Int32) (inn2 oth2 : Option Nat) (cs2 cg2 : Int32) (pm2 : Nat) (hpm2 : pm2 < 2 ^ 63) (J2 : Nat → Int32) (L2 : w q2 = some (pO k2 kd2 li2 inn2 oth2 (lN pm2) (q2 + 1) (q2 + 2) cs2 cg2)) (L2j : w (q2 + 2) = some (wd_iA (g.2 0) 32 J2)) (hx2 : q2 < x ∧ q2 + 3 ≤ x ∨ x + 9 ≤ q2) : Met l yX3_keepPath (Cond.code yX3_keepPath cX3_keepPath 5 (some .int) :: tg) ({ frames := 2, cells := 3, slots := 1066, locals := 39 }) (cP g s0 (xW g w x (nI P) mo no sz rs wr lk ps fs ss ds lv) [.ref x, .int (kd), .int (li), .ref q2, .null]) (cI g s0 (fun r w' => ((40 ≤ P ∧ r = -4 ∧ w' = (xW g w x (nI P) mo no sz rs wr lk ps fs ss ds lv)) ∨ (P < 40 ∧ ∃ q, x + 9 ≤ q ∧ (∀ a, q ≤ a → w a = none) ∧ r = nI (P + 1) ∧ w' = (xW g (pW g w q (nI (P + 1)) kd li (some q2) none (lN (1 * 2 ^ (P + 1) ||| pm2)) (-1) (nI 0) (fun _ => 0) (fun _ => 0)) x (nI (P + 1)) mo no sz rs wr lk (va_up ps (P + 1) (some q)) fs ss ds lv))))) 3 1066 (cA s0) := by
  refine Met.ofW (cc := cX3_keepPath) (maxL := 5) (ret := some .int) (by decide) rfl ?_
  intro p e s m args below meth c s₁ B9 hml hv
  obtain ⟨rfl, h0s, hP, hK⟩ := hv
  have hx := B9.exec
  have hb := B9.bytes
  have hr := B9.returns
  have hts := atoms_spec (ws := Cond.code yX3_keepPath cX3_keepPath 5 (some .int) :: tg) B9.pre
  have hown : s.vm.findClass RX3 = some m.cls := findClass_of_methodNamed B9.named
  have hlocks := B9.notSynchronized
  have hS : gS s0 s.heap s.heap [] := va_S.rf
  have hRm : 2 ≤ (headSpec (Cond.code yX3_keepPath cX3_keepPath 5 (some .int) :: tg) ({ frames := 2, cells := 3, slots := 1066, locals := 39 })).room.frames ∧ 39 ≤ (headSpec (Cond.code yX3_keepPath cX3_keepPath 5 (some .int) :: tg) ({ frames := 2, cells := 3, slots := 1066, locals := 39 })).room.locals := ⟨Nat.le_refl _, Nat.le_refl _⟩
  have hcs : 0 + 0 ≤ (headSpec (Cond.code yX3_keepPath cX3_keepPath 5 (some .int) :: tg) ({ frames := 2, cells := 3, slots := 1066, locals := 39 })).room.cells ∧ 0 + 0 ≤ (headSpec (Cond.code yX3_keepPath cX3_keepPath 5 (some .int) :: tg) ({ frames := 2, cells := 3, slots := 1066, locals := 39 })).room.slots := ⟨Nat.zero_le _, Nat.zero_le _⟩
  have hl := lv_entry ([.ref x, .int (kd), .int (li), .ref q2, .null]) (n := 5) (Nat.le_of_ble_eq_true rfl)
  rw [lg_entry_eq]
  generalize (lg_sl ([.ref x, .int (kd), .int (li), .ref q2, .null]) ++ List.replicate (5 - (lg_sl ([.ref x, .int (kd), .int (li), .ref q2, .null])).length) Slot.unset).toArray = ls at hl ⊢
  have hl : lv_has ls 5 [(0, .ref x), (1, .int (kd)), (2, .int (li)), (3, .ref q2), (4, .null)] := hl
  refine lv_aload_n hx hb dX3_keepPath_0 rfl (lv_at hl 0 rfl) ?_
  refine wd_get (ci := 4) (v := .int (nI P)) (C := RX3) (T := TX3) (N := 6) hx hb hts iwX3 hown hK.1 hP (xW_0) rfl 4 (by decide) (hts _ (tg_tail _ tw_73)) (fun _ h9 => h9) rfl dX3_keepPath_1 ?_
  refine lv_bipush (v := nI 40) hx hb dX3_keepPath_4 (by decide) ?_
  refine lv_icmp_lt (tgt := 12) hx hb dX3_keepPath_6 (by decide) (fun c_6 => ?_) (fun c_6 => ?_)
  · have c_6 := (nI_ltI (a := P) (b := 40) (by omega) (by omega)).mp c_6
    refine lv_aload_n hx hb dX3_keepPath_12 rfl (lv_at hl 0 rfl) ?_
    refine lv_dup hx hb dX3_keepPath_13 rfl ?_
    refine wd_get (ci := 4) (v := .int (nI P)) (C := RX3) (T := TX3) (N := 6) hx hb hts iwX3 hown hK.1 hP (xW_0) rfl 4 (by decide) (hts _ (tg_tail _ tw_73)) (fun _ h9 => h9) rfl dX3_keepPath_14 ?_
    refine lv_iconst (v := nI 1) hx hb dX3_keepPath_17 (by decide) ?_
    refine lv_iadd hx hb dX3_keepPath_18 ?_
    refine wd_ti (x' := nI (P + 1)) (nI_add _ _) ?_
    refine wd_put (ci := 4) (v := .int (nI (P + 1))) (ty := .int) (C := RX3) (T := TX3) (N := 6) hx hb hts iwX3 tyX3 tyX3_ok nmX3 hown hK.1 hP hS (by omega) (xW_0) rfl 4 (by decide) (hts _ (tg_tail _ tw_73)) (fun _ h9 => h9) rfl (by decide +kernel) (rfl) (rfl) (Nat.le_of_ble_eq_true rfl) dX3_keepPath_19 (fun H locs hP hS hz => ?_)
    have hP : gP g (xW g w x (nI (P + 1)) mo no sz rs wr lk ps fs ss ds lv) H := by have h9 : gP g (wd_up (xW g w x (nI P) mo no sz rs wr lk ps fs ss ds lv) x (.inr (4, [.ref (x + 1), .ref (x + 3), .ref (x + 4), .ref (x + 8), .int (nI (P + 1)), .int (mo)]))) H := hP; rw [xW_s0] at h9; exact h9
    refine lv_aload_n hx hb dX3_keepPath_22 rfl (lv_at hl 0 rfl) ?_
    refine wd_get (ci := 4) (v := .ref (x + 3)) (C := RX3) (T := TX3) (N := 6) hx hb hts iwX3 hown hK.1 hP (xW_0) rfl 1 (by decide) (hts _ (tg_tail _ tw_70)) (fun _ h9 => h9) rfl dX3_keepPath_23 ?_
    refine lv_aload_n hx hb dX3_keepPath_26 rfl (lv_at hl 0 rfl) ?_
    refine wd_get (ci := 4) (v := .int (nI (P + 1))) (C := RX3) (T := TX3) (N := 6) hx hb hts iwX3 hown hK.1 hP (xW_0) rfl 4 (by decide) (hts _ (tg_tail _ tw_73)) (fun _ h9 => h9) rfl dX3_keepPath_27 ?_
    obtain ⟨q, hsz⟩ : ∃ q, H.size = q := ⟨_, rfl⟩
    have hq8 : x + 8 < q := by rw [← hsz]; exact hP.lt xW_8
    have hfr : ∀ a, q ≤ a → w a = none := fun a ha => by have h9 := hP.fresh (a := a) (by rw [hsz]; exact ha); rw [xW_out (by omega)] at h9; exact h9
    have hl2 : q2 + 2 < q := by rw [← hsz]; exact hP.lt ((xW_out (by omega)).trans L2j)
    refine wd_newZ (ci := 1) (fs := [.int (0), .int (0), .int (0), .null, .null, .long (0), .null, .null, .int (0), .int (0)]) (C := RX0) (T := TX0) (N := 10) (q := q) hx hb hts iwX0 tyX0 tyX0_ok hown (hts _ (tg_tail _ tw_41)) (hts _ (tg_tail _ tw_117)) (hts _ (tg_tail _ tw_5)) hK.1 hP hS rfl (fun j hj => by rcases (show j = 0 ∨ j = 1 ∨ j = 2 ∨ j = 3 ∨ j = 4 ∨ j = 5 ∨ j = 6 ∨ j = 7 ∨ j = 8 ∨ j = 9 by omega) with rfl | rfl | rfl | rfl | rfl | rfl | rfl | rfl | rfl | rfl <;> rfl) (by decide +kernel) (by decide +kernel) hsz dX3_keepPath_30 (fun H hsz hn9 hP hS => ?_)
    rw [xW_up (by omega)] at hP
    refine lv_dup hx hb dX3_keepPath_33 rfl ?_
    refine lv_aload_n hx hb dX3_keepPath_34 rfl (lv_at hl 0 rfl) ?_
    refine wd_get (ci := 4) (v := .int (nI (P + 1))) (C := RX3) (T := TX3) (N := 6) hx hb hts iwX3 hown hK.1 hP (xW_0) rfl 4 (by decide) (hts _ (tg_tail _ tw_73)) (fun _ h9 => h9) rfl dX3_keepPath_35 ?_
    refine lv_iload_n hx hb dX3_keepPath_38 rfl (lv_at hl 1 rfl) ?_
    refine lv_iload_n hx hb dX3_keepPath_39 rfl (lv_at hl 2 rfl) ?_
    refine lv_aload_n hx hb dX3_keepPath_40 rfl (lv_at hl 3 rfl) ?_
    refine lv_aloadN hx hb dX3_keepPath_41 (lv_at hl 4 rfl) ?_
    refine cr_Iz (As := [.int (nI (P + 1)), .int (kd), .int (li), .ref q2, .null]) (rest := [.ref q, .int (nI (P + 1)), .ref (x + 3)]) ⟨hx, hb, hml, hown, hts⟩ (c_X0_init_i l g s0 (xW g (wd_up w q (.inr (1, [.int (0), .int (0), .int (0), .null, .null, .long (0), .null, .null, .int (0), .int (0)]))) x (nI (P + 1)) mo no sz rs wr lk ps fs ss ds lv) q (by omega) ((xW_out (by omega)).trans wd_us) (P + 1) (by omega) kd li q2 k2 kd2 li2 inn2 oth2 cs2 cg2 pm2 hpm2 ((xW_out (by omega)).trans ((wd_un (by omega)).trans L2)) (by omega)) (cw_I 5 hts tg_tail tw_118 tw_119 tw_5 tw_120 rfl rfl rfl (by decide +kernel) ⟨Nat.le_trans (by decide) hRm.1, Nat.le_trans (by decide) hRm.2⟩) hK hP h0s hS hsz rfl hl.1 rfl (Nat.le_of_ble_eq_true rfl) dX3_keepPath_43 ⟨by decide +kernel, by decide +kernel⟩ (fun w9 H locs hw hP hS hsz => ?_)
    rw [hw, xW_pW (by omega)] at hP
    refine wd_qstN hx hb hK.1 hP hS (by omega) 2 1 (k := (P + 1)) xW_3 rfl ((xW_out (by omega)).trans pW_0) rfl (by omega) (by decide) dX3_keepPath_46 (fun H locs hP hS hz => ?_)
    have hP : gP g (xW g (pW g w q (nI (P + 1)) kd li (some q2) none (lN (1 * 2 ^ (P + 1) ||| pm2)) (-1) (nI 0) (fun _ => 0) (fun _ => 0)) x (nI (P + 1)) mo no sz rs wr lk (va_up ps (P + 1) (some q)) fs ss ds lv) H := by have h9 : gP g (wd_up (xW g (pW g w q (nI (P + 1)) kd li (some q2) none (lN (1 * 2 ^ (P + 1) ||| pm2)) (-1) (nI 0) (fun _ => 0) (fun _ => 0)) x (nI (P + 1)) mo no sz rs wr lk ps fs ss ds lv) (x + 3) (wd_qA (g.2 2) 41 (va_up ps (P + 1) (some q)))) H := hP; rw [xW_s3] at h9; exact h9
    refine lv_aload_n hx hb dX3_keepPath_47 rfl (lv_at hl 0 rfl) ?_
    refine wd_get (ci := 4) (v := .int (nI (P + 1))) (C := RX3) (T := TX3) (N := 6) hx hb hts iwX3 hown hK.1 hP (xW_0) rfl 4 (by decide) (hts _ (tg_tail _ tw_73)) (fun _ h9 => h9) rfl dX3_keepPath_48 ?_
    refine W.widen (k := 3) (n := 1066) (by decide +kernel) (by decide +kernel) ?_
    exact W.iret (v := nI (P + 1)) hx hb hr (fun t9 ht hW => ⟨⟨_, (xW g (pW g w q (nI (P + 1)) kd li (some q2) none (lN (1 * 2 ^ (P + 1) ||| pm2)) (-1) (nI 0) (fun _ => 0) (fun _ => 0)) x (nI (P + 1)) mo no sz rs wr lk (va_up ps (P + 1) (some q)) fs ss ds lv), rfl, Or.inr ⟨by omega, q, by omega, hfr, rfl, rfl⟩, cB_of ht hP⟩, hS.F ht⟩) hS.2.2 dX3_keepPath_51
  · have c_6 := mt (nI_ltI (a := P) (b := 40) (by omega) (by omega)).mpr c_6
    refine lv_bipush (v := (-4)) hx hb dX3_keepPath_9 (by decide) ?_
    refine W.widen (k := 3) (n := 1066) (Nat.zero_le _) (Nat.zero_le _) ?_
    exact W.iret (v := (-4)) hx hb hr (fun t9 ht hW => ⟨⟨_, (xW g w x (nI P) mo no sz rs wr lk ps fs ss ds lv), rfl, Or.inl ⟨by omega, rfl, rfl⟩, cB_of ht hP⟩, hS.F ht⟩) hS.2.2 dX3_keepPath_11

set_option maxHeartbeats 4000000 in
set_option maxRecDepth 100000 in
theorem c_X3_keepPath_b (l : Launch) (g : gX) (s0 : Nat) (w : wd_M) (x : Nat) (hs0 : s0 ≤ x) (mo : Int32) (no : Int32) (sz : Int32) (rs : Int32) (wr : Int32) (lk : Nat → Int32) (ps : Nat → Option Nat) (fs : Nat → Int32) (ss : Nat → Int32) (ds : Nat → Int32) (lv : Nat → Int32) (P : Nat) (hP4 : P ≤ 40) (kd li : Int32) (q2 : Nat) (k2 kd2 li2 : Int32) (inn2 oth2 : Option Nat) (cs2 cg2 : Int32) (pm2 : Nat) (hpm2 : pm2 < 2 ^ 63) (J2 : Nat → Int32) (L2 : w q2 = some (pO k2 kd2 li2 inn2 oth2 (lN pm2) (q2 + 1) (q2 + 2) cs2 cg2)) (L2j : w (q2 + 2) = some (wd_iA (g.2 0) 32 J2)) (hx2 : q2 < x ∧ q2 + 3 ≤ x ∨ x + 9 ≤ q2) (q3 : Nat) (k3 kd3 li3 : Int32) (inn3 oth3 : Option Nat) (cs3 cg3 : Int32) (pm3 : Nat) (hpm3 : pm3 < 2 ^ 63) (J3 : Nat → Int32) (L3 : w q3 = some (pO k3 kd3 li3 inn3 oth3 (lN pm3) (q3 + 1) (q3 + 2) cs3 cg3)) (L3j : w (q3 + 2) = some (wd_iA (g.2 0) 32 J3)) (hx3 : q3 < x ∧ q3 + 3 ≤ x ∨ x + 9 ≤ q3) : Met l yX3_keepPath (Cond.code yX3_keepPath cX3_keepPath 5 (some .int) :: tg) ({ frames := 2, cells := 3, slots := 1066, locals := 39 }) (cP g s0 (xW g w x (nI P) mo no sz rs wr lk ps fs ss ds lv) [.ref x, .int (kd), .int (li), .ref q2, .ref q3]) (cI g s0 (fun r w' => ((40 ≤ P ∧ r = -4 ∧ w' = (xW g w x (nI P) mo no sz rs wr lk ps fs ss ds lv)) ∨ (P < 40 ∧ ∃ q, x + 9 ≤ q ∧ (∀ a, q ≤ a → w a = none) ∧ r = nI (P + 1) ∧ w' = (xW g (pW g w q (nI (P + 1)) kd li (some q2) (some q3) (lN (1 * 2 ^ (P + 1) ||| pm2 ||| pm3)) (-1) (nI 0) (fun _ => 0) (fun _ => 0)) x (nI (P + 1)) mo no sz rs wr lk (va_up ps (P + 1) (some q)) fs ss ds lv))))) 3 1066 (cA s0) := by
  refine Met.ofW (cc := cX3_keepPath) (maxL := 5) (ret := some .int) (by decide) rfl ?_
  intro p e s m args below meth c s₁ B9 hml hv
  obtain ⟨rfl, h0s, hP, hK⟩ := hv
  have hx := B9.exec
  have hb := B9.bytes
  have hr := B9.returns
  have hts := atoms_spec (ws := Cond.code yX3_keepPath cX3_keepPath 5 (some .int) :: tg) B9.pre
  have hown : s.vm.findClass RX3 = some m.cls := findClass_of_methodNamed B9.named
  have hlocks := B9.notSynchronized
  have hS : gS s0 s.heap s.heap [] := va_S.rf
  have hRm : 2 ≤ (headSpec (Cond.code yX3_keepPath cX3_keepPath 5 (some .int) :: tg) ({ frames := 2, cells := 3, slots := 1066, locals := 39 })).room.frames ∧ 39 ≤ (headSpec (Cond.code yX3_keepPath cX3_keepPath 5 (some .int) :: tg) ({ frames := 2, cells := 3, slots := 1066, locals := 39 })).room.locals := ⟨Nat.le_refl _, Nat.le_refl _⟩
  have hcs : 0 + 0 ≤ (headSpec (Cond.code yX3_keepPath cX3_keepPath 5 (some .int) :: tg) ({ frames := 2, cells := 3, slots := 1066, locals := 39 })).room.cells ∧ 0 + 0 ≤ (headSpec (Cond.code yX3_keepPath cX3_keepPath 5 (some .int) :: tg) ({ frames := 2, cells := 3, slots := 1066, locals := 39 })).room.slots := ⟨Nat.zero_le _, Nat.zero_le _⟩
  have hl := lv_entry ([.ref x, .int (kd), .int (li), .ref q2, .ref q3]) (n := 5) (Nat.le_of_ble_eq_true rfl)
  rw [lg_entry_eq]
  generalize (lg_sl ([.ref x, .int (kd), .int (li), .ref q2, .ref q3]) ++ List.replicate (5 - (lg_sl ([.ref x, .int (kd), .int (li), .ref q2, .ref q3])).length) Slot.unset).toArray = ls at hl ⊢
  have hl : lv_has ls 5 [(0, .ref x), (1, .int (kd)), (2, .int (li)), (3, .ref q2), (4, .ref q3)] := hl
  refine lv_aload_n hx hb dX3_keepPath_0 rfl (lv_at hl 0 rfl) ?_
  refine wd_get (ci := 4) (v := .int (nI P)) (C := RX3) (T := TX3) (N := 6) hx hb hts iwX3 hown hK.1 hP (xW_0) rfl 4 (by decide) (hts _ (tg_tail _ tw_73)) (fun _ h9 => h9) rfl dX3_keepPath_1 ?_
  refine lv_bipush (v := nI 40) hx hb dX3_keepPath_4 (by decide) ?_
  refine lv_icmp_lt (tgt := 12) hx hb dX3_keepPath_6 (by decide) (fun c_6 => ?_) (fun c_6 => ?_)
  · have c_6 := (nI_ltI (a := P) (b := 40) (by omega) (by omega)).mp c_6
    refine lv_aload_n hx hb dX3_keepPath_12 rfl (lv_at hl 0 rfl) ?_
    refine lv_dup hx hb dX3_keepPath_13 rfl ?_
    refine wd_get (ci := 4) (v := .int (nI P)) (C := RX3) (T := TX3) (N := 6) hx hb hts iwX3 hown hK.1 hP (xW_0) rfl 4 (by decide) (hts _ (tg_tail _ tw_73)) (fun _ h9 => h9) rfl dX3_keepPath_14 ?_
    refine lv_iconst (v := nI 1) hx hb dX3_keepPath_17 (by decide) ?_
    refine lv_iadd hx hb dX3_keepPath_18 ?_
    refine wd_ti (x' := nI (P + 1)) (nI_add _ _) ?_
    refine wd_put (ci := 4) (v := .int (nI (P + 1))) (ty := .int) (C := RX3) (T := TX3) (N := 6) hx hb hts iwX3 tyX3 tyX3_ok nmX3 hown hK.1 hP hS (by omega) (xW_0) rfl 4 (by decide) (hts _ (tg_tail _ tw_73)) (fun _ h9 => h9) rfl (by decide +kernel) (rfl) (rfl) (Nat.le_of_ble_eq_true rfl) dX3_keepPath_19 (fun H locs hP hS hz => ?_)
    have hP : gP g (xW g w x (nI (P + 1)) mo no sz rs wr lk ps fs ss ds lv) H := by have h9 : gP g (wd_up (xW g w x (nI P) mo no sz rs wr lk ps fs ss ds lv) x (.inr (4, [.ref (x + 1), .ref (x + 3), .ref (x + 4), .ref (x + 8), .int (nI (P + 1)), .int (mo)]))) H := hP; rw [xW_s0] at h9; exact h9
    refine lv_aload_n hx hb dX3_keepPath_22 rfl (lv_at hl 0 rfl) ?_
    refine wd_get (ci := 4) (v := .ref (x + 3)) (C := RX3) (T := TX3) (N := 6) hx hb hts iwX3 hown hK.1 hP (xW_0) rfl 1 (by decide) (hts _ (tg_tail _ tw_70)) (fun _ h9 => h9) rfl dX3_keepPath_23 ?_
    refine lv_aload_n hx hb dX3_keepPath_26 rfl (lv_at hl 0 rfl) ?_
    refine wd_get (ci := 4) (v := .int (nI (P + 1))) (C := RX3) (T := TX3) (N := 6) hx hb hts iwX3 hown hK.1 hP (xW_0) rfl 4 (by decide) (hts _ (tg_tail _ tw_73)) (fun _ h9 => h9) rfl dX3_keepPath_27 ?_
    obtain ⟨q, hsz⟩ : ∃ q, H.size = q := ⟨_, rfl⟩
    have hq8 : x + 8 < q := by rw [← hsz]; exact hP.lt xW_8
    have hfr : ∀ a, q ≤ a → w a = none := fun a ha => by have h9 := hP.fresh (a := a) (by rw [hsz]; exact ha); rw [xW_out (by omega)] at h9; exact h9
    have hl2 : q2 + 2 < q := by rw [← hsz]; exact hP.lt ((xW_out (by omega)).trans L2j)
    have hl3 : q3 + 2 < q := by rw [← hsz]; exact hP.lt ((xW_out (by omega)).trans L3j)
    refine wd_newZ (ci := 1) (fs := [.int (0), .int (0), .int (0), .null, .null, .long (0), .null, .null, .int (0), .int (0)]) (C := RX0) (T := TX0) (N := 10) (q := q) hx hb hts iwX0 tyX0 tyX0_ok hown (hts _ (tg_tail _ tw_41)) (hts _ (tg_tail _ tw_117)) (hts _ (tg_tail _ tw_5)) hK.1 hP hS rfl (fun j hj => by rcases (show j = 0 ∨ j = 1 ∨ j = 2 ∨ j = 3 ∨ j = 4 ∨ j = 5 ∨ j = 6 ∨ j = 7 ∨ j = 8 ∨ j = 9 by omega) with rfl | rfl | rfl | rfl | rfl | rfl | rfl | rfl | rfl | rfl <;> rfl) (by decide +kernel) (by decide +kernel) hsz dX3_keepPath_30 (fun H hsz hn9 hP hS => ?_)
    rw [xW_up (by omega)] at hP
    refine lv_dup hx hb dX3_keepPath_33 rfl ?_
    refine lv_aload_n hx hb dX3_keepPath_34 rfl (lv_at hl 0 rfl) ?_
    refine wd_get (ci := 4) (v := .int (nI (P + 1))) (C := RX3) (T := TX3) (N := 6) hx hb hts iwX3 hown hK.1 hP (xW_0) rfl 4 (by decide) (hts _ (tg_tail _ tw_73)) (fun _ h9 => h9) rfl dX3_keepPath_35 ?_
    refine lv_iload_n hx hb dX3_keepPath_38 rfl (lv_at hl 1 rfl) ?_
    refine lv_iload_n hx hb dX3_keepPath_39 rfl (lv_at hl 2 rfl) ?_
    refine lv_aload_n hx hb dX3_keepPath_40 rfl (lv_at hl 3 rfl) ?_
    refine lv_aload hx hb dX3_keepPath_41 (lv_at hl 4 rfl) ?_
    refine cr_Iz (As := [.int (nI (P + 1)), .int (kd), .int (li), .ref q2, .ref q3]) (rest := [.ref q, .int (nI (P + 1)), .ref (x + 3)]) ⟨hx, hb, hml, hown, hts⟩ (c_X0_init_b l g s0 (xW g (wd_up w q (.inr (1, [.int (0), .int (0), .int (0), .null, .null, .long (0), .null, .null, .int (0), .int (0)]))) x (nI (P + 1)) mo no sz rs wr lk ps fs ss ds lv) q (by omega) ((xW_out (by omega)).trans wd_us) (P + 1) (by omega) kd li q2 k2 kd2 li2 inn2 oth2 cs2 cg2 pm2 hpm2 ((xW_out (by omega)).trans ((wd_un (by omega)).trans L2)) (by omega) q3 k3 kd3 li3 inn3 oth3 cs3 cg3 pm3 hpm3 ((xW_out (by omega)).trans ((wd_un (by omega)).trans L3)) (by omega)) (cw_I 5 hts tg_tail tw_118 tw_119 tw_5 tw_120 rfl rfl rfl (by decide +kernel) ⟨Nat.le_trans (by decide) hRm.1, Nat.le_trans (by decide) hRm.2⟩) hK hP h0s hS hsz rfl hl.1 rfl (Nat.le_of_ble_eq_true rfl) dX3_keepPath_43 ⟨by decide +kernel, by decide +kernel⟩ (fun w9 H locs hw hP hS hsz => ?_)
    rw [hw, xW_pW (by omega)] at hP
    refine wd_qstN hx hb hK.1 hP hS (by omega) 2 1 (k := (P + 1)) xW_3 rfl ((xW_out (by omega)).trans pW_0) rfl (by omega) (by decide) dX3_keepPath_46 (fun H locs hP hS hz => ?_)
    have hP : gP g (xW g (pW g w q (nI (P + 1)) kd li (some q2) (some q3) (lN (1 * 2 ^ (P + 1) ||| pm2 ||| pm3)) (-1) (nI 0) (fun _ => 0) (fun _ => 0)) x (nI (P + 1)) mo no sz rs wr lk (va_up ps (P + 1) (some q)) fs ss ds lv) H := by have h9 : gP g (wd_up (xW g (pW g w q (nI (P + 1)) kd li (some q2) (some q3) (lN (1 * 2 ^ (P + 1) ||| pm2 ||| pm3)) (-1) (nI 0) (fun _ => 0) (fun _ => 0)) x (nI (P + 1)) mo no sz rs wr lk ps fs ss ds lv) (x + 3) (wd_qA (g.2 2) 41 (va_up ps (P + 1) (some q)))) H := hP; rw [xW_s3] at h9; exact h9
    refine lv_aload_n hx hb dX3_keepPath_47 rfl (lv_at hl 0 rfl) ?_
    refine wd_get (ci := 4) (v := .int (nI (P + 1))) (C := RX3) (T := TX3) (N := 6) hx hb hts iwX3 hown hK.1 hP (xW_0) rfl 4 (by decide) (hts _ (tg_tail _ tw_73)) (fun _ h9 => h9) rfl dX3_keepPath_48 ?_
    refine W.widen (k := 3) (n := 1066) (by decide +kernel) (by decide +kernel) ?_
    exact W.iret (v := nI (P + 1)) hx hb hr (fun t9 ht hW => ⟨⟨_, (xW g (pW g w q (nI (P + 1)) kd li (some q2) (some q3) (lN (1 * 2 ^ (P + 1) ||| pm2 ||| pm3)) (-1) (nI 0) (fun _ => 0) (fun _ => 0)) x (nI (P + 1)) mo no sz rs wr lk (va_up ps (P + 1) (some q)) fs ss ds lv), rfl, Or.inr ⟨by omega, q, by omega, hfr, rfl, rfl⟩, cB_of ht hP⟩, hS.F ht⟩) hS.2.2 dX3_keepPath_51
  · have c_6 := mt (nI_ltI (a := P) (b := 40) (by omega) (by omega)).mpr c_6
    refine lv_bipush (v := (-4)) hx hb dX3_keepPath_9 (by decide) ?_
    refine W.widen (k := 3) (n := 1066) (Nat.zero_le _) (Nat.zero_le _) ?_
    exact W.iret (v := (-4)) hx hb hr (fun t9 ht hW => ⟨⟨_, (xW g w x (nI P) mo no sz rs wr lk ps fs ss ds lv), rfl, Or.inl ⟨by omega, rfl, rfl⟩, cB_of ht hP⟩, hS.F ht⟩) hS.2.2 dX3_keepPath_11

