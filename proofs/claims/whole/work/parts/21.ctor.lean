/-! THE CLASS: constructors -/
set_option maxHeartbeats 4000000 in
set_option maxRecDepth 100000 in
theorem c_X2_init (l : Launch) (g : gX) (s0 : Nat) (w : wd_M) (q : Nat) (hs0 : s0 ≤ q) (Lh : w q = some (.inr (3, [.null, .int (0), .int (0)]))) : Met l yX2_init (Cond.code yX2_init cX2_init 1 (none) :: tg) ({ frames := 1, cells := 1, slots := 1024, locals := 12 }) (cPz g s0 w (q + 1) [.ref q]) (cVz g s0 (q + 2) (fun w' => w' = (wd_up (wd_up w (q + 1) (wd_iA (g.2 0) 1024 (fun _ => 0))) q (.inr (3, [.ref (q + 1), .int (nI 0), .int (nI 0)]))))) 1 1024 (cA s0) := by
  refine Met.ofW (cc := cX2_init) (maxL := 1) (ret := none) (by decide) rfl ?_
  intro p e s m args below meth c s₁ B9 hml hv
  obtain ⟨rfl, hsz, h0s, hP, hK⟩ := hv
  have hx := B9.exec
  have hb := B9.bytes
  have hr := B9.returns
  have hts := atoms_spec (ws := Cond.code yX2_init cX2_init 1 (none) :: tg) B9.pre
  have hown : s.vm.findClass RX2 = some m.cls := findClass_of_methodNamed B9.named
  have hlocks := B9.notSynchronized
  have hin : meth.name = "<init>" := (name_of_methodNamed B9.named B9.method).1
  have hS : gS s0 s.heap s.heap [] := va_S.rf
  have hRm : 1 ≤ (headSpec (Cond.code yX2_init cX2_init 1 (none) :: tg) ({ frames := 1, cells := 1, slots := 1024, locals := 12 })).room.frames ∧ 12 ≤ (headSpec (Cond.code yX2_init cX2_init 1 (none) :: tg) ({ frames := 1, cells := 1, slots := 1024, locals := 12 })).room.locals := ⟨Nat.le_refl _, Nat.le_refl _⟩
  have hcs : 0 + 0 ≤ (headSpec (Cond.code yX2_init cX2_init 1 (none) :: tg) ({ frames := 1, cells := 1, slots := 1024, locals := 12 })).room.cells ∧ 0 + 0 ≤ (headSpec (Cond.code yX2_init cX2_init 1 (none) :: tg) ({ frames := 1, cells := 1, slots := 1024, locals := 12 })).room.slots := ⟨Nat.zero_le _, Nat.zero_le _⟩
  have hl := lv_entry ([.ref q]) (n := 1) (Nat.le_of_ble_eq_true rfl)
  rw [lg_entry_eq]
  generalize (lg_sl ([.ref q]) ++ List.replicate (1 - (lg_sl ([.ref q])).length) Slot.unset).toArray = ls at hl ⊢
  have hl : lv_has ls 1 [(0, .ref q)] := hl
  refine lv_aload_n hx hb dX2_init_0 rfl (lv_at hl 0 rfl) ?_
  refine W.objInit hx hb hown (hts _ (tg_tail _ tw_25)) (hts _ (tg_tail _ tw_18)) (hts _ (tg_tail _ tw_19)) rfl (by rw [hml]; exact hl.1) rfl dX2_init_1 (Nat.le_trans (by decide) hRm.1) (Nat.le_trans (Nat.le_of_ble_eq_true rfl) hRm.2) ?_
  refine W.eq (g2 := F0 m 4 ls []) rfl ?_
  refine lv_aload_n hx hb dX2_init_4 rfl (lv_at hl 0 rfl) ?_
  refine lv_sipush (v := nI 1024) hx hb dX2_init_5 (by decide +kernel) ?_
  refine wd_newiZ (atype := .int) (q := (q + 1)) hx hb (hts _ (tg_tail _ tw_40)) (ty := .int) rfl hK.1 hP hS 0 (cA := g.2 0) rfl (a0 := (1024, .inl (fun _ => 0))) (N' := 1024) (fun _ => rfl) (by decide +kernel) (by decide +kernel) (by decide +kernel) (by decide +kernel) (by decide +kernel) hsz dX2_init_8 (fun H hsz hP hS => ?_)
  refine wd_putF (ci := 3) (v := .ref (q + 1)) (ty := (.array .int)) (C := RX2) (T := TX2) (N := 3) hx hb hts iwX2 tyX2 tyX2_ok nmX2 hown hK.1 hP hS (by omega) ((wd_un (by omega)).trans (Lh)) rfl 0 (by decide) (hts _ (tg_tail _ tw_26)) (fun _ h9 => h9) rfl hin rfl (by decide +kernel) (rfl) (rfl) (Nat.le_of_ble_eq_true rfl) dX2_init_10 (fun H locs hP hS hz => ?_)
  have hsz := hz.trans hsz
  have hP : gP g (wd_up (wd_up w (q + 1) (wd_iA (g.2 0) 1024 (fun _ => 0))) q (.inr (3, [.ref (q + 1), .int (0), .int (0)]))) H := hP
  refine lv_aload_n hx hb dX2_init_13 rfl (lv_at hl 0 rfl) ?_
  refine lv_iconst (v := nI 0) hx hb dX2_init_14 (by decide) ?_
  refine wd_put (ci := 3) (v := .int (nI 0)) (ty := .int) (C := RX2) (T := TX2) (N := 3) hx hb hts iwX2 tyX2 tyX2_ok nmX2 hown hK.1 hP hS (by omega) (wd_us) rfl 1 (by decide) (hts _ (tg_tail _ tw_28)) (fun _ h9 => h9) rfl (by decide +kernel) (rfl) (rfl) (Nat.le_of_ble_eq_true rfl) dX2_init_15 (fun H locs hP hS hz => ?_)
  have hsz := hz.trans hsz
  have hP : gP g (wd_up (wd_up w (q + 1) (wd_iA (g.2 0) 1024 (fun _ => 0))) q (.inr (3, [.ref (q + 1), .int (nI 0), .int (0)]))) H := by have h9 := hP; rw [wd_uu] at h9; exact h9
  refine lv_aload_n hx hb dX2_init_18 rfl (lv_at hl 0 rfl) ?_
  refine lv_iconst (v := nI 0) hx hb dX2_init_19 (by decide) ?_
  refine wd_put (ci := 3) (v := .int (nI 0)) (ty := .int) (C := RX2) (T := TX2) (N := 3) hx hb hts iwX2 tyX2 tyX2_ok nmX2 hown hK.1 hP hS (by omega) (wd_us) rfl 2 (by decide) (hts _ (tg_tail _ tw_30)) (fun _ h9 => h9) rfl (by decide +kernel) (rfl) (rfl) (Nat.le_of_ble_eq_true rfl) dX2_init_20 (fun H locs hP hS hz => ?_)
  have hsz := hz.trans hsz
  have hP : gP g (wd_up (wd_up w (q + 1) (wd_iA (g.2 0) 1024 (fun _ => 0))) q (.inr (3, [.ref (q + 1), .int (nI 0), .int (nI 0)]))) H := by have h9 := hP; rw [wd_uu] at h9; exact h9
  refine W.widen (k := 1) (n := 1024) (by decide +kernel) (by decide +kernel) ?_
  exact W.vret hx hb hr (fun t9 ht hW => ⟨⟨(wd_up (wd_up w (q + 1) (wd_iA (g.2 0) 1024 (fun _ => 0))) q (.inr (3, [.ref (q + 1), .int (nI 0), .int (nI 0)]))), rfl, rfl, cBz_of ht hP (hsz)⟩, hS.F ht⟩) hS.2.2 dX2_init_23

set_option maxHeartbeats 4000000 in
set_option maxRecDepth 100000 in
theorem c_X1_init (l : Launch) (g : gX) (s0 : Nat) (w : wd_M) (q : Nat) (hs0 : s0 ≤ q) (Lh : w q = some (.inr (2, [.null, .null, .null, .int (0), .int (0)]))) : Met l yX1_init (Cond.code yX1_init cX1_init 1 (none) :: tg) ({ frames := 1, cells := 3, slots := 6000, locals := 12 }) (cPz g s0 w (q + 1) [.ref q]) (cVz g s0 (q + 4) (fun w' => w' = (wd_up (wd_up (wd_up (wd_up w (q + 1) (wd_iA (g.2 0) 2000 (fun _ => 0))) (q + 2) (wd_iA (g.2 0) 2000 (fun _ => 0))) (q + 3) (wd_iA (g.2 0) 2000 (fun _ => 0))) q (.inr (2, [.ref (q + 1), .ref (q + 2), .ref (q + 3), .int (nI 0), .int (nI 0)]))))) 3 6000 (cA s0) := by
  refine Met.ofW (cc := cX1_init) (maxL := 1) (ret := none) (by decide) rfl ?_
  intro p e s m args below meth c s₁ B9 hml hv
  obtain ⟨rfl, hsz, h0s, hP, hK⟩ := hv
  have hx := B9.exec
  have hb := B9.bytes
  have hr := B9.returns
  have hts := atoms_spec (ws := Cond.code yX1_init cX1_init 1 (none) :: tg) B9.pre
  have hown : s.vm.findClass RX1 = some m.cls := findClass_of_methodNamed B9.named
  have hlocks := B9.notSynchronized
  have hin : meth.name = "<init>" := (name_of_methodNamed B9.named B9.method).1
  have hS : gS s0 s.heap s.heap [] := va_S.rf
  have hRm : 1 ≤ (headSpec (Cond.code yX1_init cX1_init 1 (none) :: tg) ({ frames := 1, cells := 3, slots := 6000, locals := 12 })).room.frames ∧ 12 ≤ (headSpec (Cond.code yX1_init cX1_init 1 (none) :: tg) ({ frames := 1, cells := 3, slots := 6000, locals := 12 })).room.locals := ⟨Nat.le_refl _, Nat.le_refl _⟩
  have hcs : 0 + 0 ≤ (headSpec (Cond.code yX1_init cX1_init 1 (none) :: tg) ({ frames := 1, cells := 3, slots := 6000, locals := 12 })).room.cells ∧ 0 + 0 ≤ (headSpec (Cond.code yX1_init cX1_init 1 (none) :: tg) ({ frames := 1, cells := 3, slots := 6000, locals := 12 })).room.slots := ⟨Nat.zero_le _, Nat.zero_le _⟩
  have hl := lv_entry ([.ref q]) (n := 1) (Nat.le_of_ble_eq_true rfl)
  rw [lg_entry_eq]
  generalize (lg_sl ([.ref q]) ++ List.replicate (1 - (lg_sl ([.ref q])).length) Slot.unset).toArray = ls at hl ⊢
  have hl : lv_has ls 1 [(0, .ref q)] := hl
  refine lv_aload_n hx hb dX1_init_0 rfl (lv_at hl 0 rfl) ?_
  refine W.objInit hx hb hown (hts _ (tg_tail _ tw_48)) (hts _ (tg_tail _ tw_18)) (hts _ (tg_tail _ tw_19)) rfl (by rw [hml]; exact hl.1) rfl dX1_init_1 (Nat.le_trans (by decide) hRm.1) (Nat.le_trans (Nat.le_of_ble_eq_true rfl) hRm.2) ?_
  refine W.eq (g2 := F0 m 4 ls []) rfl ?_
  refine lv_aload_n hx hb dX1_init_4 rfl (lv_at hl 0 rfl) ?_
  refine lv_sipush (v := nI 2000) hx hb dX1_init_5 (by decide +kernel) ?_
  refine wd_newiZ (atype := .int) (q := (q + 1)) hx hb (hts _ (tg_tail _ tw_40)) (ty := .int) rfl hK.1 hP hS 0 (cA := g.2 0) rfl (a0 := (2000, .inl (fun _ => 0))) (N' := 2000) (fun _ => rfl) (by decide +kernel) (by decide +kernel) (by decide +kernel) (by decide +kernel) (by decide +kernel) hsz dX1_init_8 (fun H hsz hP hS => ?_)
  refine wd_putF (ci := 2) (v := .ref (q + 1)) (ty := (.array .int)) (C := RX1) (T := TX1) (N := 5) hx hb hts iwX1 tyX1 tyX1_ok nmX1 hown hK.1 hP hS (by omega) ((wd_un (by omega)).trans (Lh)) rfl 0 (by decide) (hts _ (tg_tail _ tw_49)) (fun _ h9 => h9) rfl hin rfl (by decide +kernel) (rfl) (rfl) (Nat.le_of_ble_eq_true rfl) dX1_init_10 (fun H locs hP hS hz => ?_)
  have hsz := hz.trans hsz
  have hP : gP g (wd_up (wd_up w (q + 1) (wd_iA (g.2 0) 2000 (fun _ => 0))) q (.inr (2, [.ref (q + 1), .null, .null, .int (0), .int (0)]))) H := hP
  refine lv_aload_n hx hb dX1_init_13 rfl (lv_at hl 0 rfl) ?_
  refine lv_sipush (v := nI 2000) hx hb dX1_init_14 (by decide +kernel) ?_
  refine wd_newiZ (atype := .int) (q := (q + 2)) hx hb (hts _ (tg_tail _ tw_40)) (ty := .int) rfl hK.1 hP hS 0 (cA := g.2 0) rfl (a0 := (2000, .inl (fun _ => 0))) (N' := 2000) (fun _ => rfl) (by decide +kernel) (by decide +kernel) (by decide +kernel) (by decide +kernel) (by decide +kernel) hsz dX1_init_17 (fun H hsz hP hS => ?_)
  refine wd_putF (ci := 2) (v := .ref (q + 2)) (ty := (.array .int)) (C := RX1) (T := TX1) (N := 5) hx hb hts iwX1 tyX1 tyX1_ok nmX1 hown hK.1 hP hS (by omega) ((wd_un (by omega)).trans (wd_us)) rfl 1 (by decide) (hts _ (tg_tail _ tw_51)) (fun _ h9 => h9) rfl hin rfl (by decide +kernel) (rfl) (rfl) (Nat.le_of_ble_eq_true rfl) dX1_init_19 (fun H locs hP hS hz => ?_)
  have hsz := hz.trans hsz
  have hP : gP g (wd_up (wd_up (wd_up w (q + 1) (wd_iA (g.2 0) 2000 (fun _ => 0))) (q + 2) (wd_iA (g.2 0) 2000 (fun _ => 0))) q (.inr (2, [.ref (q + 1), .ref (q + 2), .null, .int (0), .int (0)]))) H := by have h9 := hP; rw [wd_d1] at h9; exact h9
  refine lv_aload_n hx hb dX1_init_22 rfl (lv_at hl 0 rfl) ?_
  refine lv_sipush (v := nI 2000) hx hb dX1_init_23 (by decide +kernel) ?_
  refine wd_newiZ (atype := .int) (q := (q + 3)) hx hb (hts _ (tg_tail _ tw_40)) (ty := .int) rfl hK.1 hP hS 0 (cA := g.2 0) rfl (a0 := (2000, .inl (fun _ => 0))) (N' := 2000) (fun _ => rfl) (by decide +kernel) (by decide +kernel) (by decide +kernel) (by decide +kernel) (by decide +kernel) hsz dX1_init_26 (fun H hsz hP hS => ?_)
  refine wd_putF (ci := 2) (v := .ref (q + 3)) (ty := (.array .int)) (C := RX1) (T := TX1) (N := 5) hx hb hts iwX1 tyX1 tyX1_ok nmX1 hown hK.1 hP hS (by omega) ((wd_un (by omega)).trans (wd_us)) rfl 2 (by decide) (hts _ (tg_tail _ tw_53)) (fun _ h9 => h9) rfl hin rfl (by decide +kernel) (rfl) (rfl) (Nat.le_of_ble_eq_true rfl) dX1_init_28 (fun H locs hP hS hz => ?_)
  have hsz := hz.trans hsz
  have hP : gP g (wd_up (wd_up (wd_up (wd_up w (q + 1) (wd_iA (g.2 0) 2000 (fun _ => 0))) (q + 2) (wd_iA (g.2 0) 2000 (fun _ => 0))) (q + 3) (wd_iA (g.2 0) 2000 (fun _ => 0))) q (.inr (2, [.ref (q + 1), .ref (q + 2), .ref (q + 3), .int (0), .int (0)]))) H := by have h9 := hP; rw [wd_d1] at h9; exact h9
  refine lv_aload_n hx hb dX1_init_31 rfl (lv_at hl 0 rfl) ?_
  refine lv_iconst (v := nI 0) hx hb dX1_init_32 (by decide) ?_
  refine wd_put (ci := 2) (v := .int (nI 0)) (ty := .int) (C := RX1) (T := TX1) (N := 5) hx hb hts iwX1 tyX1 tyX1_ok nmX1 hown hK.1 hP hS (by omega) (wd_us) rfl 3 (by decide) (hts _ (tg_tail _ tw_55)) (fun _ h9 => h9) rfl (by decide +kernel) (rfl) (rfl) (Nat.le_of_ble_eq_true rfl) dX1_init_33 (fun H locs hP hS hz => ?_)
  have hsz := hz.trans hsz
  have hP : gP g (wd_up (wd_up (wd_up (wd_up w (q + 1) (wd_iA (g.2 0) 2000 (fun _ => 0))) (q + 2) (wd_iA (g.2 0) 2000 (fun _ => 0))) (q + 3) (wd_iA (g.2 0) 2000 (fun _ => 0))) q (.inr (2, [.ref (q + 1), .ref (q + 2), .ref (q + 3), .int (nI 0), .int (0)]))) H := by have h9 := hP; rw [wd_uu] at h9; exact h9
  refine lv_aload_n hx hb dX1_init_36 rfl (lv_at hl 0 rfl) ?_
  refine lv_iconst (v := nI 0) hx hb dX1_init_37 (by decide) ?_
  refine wd_put (ci := 2) (v := .int (nI 0)) (ty := .boolean) (C := RX1) (T := TX1) (N := 5) hx hb hts iwX1 tyX1 tyX1_ok nmX1 hown hK.1 hP hS (by omega) (wd_us) rfl 4 (by decide) (hts _ (tg_tail _ tw_56)) (fun _ h9 => h9) rfl (by decide +kernel) (rfl) (rfl) (Nat.le_of_ble_eq_true rfl) dX1_init_38 (fun H locs hP hS hz => ?_)
  have hsz := hz.trans hsz
  have hP : gP g (wd_up (wd_up (wd_up (wd_up w (q + 1) (wd_iA (g.2 0) 2000 (fun _ => 0))) (q + 2) (wd_iA (g.2 0) 2000 (fun _ => 0))) (q + 3) (wd_iA (g.2 0) 2000 (fun _ => 0))) q (.inr (2, [.ref (q + 1), .ref (q + 2), .ref (q + 3), .int (nI 0), .int (nI 0)]))) H := by have h9 := hP; rw [wd_uu] at h9; exact h9
  refine W.widen (k := 3) (n := 6000) (by decide +kernel) (by decide +kernel) ?_
  exact W.vret hx hb hr (fun t9 ht hW => ⟨⟨(wd_up (wd_up (wd_up (wd_up w (q + 1) (wd_iA (g.2 0) 2000 (fun _ => 0))) (q + 2) (wd_iA (g.2 0) 2000 (fun _ => 0))) (q + 3) (wd_iA (g.2 0) 2000 (fun _ => 0))) q (.inr (2, [.ref (q + 1), .ref (q + 2), .ref (q + 3), .int (nI 0), .int (nI 0)]))), rfl, rfl, cBz_of ht hP (hsz)⟩, hS.F ht⟩) hS.2.2 dX1_init_41

set_option maxHeartbeats 4000000 in
theorem xW_ch {w : wd_M} {x : Nat} {z0 z1 z2 z3 z4 z5 z6 z7 z8 : va_E} : (wd_up (wd_up (wd_up (wd_up (wd_up (wd_up (wd_up (wd_up (wd_up w (x + 2) z2) (x + 1) z1) (x + 3) z3) (x + 5) z5) (x + 6) z6) (x + 7) z7) (x + 4) z4) (x + 8) z8) x z0) = fun a => if a = x then some z0 else if a = (x + 1) then some z1 else if a = (x + 2) then some z2 else if a = (x + 3) then some z3 else if a = (x + 4) then some z4 else if a = (x + 5) then some z5 else if a = (x + 6) then some z6 else if a = (x + 7) then some z7 else if a = (x + 8) then some z8 else w a := by
  funext b
  unfold wd_up
  by_cases e0 : b = x
  · rw [if_pos e0, if_pos e0]
  · revert e0; intro e0
    by_cases e1 : b = (x + 1)
    · rw [if_neg (by omega), if_neg (by omega), if_neg (by omega), if_neg (by omega), if_neg (by omega), if_neg (by omega), if_neg (by omega), if_pos e1, if_neg e0, if_pos e1]
    · revert e1; intro e1
      by_cases e2 : b = (x + 2)
      · rw [if_neg (by omega), if_neg (by omega), if_neg (by omega), if_neg (by omega), if_neg (by omega), if_neg (by omega), if_neg (by omega), if_neg (by omega), if_pos e2, if_neg e0, if_neg e1, if_pos e2]
      · revert e2; intro e2
        by_cases e3 : b = (x + 3)
        · rw [if_neg (by omega), if_neg (by omega), if_neg (by omega), if_neg (by omega), if_neg (by omega), if_neg (by omega), if_pos e3, if_neg e0, if_neg e1, if_neg e2, if_pos e3]
        · revert e3; intro e3
          by_cases e4 : b = (x + 4)
          · rw [if_neg (by omega), if_neg (by omega), if_pos e4, if_neg e0, if_neg e1, if_neg e2, if_neg e3, if_pos e4]
          · revert e4; intro e4
            by_cases e5 : b = (x + 5)
            · rw [if_neg (by omega), if_neg (by omega), if_neg (by omega), if_neg (by omega), if_neg (by omega), if_pos e5, if_neg e0, if_neg e1, if_neg e2, if_neg e3, if_neg e4, if_pos e5]
            · revert e5; intro e5
              by_cases e6 : b = (x + 6)
              · rw [if_neg (by omega), if_neg (by omega), if_neg (by omega), if_neg (by omega), if_pos e6, if_neg e0, if_neg e1, if_neg e2, if_neg e3, if_neg e4, if_neg e5, if_pos e6]
              · revert e6; intro e6
                by_cases e7 : b = (x + 7)
                · rw [if_neg (by omega), if_neg (by omega), if_neg (by omega), if_pos e7, if_neg e0, if_neg e1, if_neg e2, if_neg e3, if_neg e4, if_neg e5, if_neg e6, if_pos e7]
                · revert e7; intro e7
                  by_cases e8 : b = (x + 8)
                  · rw [if_neg (by omega), if_pos e8, if_neg e0, if_neg e1, if_neg e2, if_neg e3, if_neg e4, if_neg e5, if_neg e6, if_neg e7, if_pos e8]
                  · revert e8; intro e8
                    rw [if_neg e0, if_neg e8, if_neg e4, if_neg e7, if_neg e6, if_neg e5, if_neg e3, if_neg e1, if_neg e2, if_neg e0, if_neg e1, if_neg e2, if_neg e3, if_neg e4, if_neg e5, if_neg e6, if_neg e7, if_neg e8]
set_option maxHeartbeats 4000000 in
set_option maxRecDepth 100000 in
theorem c_X3_init (l : Launch) (g : gX) (s0 : Nat) (w : wd_M) (x : Nat) (hs0 : s0 ≤ x) (Lh : w x = some (.inr (4, [.null, .null, .null, .null, .int (0), .int (0)]))) : Met l yX3_init (Cond.code yX3_init cX3_init 1 (none) :: tg) ({ frames := 2, cells := 8, slots := 7105, locals := 32 }) (cPz g s0 w (x + 1) [.ref x]) (cVz g s0 (x + 9) (fun w' => w' = (xW g w x (nI 0) (nI 1024) (nI 0) (nI 0) (nI 0) (nI 0) (fun _ => 0) (fun _ => none) (fun _ => 0) (fun _ => 0) (fun _ => 0) (fun _ => 0)))) 8 7105 (cA s0) := by
  refine Met.ofW (cc := cX3_init) (maxL := 1) (ret := none) (by decide) rfl ?_
  intro p e s m args below meth c s₁ B9 hml hv
  obtain ⟨rfl, hsz, h0s, hP, hK⟩ := hv
  have hx := B9.exec
  have hb := B9.bytes
  have hr := B9.returns
  have hts := atoms_spec (ws := Cond.code yX3_init cX3_init 1 (none) :: tg) B9.pre
  have hown : s.vm.findClass RX3 = some m.cls := findClass_of_methodNamed B9.named
  have hlocks := B9.notSynchronized
  have hin : meth.name = "<init>" := (name_of_methodNamed B9.named B9.method).1
  have hS : gS s0 s.heap s.heap [] := va_S.rf
  have hRm : 2 ≤ (headSpec (Cond.code yX3_init cX3_init 1 (none) :: tg) ({ frames := 2, cells := 8, slots := 7105, locals := 32 })).room.frames ∧ 32 ≤ (headSpec (Cond.code yX3_init cX3_init 1 (none) :: tg) ({ frames := 2, cells := 8, slots := 7105, locals := 32 })).room.locals := ⟨Nat.le_refl _, Nat.le_refl _⟩
  have hcs : 0 + 0 ≤ (headSpec (Cond.code yX3_init cX3_init 1 (none) :: tg) ({ frames := 2, cells := 8, slots := 7105, locals := 32 })).room.cells ∧ 0 + 0 ≤ (headSpec (Cond.code yX3_init cX3_init 1 (none) :: tg) ({ frames := 2, cells := 8, slots := 7105, locals := 32 })).room.slots := ⟨Nat.zero_le _, Nat.zero_le _⟩
  have hl := lv_entry ([.ref x]) (n := 1) (Nat.le_of_ble_eq_true rfl)
  rw [lg_entry_eq]
  generalize (lg_sl ([.ref x]) ++ List.replicate (1 - (lg_sl ([.ref x])).length) Slot.unset).toArray = ls at hl ⊢
  have hl : lv_has ls 1 [(0, .ref x)] := hl
  refine lv_aload_n hx hb dX3_init_0 rfl (lv_at hl 0 rfl) ?_
  refine W.objInit hx hb hown (hts _ (tg_tail _ tw_17)) (hts _ (tg_tail _ tw_18)) (hts _ (tg_tail _ tw_19)) rfl (by rw [hml]; exact hl.1) rfl dX3_init_1 (Nat.le_trans (by decide) hRm.1) (Nat.le_trans (Nat.le_of_ble_eq_true rfl) hRm.2) ?_
  refine W.eq (g2 := F0 m 4 ls []) rfl ?_
  refine lv_aload_n hx hb dX3_init_4 rfl (lv_at hl 0 rfl) ?_
  refine wd_newZ (ci := 3) (fs := [.null, .int (0), .int (0)]) (C := RX2) (T := TX2) (N := 3) (q := (x + 1)) hx hb hts iwX2 tyX2 tyX2_ok hown (hts _ (tg_tail _ tw_20)) (hts _ (tg_tail _ tw_21)) (hts _ (tg_tail _ tw_2)) hK.1 hP hS rfl (fun j hj => by rcases (show j = 0 ∨ j = 1 ∨ j = 2 by omega) with rfl | rfl | rfl <;> rfl) (by decide +kernel) (by decide +kernel) hsz dX3_init_5 (fun H hsz hn9 hP hS => ?_)
  refine lv_dup hx hb dX3_init_8 rfl ?_
  refine cr_Iz (As := []) (rest := [.ref (x + 1), .ref x]) ⟨hx, hb, hml, hown, hts⟩ (c_X2_init l g s0 (wd_up w (x + 1) (.inr (3, [.null, .int (0), .int (0)]))) (x + 1) (by omega) (wd_us)) (cw_I 0 hts tg_tail tw_22 tw_23 tw_2 tw_24 rfl rfl rfl (by decide +kernel) ⟨Nat.le_trans (by decide) hRm.1, Nat.le_trans (by decide) hRm.2⟩) hK hP h0s hS hsz rfl hl.1 rfl (Nat.le_of_ble_eq_true rfl) dX3_init_9 ⟨by decide +kernel, by decide +kernel⟩ (fun w9 H locs hw hP hS hsz => ?_)
  have hP : gP g (wd_up (wd_up w (x + 2) (wd_iA (g.2 0) 1024 (fun _ => 0))) (x + 1) (.inr (3, [.ref (x + 2), .int (nI 0), .int (nI 0)]))) H := by have h9 := hP; rw [hw, wd_d1] at h9; exact h9
  refine wd_putF (ci := 4) (v := .ref (x + 1)) (ty := (.object "PathSteps$Triples")) (C := RX3) (T := TX3) (N := 6) hx hb hts iwX3 tyX3 tyX3_ok nmX3 hown hK.1 hP hS (by omega) ((wd_un (by omega)).trans ((wd_un (by omega)).trans (Lh))) rfl 0 (by decide) (hts _ (tg_tail _ tw_69)) (fun _ h9 => h9) rfl hin rfl (by decide +kernel) (rfl) (rfl) (Nat.le_of_ble_eq_true rfl) dX3_init_12 (fun H locs hP hS hz => ?_)
  have hsz := hz.trans hsz
  have hP : gP g (wd_up (wd_up (wd_up w (x + 2) (wd_iA (g.2 0) 1024 (fun _ => 0))) (x + 1) (.inr (3, [.ref (x + 2), .int (nI 0), .int (nI 0)]))) x (.inr (4, [.ref (x + 1), .null, .null, .null, .int (0), .int (0)]))) H := hP
  refine lv_aload_n hx hb dX3_init_15 rfl (lv_at hl 0 rfl) ?_
  refine lv_bipush (v := nI 41) hx hb dX3_init_16 (by decide) ?_
  refine wd_newqZ (q := (x + 3)) hx hb hown (hts _ (tg_tail _ tw_41)) hK.2.1 hK.1 hP hS 2 (cA := g.2 2) rfl (N' := 41) (by decide +kernel) (by decide +kernel) (by decide +kernel) (by decide +kernel) (by decide +kernel) hsz dX3_init_18 (fun H hsz hP hS => ?_)
  refine wd_putF (ci := 4) (v := .ref (x + 3)) (ty := (.array (.object "PathSteps$Path"))) (C := RX3) (T := TX3) (N := 6) hx hb hts iwX3 tyX3 tyX3_ok nmX3 hown hK.1 hP hS (by omega) ((wd_un (by omega)).trans (wd_us)) rfl 1 (by decide) (hts _ (tg_tail _ tw_70)) (fun _ h9 => h9) rfl hin rfl (by decide +kernel) (rfl) (rfl) (Nat.le_of_ble_eq_true rfl) dX3_init_21 (fun H locs hP hS hz => ?_)
  have hsz := hz.trans hsz
  have hP : gP g (wd_up (wd_up (wd_up (wd_up w (x + 2) (wd_iA (g.2 0) 1024 (fun _ => 0))) (x + 1) (.inr (3, [.ref (x + 2), .int (nI 0), .int (nI 0)]))) (x + 3) (wd_qA (g.2 2) 41 (fun _ => none))) x (.inr (4, [.ref (x + 1), .ref (x + 3), .null, .null, .int (0), .int (0)]))) H := by have h9 := hP; rw [wd_d1] at h9; exact h9
  refine lv_aload_n hx hb dX3_init_24 rfl (lv_at hl 0 rfl) ?_
  refine wd_newZ (ci := 2) (fs := [.null, .null, .null, .int (0), .int (0)]) (C := RX1) (T := TX1) (N := 5) (q := (x + 4)) hx hb hts iwX1 tyX1 tyX1_ok hown (hts _ (tg_tail _ tw_43)) (hts _ (tg_tail _ tw_44)) (hts _ (tg_tail _ tw_3)) hK.1 hP hS rfl (fun j hj => by rcases (show j = 0 ∨ j = 1 ∨ j = 2 ∨ j = 3 ∨ j = 4 by omega) with rfl | rfl | rfl | rfl | rfl <;> rfl) (by decide +kernel) (by decide +kernel) hsz dX3_init_25 (fun H hsz hn9 hP hS => ?_)
  refine lv_dup hx hb dX3_init_28 rfl ?_
  refine cr_Iz (As := []) (rest := [.ref (x + 4), .ref x]) ⟨hx, hb, hml, hown, hts⟩ (c_X1_init l g s0 (wd_up (wd_up (wd_up (wd_up (wd_up w (x + 2) (wd_iA (g.2 0) 1024 (fun _ => 0))) (x + 1) (.inr (3, [.ref (x + 2), .int (nI 0), .int (nI 0)]))) (x + 3) (wd_qA (g.2 2) 41 (fun _ => none))) x (.inr (4, [.ref (x + 1), .ref (x + 3), .null, .null, .int (0), .int (0)]))) (x + 4) (.inr (2, [.null, .null, .null, .int (0), .int (0)]))) (x + 4) (by omega) (wd_us)) (cw_I 0 hts tg_tail tw_45 tw_46 tw_3 tw_47 rfl rfl rfl (by decide +kernel) ⟨Nat.le_trans (by decide) hRm.1, Nat.le_trans (by decide) hRm.2⟩) hK hP h0s hS hsz rfl hl.1 rfl (Nat.le_of_ble_eq_true rfl) dX3_init_29 ⟨by decide +kernel, by decide +kernel⟩ (fun w9 H locs hw hP hS hsz => ?_)
  have hP : gP g (wd_up (wd_up (wd_up (wd_up (wd_up (wd_up (wd_up (wd_up w (x + 2) (wd_iA (g.2 0) 1024 (fun _ => 0))) (x + 1) (.inr (3, [.ref (x + 2), .int (nI 0), .int (nI 0)]))) (x + 3) (wd_qA (g.2 2) 41 (fun _ => none))) x (.inr (4, [.ref (x + 1), .ref (x + 3), .null, .null, .int (0), .int (0)]))) (x + 5) (wd_iA (g.2 0) 2000 (fun _ => 0))) (x + 6) (wd_iA (g.2 0) 2000 (fun _ => 0))) (x + 7) (wd_iA (g.2 0) 2000 (fun _ => 0))) (x + 4) (.inr (2, [.ref (x + 5), .ref (x + 6), .ref (x + 7), .int (nI 0), .int (nI 0)]))) H := by have h9 := hP; rw [hw, wd_d3] at h9; exact h9
  refine wd_putF (ci := 4) (v := .ref (x + 4)) (ty := (.object "PathSteps$Rows")) (C := RX3) (T := TX3) (N := 6) hx hb hts iwX3 tyX3 tyX3_ok nmX3 hown hK.1 hP hS (by omega) ((wd_un (by omega)).trans ((wd_un (by omega)).trans ((wd_un (by omega)).trans ((wd_un (by omega)).trans (wd_us))))) rfl 2 (by decide) (hts _ (tg_tail _ tw_71)) (fun _ h9 => h9) rfl hin rfl (by decide +kernel) (rfl) (rfl) (Nat.le_of_ble_eq_true rfl) dX3_init_32 (fun H locs hP hS hz => ?_)
  have hsz := hz.trans hsz
  have hP : gP g (wd_up (wd_up (wd_up (wd_up (wd_up (wd_up (wd_up (wd_up w (x + 2) (wd_iA (g.2 0) 1024 (fun _ => 0))) (x + 1) (.inr (3, [.ref (x + 2), .int (nI 0), .int (nI 0)]))) (x + 3) (wd_qA (g.2 2) 41 (fun _ => none))) (x + 5) (wd_iA (g.2 0) 2000 (fun _ => 0))) (x + 6) (wd_iA (g.2 0) 2000 (fun _ => 0))) (x + 7) (wd_iA (g.2 0) 2000 (fun _ => 0))) (x + 4) (.inr (2, [.ref (x + 5), .ref (x + 6), .ref (x + 7), .int (nI 0), .int (nI 0)]))) x (.inr (4, [.ref (x + 1), .ref (x + 3), .ref (x + 4), .null, .int (0), .int (0)]))) H := by have h9 := hP; rw [wd_d4] at h9; exact h9
  refine lv_aload_n hx hb dX3_init_35 rfl (lv_at hl 0 rfl) ?_
  refine lv_bipush (v := nI 32) hx hb dX3_init_36 (by decide) ?_
  refine wd_newiZ (atype := .int) (q := (x + 8)) hx hb (hts _ (tg_tail _ tw_40)) (ty := .int) rfl hK.1 hP hS 0 (cA := g.2 0) rfl (a0 := (32, .inl (fun _ => 0))) (N' := 32) (fun _ => rfl) (by decide +kernel) (by decide +kernel) (by decide +kernel) (by decide +kernel) (by decide +kernel) hsz dX3_init_38 (fun H hsz hP hS => ?_)
  refine wd_putF (ci := 4) (v := .ref (x + 8)) (ty := (.array .int)) (C := RX3) (T := TX3) (N := 6) hx hb hts iwX3 tyX3 tyX3_ok nmX3 hown hK.1 hP hS (by omega) ((wd_un (by omega)).trans (wd_us)) rfl 3 (by decide) (hts _ (tg_tail _ tw_72)) (fun _ h9 => h9) rfl hin rfl (by decide +kernel) (rfl) (rfl) (Nat.le_of_ble_eq_true rfl) dX3_init_40 (fun H locs hP hS hz => ?_)
  have hsz := hz.trans hsz
  have hP : gP g (wd_up (wd_up (wd_up (wd_up (wd_up (wd_up (wd_up (wd_up (wd_up w (x + 2) (wd_iA (g.2 0) 1024 (fun _ => 0))) (x + 1) (.inr (3, [.ref (x + 2), .int (nI 0), .int (nI 0)]))) (x + 3) (wd_qA (g.2 2) 41 (fun _ => none))) (x + 5) (wd_iA (g.2 0) 2000 (fun _ => 0))) (x + 6) (wd_iA (g.2 0) 2000 (fun _ => 0))) (x + 7) (wd_iA (g.2 0) 2000 (fun _ => 0))) (x + 4) (.inr (2, [.ref (x + 5), .ref (x + 6), .ref (x + 7), .int (nI 0), .int (nI 0)]))) (x + 8) (wd_iA (g.2 0) 32 (fun _ => 0))) x (.inr (4, [.ref (x + 1), .ref (x + 3), .ref (x + 4), .ref (x + 8), .int (0), .int (0)]))) H := by have h9 := hP; rw [wd_d1] at h9; exact h9
  refine lv_aload_n hx hb dX3_init_43 rfl (lv_at hl 0 rfl) ?_
  refine lv_iconst (v := nI 0) hx hb dX3_init_44 (by decide) ?_
  refine wd_put (ci := 4) (v := .int (nI 0)) (ty := .int) (C := RX3) (T := TX3) (N := 6) hx hb hts iwX3 tyX3 tyX3_ok nmX3 hown hK.1 hP hS (by omega) (wd_us) rfl 4 (by decide) (hts _ (tg_tail _ tw_73)) (fun _ h9 => h9) rfl (by decide +kernel) (rfl) (rfl) (Nat.le_of_ble_eq_true rfl) dX3_init_45 (fun H locs hP hS hz => ?_)
  have hsz := hz.trans hsz
  have hP : gP g (wd_up (wd_up (wd_up (wd_up (wd_up (wd_up (wd_up (wd_up (wd_up w (x + 2) (wd_iA (g.2 0) 1024 (fun _ => 0))) (x + 1) (.inr (3, [.ref (x + 2), .int (nI 0), .int (nI 0)]))) (x + 3) (wd_qA (g.2 2) 41 (fun _ => none))) (x + 5) (wd_iA (g.2 0) 2000 (fun _ => 0))) (x + 6) (wd_iA (g.2 0) 2000 (fun _ => 0))) (x + 7) (wd_iA (g.2 0) 2000 (fun _ => 0))) (x + 4) (.inr (2, [.ref (x + 5), .ref (x + 6), .ref (x + 7), .int (nI 0), .int (nI 0)]))) (x + 8) (wd_iA (g.2 0) 32 (fun _ => 0))) x (.inr (4, [.ref (x + 1), .ref (x + 3), .ref (x + 4), .ref (x + 8), .int (nI 0), .int (0)]))) H := by have h9 := hP; rw [wd_uu] at h9; exact h9
  refine lv_aload_n hx hb dX3_init_48 rfl (lv_at hl 0 rfl) ?_
  refine lv_sipush (v := nI 1024) hx hb dX3_init_49 (by decide +kernel) ?_
  refine wd_put (ci := 4) (v := .int (nI 1024)) (ty := .int) (C := RX3) (T := TX3) (N := 6) hx hb hts iwX3 tyX3 tyX3_ok nmX3 hown hK.1 hP hS (by omega) (wd_us) rfl 5 (by decide) (hts _ (tg_tail _ tw_74)) (fun _ h9 => h9) rfl (by decide +kernel) (rfl) (rfl) (Nat.le_of_ble_eq_true rfl) dX3_init_52 (fun H locs hP hS hz => ?_)
  have hsz := hz.trans hsz
  have hP : gP g (wd_up (wd_up (wd_up (wd_up (wd_up (wd_up (wd_up (wd_up (wd_up w (x + 2) (wd_iA (g.2 0) 1024 (fun _ => 0))) (x + 1) (.inr (3, [.ref (x + 2), .int (nI 0), .int (nI 0)]))) (x + 3) (wd_qA (g.2 2) 41 (fun _ => none))) (x + 5) (wd_iA (g.2 0) 2000 (fun _ => 0))) (x + 6) (wd_iA (g.2 0) 2000 (fun _ => 0))) (x + 7) (wd_iA (g.2 0) 2000 (fun _ => 0))) (x + 4) (.inr (2, [.ref (x + 5), .ref (x + 6), .ref (x + 7), .int (nI 0), .int (nI 0)]))) (x + 8) (wd_iA (g.2 0) 32 (fun _ => 0))) x (.inr (4, [.ref (x + 1), .ref (x + 3), .ref (x + 4), .ref (x + 8), .int (nI 0), .int (nI 1024)]))) H := by have h9 := hP; rw [wd_uu] at h9; exact h9
  have e7 : (wd_up (wd_up (wd_up (wd_up (wd_up (wd_up (wd_up (wd_up (wd_up w (x + 2) (wd_iA (g.2 0) 1024 (fun _ => 0))) (x + 1) (.inr (3, [.ref (x + 2), .int (nI 0), .int (nI 0)]))) (x + 3) (wd_qA (g.2 2) 41 (fun _ => none))) (x + 5) (wd_iA (g.2 0) 2000 (fun _ => 0))) (x + 6) (wd_iA (g.2 0) 2000 (fun _ => 0))) (x + 7) (wd_iA (g.2 0) 2000 (fun _ => 0))) (x + 4) (.inr (2, [.ref (x + 5), .ref (x + 6), .ref (x + 7), .int (nI 0), .int (nI 0)]))) (x + 8) (wd_iA (g.2 0) 32 (fun _ => 0))) x (.inr (4, [.ref (x + 1), .ref (x + 3), .ref (x + 4), .ref (x + 8), .int (nI 0), .int (nI 1024)]))) = (xW g w x (nI 0) (nI 1024) (nI 0) (nI 0) (nI 0) (nI 0) (fun _ => 0) (fun _ => none) (fun _ => 0) (fun _ => 0) (fun _ => 0) (fun _ => 0)) := by exact xW_ch
  rw [e7] at hP
  refine W.widen (k := 8) (n := 7105) (by decide +kernel) (by decide +kernel) ?_
  exact W.vret hx hb hr (fun t9 ht hW => ⟨⟨(xW g w x (nI 0) (nI 1024) (nI 0) (nI 0) (nI 0) (nI 0) (fun _ => 0) (fun _ => none) (fun _ => 0) (fun _ => 0) (fun _ => 0) (fun _ => 0)), rfl, rfl, cBz_of ht hP (hsz)⟩, hS.F ht⟩) hS.2.2 dX3_init_55

