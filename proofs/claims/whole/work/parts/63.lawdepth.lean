/-! THE LAW: depth; printed by wip/m63.py -/
set_option maxHeartbeats 4000000 in
set_option maxRecDepth 100000 in
theorem law_depth {p : Program} {l : Launch} {e : Env} {s : State} {m : MethodId} {below : List Frame} {meth : Method} {c : Code} {b L : Nat} {xs : Nat → Int32} (hfl : l.flags = pinnedFlags ++ [noTraceFlag]) {sa : Nat} (hE : tE s.heap.size sa s) (C0 : lw_At p s m meth c b L xs) {g : gX} (hK : gK g s) {x : Nat} (hs : s.heap.size ≤ x) {k : Nat} (hk : 4 * k + 4 ≤ L) (hL : L ≤ 2048) {w : wd_M} {σ : St} (hI : IV g x w σ) {H : Heap} {locs : List Loc} {ls : Array Slot} (hP : gP g w H) (hS : gS s.heap.size s.heap H locs) (hl : lv_has ls 7 [(0, .ref b), (1, .ref x), (2, .ref (x + 9)), (3, .ref (x + 24)), (4, .int (nI (4 * k)))]) (nx : ∀ (w : wd_M) (σ : St) (H : Heap) (locs : List Loc) (ls : Array Slot), IV g x w σ → gP g w H → gS s.heap.size s.heap H locs → lv_has ls 7 [(0, .ref b), (1, .ref x), (2, .ref (x + 9)), (3, .ref (x + 24)), (4, .int (nI (4 * k)))] → W p l e room_1 s m #[Value.ref b] below meth c H locs (25 + 3 * (k + 1)) (55827 + 1066 * (k + 1)) (lw_Z below #[Value.ref b] s) (F0 m 522 ls [])) : W p l e room_1 s m #[Value.ref b] below meth c H locs (25 + 3 * k) (55827 + 1066 * k) (lw_Z below #[Value.ref b] s) (F0 m 404 ls []) := by
  obtain ⟨hx, hb, hr, hml, hown, hts0, hX, hbl, hlocks, hgv⟩ := C0
  have hts : ∀ w ∈ tg, w.before #[Value.ref b] s = true := fun w h => hts0 w (tg_in w h)
  have hown : s.vm.findClass RL = some m.cls := hown
  have hb : c.code = cL_law := hb
  have hbA : ¬ (fun q : Nat => s.heap.size ≤ q) b := Nat.not_le.mpr hbl
  refine lv_aload_n hx hb dL_law_404 rfl (lv_at hl 1 rfl) ?_
  refine lv_aload_n hx hb dL_law_405 rfl (lv_at hl 0 rfl) ?_
  refine lv_iload hx hb dL_law_406 (lv_at hl 4 rfl) ?_
  refine lv_iconst (v := nI 1) hx hb dL_law_408 (by decide) ?_
  refine lv_iadd hx hb dL_law_409 ?_
  refine wd_ti (x' := nI (4 * k + 1)) (nI_add _ _) ?_
  refine va_sld hx hb hX hbl hbA hS (vp_in_nI (by omega) (by omega)) dL_law_410 ?_
  refine lv_aload_n hx hb dL_law_411 rfl (lv_at hl 3 rfl) ?_
  refine cr_Sw (As := [.ref x, .int (xs (nI (4 * k + 1)).toNatClampNeg), .ref (x + 24)]) (rest := []) ⟨hx, hb, hml, hown, hts⟩ (kL_depth l hfl g s.heap.size sa w x hs σ hI.ht (xs (nI (4 * k + 1)).toNatClampNeg)) rfl rfl (by decide +kernel) (by decide +kernel) (pay_in hts0 (tg_law tw_339)) List.mem_cons_self (hts _ tw_0) (by decide +kernel) (n := 3) (by decide +kernel) (hts _ tw_337) (hts _ tw_338) ⟨?_, ?_⟩ hS rfl hl.1 rfl (Nat.le_of_ble_eq_true rfl) dL_law_412 ⟨show 25 + 3 * k + 1 ≤ 601024 by omega, show 55827 + 1066 * k + 6 ≤ 7293034 by omega⟩ (fun r1 w1 H locs hw1 hP hS => ?_)
  · intro a U f mk h
    exact ⟨cP_blind a U f mk h.1, tE.vm (s := U) (U := U.calling f mk a) rfl rfl h.2⟩
  · intro U hU hW
    exact ⟨cP_pre hK ((congrArg (fun v => gP g v H) hI.c.cx).mpr hP) (Nat.le_refl _) hS U hU hW, hE.heapS (Nat.le_refl _) hS hU hW⟩
  obtain ⟨hm1, hst⟩ := st_depth hI hw1
  refine lv_istore (lv' := [(5, .int r1), (0, .ref b), (1, .ref x), (2, .ref (x + 9)), (3, .ref (x + 24)), (4, .int (nI (4 * k)))]) hx hb dL_law_415 hl (by decide) rfl (fun ls hl => ?_)
  refine lv_aload_n hx hb dL_law_417 rfl (lv_at hl 3 rfl) ?_
  refine lv_aload_n hx hb dL_law_418 rfl (lv_at hl 1 rfl) ?_
  refine lv_iload hx hb dL_law_419 (lv_at hl 5 rfl) ?_
  refine lv_iconst (v := nI 1) hx hb dL_law_421 (by decide) ?_
  refine lv_iadd hx hb dL_law_422 ?_
  refine wd_ti (x' := nI (4 * k + 1)) (nI_add _ _) ?_
  refine va_sld hx hb hX hbl hbA hS (vp_in_nI (by omega) (by omega)) dL_law_423 ?_
  refine cr_Vi (As := [.int (xs (nI (4 * k + 1)).toNatClampNeg)]) (rest := []) ⟨hx, hb, hml, hown, hts⟩ (k4_depth l g s.heap.size w1 x hs σ hI.ht (xs (nI (4 * k + 1)).toNatClampNeg)) (cw_V 1 hts (fun _ h => h) tw_597 tw_598 tw_599 tw_4 tw_600 rfl rfl (by decide +kernel) ⟨by decide +kernel, by decide +kernel⟩) hK ((congrArg (fun v => gP g v H) hm1).mpr hP) (Nat.le_refl _) hS (mW_0) rfl rfl rfl hl.1 rfl (Nat.le_of_ble_eq_true rfl) dL_law_424 ⟨show 25 + 3 * k + 1 + 0 ≤ 601024 by omega, show 55827 + 1066 * k + 6 + 0 ≤ 7293034 by omega⟩ (fun r2 w2 H locs hw2 hP hS => ?_)
  obtain ⟨σ', hI', hrf, hfo⟩ := hst r2 w2 hw2
  refine lv_istore (lv' := [(6, .int r2), (5, .int r1), (0, .ref b), (1, .ref x), (2, .ref (x + 9)), (3, .ref (x + 24)), (4, .int (nI (4 * k)))]) hx hb dL_law_427 hl (by decide) rfl (fun ls hl => ?_)
  refine lv_aload_n hx hb dL_law_429 rfl (lv_at hl 4 rfl) ?_
  refine cr_Vi (As := []) (rest := []) ⟨hx, hb, hml, hown, hts⟩ (k4_thrown l g s.heap.size w2 x hs σ' hI'.ht) (cw_V 0 hts (fun _ h => h) tw_488 tw_489 tw_490 tw_4 tw_491 rfl rfl (by decide +kernel) ⟨by decide +kernel, by decide +kernel⟩) hK ((congrArg (fun v => gP g v H) hI'.cm).mpr hP) (Nat.le_refl _) hS (mW_0) rfl rfl rfl hl.1 rfl (Nat.le_of_ble_eq_true rfl) dL_law_430 ⟨show 25 + 3 * k + 1 + 0 + 0 ≤ 601024 by omega, show 55827 + 1066 * k + 6 + 0 + 0 ≤ 7293034 by omega⟩ (fun r3 w3 H locs hw3 hP hS => ?_)
  obtain ⟨er3, ew3⟩ := st_thrown hI' hw3
  rw [ew3] at hP
  refine lv_iload hx hb dL_law_433 (lv_at hl 1 rfl) ?_
  refine lv_icmp_eq (tgt := 440) hx hb dL_law_435 (by decide) (fun c1 => ?_) (fun c1 => ?_)
  rotate_left
  · exact absurd (er3.trans hrf) c1
  have hend : W p l e room_1 s m #[Value.ref b] below meth c H locs (25 + 3 * k + 1 + 0 + 0) (55827 + 1066 * k + 6 + 0 + 0) (lw_Z below #[Value.ref b] s) (F0 m 457 ls []) := by
    refine lv_goto (tgt := 522) hx hb dL_law_457 (by decide) ?_
    refine W.widen (k := 25 + 3 * (k + 1)) (n := 55827 + 1066 * (k + 1)) (by omega) (by omega) ?_
    exact nx w2 σ' H locs ls hI' hP hS (lv_sub hl [2, 3, 4, 5, 6] rfl)
  refine lv_iload hx hb dL_law_440 (lv_at hl 1 rfl) ?_
  refine lv_if_ne (tgt := 457) hx hb dL_law_442 (by decide) (fun c2 => ?_) (fun c2 => ?_)
  · exact hend
  · have c2 : r1 = nI 0 := by rw [nI_0]; exact c2
    refine lv_aload_n hx hb dL_law_445 rfl (lv_at hl 5 rfl) ?_
    refine lv_iconst (v := nI 0) hx hb dL_law_446 (by decide) ?_
    refine wd_lald hx hb hK.1 hP 3 (n := 1) (f := σ'.fo) hI'.c.co rfl (i := nI 0) (by unfold vp_in; decide +kernel) dL_law_447 ?_
    refine lv_iload hx hb dL_law_448 (lv_at hl 0 rfl) ?_
    refine lv_i2l (v := r2.toInt64) hx hb dL_law_450 (rfl) ?_
    refine W.lcmp hx hb dL_law_451 ?_
    refine lv_if_eq (tgt := 457) hx hb dL_law_452 (by decide) (fun c3 => ?_) (fun c3 => ?_)
    · exact hend
    · exact absurd ((lg_cmp_eq _ _).mpr (hfo c2)) c3
