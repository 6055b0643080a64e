/-! THE LAW: its loop, its beginning, the claim; printed by wip/m64.py -/
theorem lw_cmp {L i : Nat} (hL : L ≤ 2048) (hi : i ≤ L) : nI L - nI 4 < nI i ↔ L < i + 4 := by
  by_cases c : 4 ≤ L
  · have e : nI L - nI 4 = nI (L - 4) := by
      have h1 : nI (L - 4) + nI 4 = nI L := by rw [nI_add]; congr 1; omega
      rw [← h1, Int32.add_sub_cancel]
    rw [e, nI_ltI (by omega) (by omega)]
    omega
  · have h0 : (nI 0).toInt ≤ (nI i).toInt := Int32.le_iff_toInt_le.mp ((nI_leI (a := 0) (b := i) (by omega) (by omega)).mpr (by omega))
    rw [ti_0] at h0
    refine ⟨fun _ => by omega, fun _ => ?_⟩
    rw [Int32.lt_iff_toInt_lt]
    have h4 : (nI L - nI 4).toInt < 0 := by
      rcases (show L = 0 ∨ L = 1 ∨ L = 2 ∨ L = 3 by omega) with z | z | z | z <;> subst z <;> decide
    omega
theorem a15 (y : Int32) : ∃ c, c < 16 ∧ y &&& nI 15 = nI c := by
  obtain ⟨n, -, e⟩ := wb_of32 y
  refine ⟨n &&& 15, ?_, by rw [e, nx_and]⟩
  rw [show (15 : Nat) = 2 ^ 4 - 1 from rfl, Nat.and_two_pow_sub_one_eq_mod]
  exact Nat.mod_lt _ (by decide)
set_option maxHeartbeats 4000000 in
set_option maxRecDepth 100000 in
theorem law_loop {p : Program} {l : Launch} {e : Env} {s : State} {m : MethodId} {below : List Frame} {meth : Method} {c : Code} {b L : Nat} {xs : Nat → Int32} (hfl : l.flags = pinnedFlags ++ [noTraceFlag]) {sa : Nat} (hE : tE s.heap.size sa s) (C0 : lw_At p s m meth c b L xs) {g : gX} (hK : gK g s) {x : Nat} (hs : s.heap.size ≤ x) (hL : L ≤ 2048) : ∀ (n k : Nat), L + 1 ≤ 4 * k + 4 * n → 4 * k ≤ L → ∀ (w : wd_M) (σ : St) (H : Heap) (locs : List Loc) (ls : Array Slot), IV g x w σ → gP g w H → gS s.heap.size s.heap H locs → lv_has ls 7 [(0, .ref b), (1, .ref x), (2, .ref (x + 9)), (3, .ref (x + 24)), (4, .int (nI (4 * k)))] → W p l e room_1 s m #[Value.ref b] below meth c H locs (25 + 3 * k) (55827 + 1066 * k) (lw_Z below #[Value.ref b] s) (F0 m 23 ls []) := by
  obtain ⟨hx, hb, hr, hml, hown, hts0, hX, hbl, hlocks, hgv⟩ := id C0
  have hts : ∀ w ∈ tg, w.before #[Value.ref b] s = true := fun w h => hts0 w (tg_in w h)
  have hown : s.vm.findClass RL = some m.cls := hown
  have hb : c.code = cL_law := hb
  have hbA : ¬ (fun q : Nat => s.heap.size ≤ q) b := Nat.not_le.mpr hbl
  intro n
  induction n with
  | zero => intro k h1 h2; exact absurd h1 (by omega)
  | succ n ih =>
    intro k hn hkl w σ H locs ls hI hP hS hl
    refine lv_iload hx hb dL_law_23 (lv_at hl 4 rfl) ?_
    refine lv_aload_n hx hb dL_law_25 rfl (lv_at hl 0 rfl) ?_
    refine va_slen hx hb hX hbl hbA hS dL_law_26 ?_
    refine lv_iconst (v := nI 4) hx hb dL_law_27 (by decide) ?_
    refine lv_isub hx hb dL_law_28 ?_
    refine lv_icmp_gt (tgt := 528) hx hb dL_law_29 (by decide) (fun c1 => ?_) (fun c1 => ?_)
    · refine lv_iconst (v := 1) hx hb dL_law_528 (by decide) ?_
      refine va_forget (fun q hq => hS.2.2 q hq) ?_
      refine W.widen (k := 601024) (n := 7293034) (by omega) (by omega) ?_
      exact lw_ret hx hb hr hlocks dL_law_529
    · have c1 : ¬ (nI L - nI 4 < nI (4 * k)) := c1
      rw [lw_cmp hL (by omega)] at c1
      have hk : 4 * k + 4 ≤ L := by omega
      have nx : ∀ (w : wd_M) (σ : St) (H : Heap) (locs : List Loc) (ls : Array Slot), IV g x w σ → gP g w H → gS s.heap.size s.heap H locs → lv_has ls 7 [(0, .ref b), (1, .ref x), (2, .ref (x + 9)), (3, .ref (x + 24)), (4, .int (nI (4 * k)))] → W p l e room_1 s m #[Value.ref b] below meth c H locs (25 + 3 * (k + 1)) (55827 + 1066 * (k + 1)) (lw_Z below #[Value.ref b] s) (F0 m 522 ls []) := by
        intro w σ H locs ls hI hP hS hl
        refine lv_iinc (v := nI (4 * (k + 1))) (lv' := [(4, .int (nI (4 * (k + 1)))), (0, .ref b), (1, .ref x), (2, .ref (x + 9)), (3, .ref (x + 24))]) hx hb dL_law_522 hl (k := 4) rfl (show nI (4 * k) + nI 4 = nI (4 * k + 4) from nI_add _ _) (by decide) rfl (fun ls hl => ?_)
        refine lv_goto (tgt := 23) hx hb dL_law_525 (by decide) ?_
        exact ih (k + 1) (by omega) (by omega) w σ H locs ls hI hP hS (lv_sub hl [1, 2, 3, 4, 0] rfl)
      refine lv_aload_n hx hb dL_law_32 rfl (lv_at hl 0 rfl) ?_
      refine lv_iload hx hb dL_law_33 (lv_at hl 4 rfl) ?_
      refine va_sld hx hb hX hbl hbA hS (vp_in_nI (by omega) (by omega)) dL_law_35 ?_
      refine lv_bipush (v := nI 15) hx hb dL_law_36 (by decide) ?_
      refine lv_iand hx hb dL_law_38 ?_
      obtain ⟨c9, hc9, e9⟩ := a15 (xs (nI (4 * k)).toNatClampNeg)
      refine wd_ti (x' := nI c9) e9 ?_
      rcases (show c9 = 0 ∨ c9 = 1 ∨ c9 = 2 ∨ c9 = 3 ∨ c9 = 4 ∨ c9 = 5 ∨ c9 = 6 ∨ c9 = 7 ∨ c9 = 8 ∨ c9 = 9 ∨ c9 = 10 ∨ c9 = 11 ∨ c9 = 12 ∨ c9 = 13 ∨ c9 = 14 ∨ c9 = 15 by omega) with z | z | z | z | z | z | z | z | z | z | z | z | z | z | z | z <;> subst z
      · refine lv_tableIn (tgt := 96) hx hb dL_law_39 (by decide) (by decide) rfl (by decide) ?_
        exact law_triple C0 hK hs hk hL hI hP hS hl nx
      · refine lv_tableIn (tgt := 145) hx hb dL_law_39 (by decide) (by decide) rfl (by decide) ?_
        exact law_path C0 hK hs hk hL hI hP hS hl nx
      · refine lv_tableIn (tgt := 194) hx hb dL_law_39 (by decide) (by decide) rfl (by decide) ?_
        exact law_from C0 hK hs hk hL hI hP hS hl nx
      · refine lv_tableIn (tgt := 219) hx hb dL_law_39 (by decide) (by decide) rfl (by decide) ?_
        exact law_run C0 hK hs hk hL hI hP hS hl nx
      · refine lv_tableIn (tgt := 268) hx hb dL_law_39 (by decide) (by decide) rfl (by decide) ?_
        exact law_at C0 hK hs hk hL hI hP hS hl nx
      · refine lv_tableIn (tgt := 305) hx hb dL_law_39 (by decide) (by decide) rfl (by decide) ?_
        exact law_plain C0 hK hs hk hL hI hP hS hl nx
      · refine lv_tableIn (tgt := 354) hx hb dL_law_39 (by decide) (by decide) rfl (by decide) ?_
        exact law_steps C0 hK hs hk hL hI hP hS hl nx
      · refine lv_tableIn (tgt := 379) hx hb dL_law_39 (by decide) (by decide) rfl (by decide) ?_
        exact law_cycle C0 hK hs hk hL hI hP hS hl nx
      · refine lv_tableIn (tgt := 404) hx hb dL_law_39 (by decide) (by decide) rfl (by decide) ?_
        exact law_depth hfl hE C0 hK hs hk hL hI hP hS hl nx
      · refine lv_tableIn (tgt := 460) hx hb dL_law_39 (by decide) (by decide) rfl (by decide) ?_
        exact law_inverse C0 hK hs hk hL hI hP hS hl nx
      · refine lv_tableIn (tgt := 485) hx hb dL_law_39 (by decide) (by decide) rfl (by decide) ?_
        exact law_negated C0 hK hs hk hL hI hP hS hl nx
      · refine lv_tableOut (tgt := 522) hx hb dL_law_39 (by decide) (by decide) ?_
        refine W.widen (k := 25 + 3 * (k + 1)) (n := 55827 + 1066 * (k + 1)) (by omega) (by omega) ?_
        exact nx w σ H locs ls hI hP hS hl
      · refine lv_tableOut (tgt := 522) hx hb dL_law_39 (by decide) (by decide) ?_
        refine W.widen (k := 25 + 3 * (k + 1)) (n := 55827 + 1066 * (k + 1)) (by omega) (by omega) ?_
        exact nx w σ H locs ls hI hP hS hl
      · refine lv_tableOut (tgt := 522) hx hb dL_law_39 (by decide) (by decide) ?_
        refine W.widen (k := 25 + 3 * (k + 1)) (n := 55827 + 1066 * (k + 1)) (by omega) (by omega) ?_
        exact nx w σ H locs ls hI hP hS hl
      · refine lv_tableOut (tgt := 522) hx hb dL_law_39 (by decide) (by decide) ?_
        refine W.widen (k := 25 + 3 * (k + 1)) (n := 55827 + 1066 * (k + 1)) (by omega) (by omega) ?_
        exact nx w σ H locs ls hI hP hS hl
      · refine lv_tableOut (tgt := 522) hx hb dL_law_39 (by decide) (by decide) ?_
        refine W.widen (k := 25 + 3 * (k + 1)) (n := 55827 + 1066 * (k + 1)) (by omega) (by omega) ?_
        exact nx w σ H locs ls hI hP hS hl
set_option maxHeartbeats 4000000 in
set_option maxRecDepth 100000 in
/-- THE LAW, from its entry -/
theorem whole_start {p : Program} {e : Env} {s : State} {m : MethodId} {below : List Frame} {meth : Method} {c : Code} (l : Launch) (hfl : l.flags = pinnedFlags ++ [noTraceFlag]) {b L : Nat} {xs : Nat → Int32} (hL : L ≤ 2048) (C0 : lw_At p s m meth c b L xs) : W p l e room_1 s m #[Value.ref b] below meth c s.heap [] 0 0 (lw_Z below #[Value.ref b] s) (entryFrame m ([Value.ref b] : List Value).toArray 7) := by
  obtain ⟨hx, hb, hr, hml, hown, hts0, hX, hbl, hlocks, hgv⟩ := id C0
  have hts : ∀ w ∈ tg, w.before #[Value.ref b] s = true := fun w h => hts0 w (tg_in w h)
  have hown : s.vm.findClass RL = some m.cls := hown
  have hb : c.code = cL_law := hb
  have hbA : ¬ (fun q : Nat => s.heap.size ≤ q) b := Nat.not_le.mpr hbl
  obtain ⟨g, hK⟩ := gK_start hts0
  obtain ⟨sa, hE⟩ := tE_start hts0 hgv
  have hS : gS s.heap.size s.heap s.heap [] := va_S.rf
  have hP : gP g (fun _ => none) s.heap := fun a e h => by cases h
  obtain ⟨x, hxs⟩ : ∃ x, x = s.heap.size := ⟨_, rfl⟩
  have hs : s.heap.size ≤ x := by omega
  have hsz : s.heap.size = x := hxs.symm
  have hl := lv_entry ([.ref b]) (n := 7) (Nat.le_of_ble_eq_true rfl)
  rw [lg_entry_eq]
  generalize (lg_sl ([.ref b]) ++ List.replicate (7 - (lg_sl ([.ref b])).length) Slot.unset).toArray = ls at hl ⊢
  have hl : lv_has ls 7 [(0, .ref b)] := hl
  refine wd_newZ (ci := 4) (fs := [.null, .null, .null, .null, .int (0), .int (0)]) (C := RX3) (T := TX3) (N := 6) (q := x) hx hb hts ivX3 tyX3 tyX3_ok hown (hts _ tw_12) (hts _ tw_13) (hts _ tw_1) hK.1 hP hS rfl (fun j hj => by rcases (show j = 0 ∨ j = 1 ∨ j = 2 ∨ j = 3 ∨ j = 4 ∨ j = 5 by omega) with rfl | rfl | rfl | rfl | rfl | rfl <;> rfl) (by decide +kernel) (by decide +kernel) hsz dL_law_0 (fun H hsz hn9 hP hS => ?_)
  refine lv_dup hx hb dL_law_3 rfl ?_
  refine cr_Iz (As := []) (rest := [.ref x]) ⟨hx, hb, hml, hown, hts⟩ (c_X3_init l g s.heap.size (wd_up (fun _ => none) x (.inr (4, [.null, .null, .null, .null, .int (0), .int (0)]))) x hs (wd_us)) (cw_I 0 hts (fun _ h => h) tw_14 tw_15 tw_1 tw_16 rfl rfl rfl (by decide +kernel) ⟨by decide +kernel, by decide +kernel⟩) hK hP (Nat.le_refl _) hS hsz rfl hl.1 rfl (Nat.le_of_ble_eq_true rfl) dL_law_4 ⟨by decide +kernel, by decide +kernel⟩ (fun w9 H locs hw hP hS hsz => ?_)
  rw [hw] at hP
  refine lv_astore_n (lv' := [(1, .ref x), (0, .ref b)]) hx hb dL_law_7 rfl hl (by decide) rfl (fun ls hl => ?_)
  refine wd_newZ (ci := 5) (fs := [.int (0), .null, .null, .null, .int (0), .null, .null, .null, .int (0), .int (0), .null, .null, .null, .int (0), .null, .null, .int (0), .int (0), .null, .null, .null]) (C := RX4) (T := TX4) (N := 21) (q := x + 9) hx hb hts ivX4 tyX4 tyX4_ok hown (hts _ tw_416) (hts _ tw_417) (hts _ tw_4) hK.1 hP hS rfl (fun j hj => by rcases (show j = 0 ∨ j = 1 ∨ j = 2 ∨ j = 3 ∨ j = 4 ∨ j = 5 ∨ j = 6 ∨ j = 7 ∨ j = 8 ∨ j = 9 ∨ j = 10 ∨ j = 11 ∨ j = 12 ∨ j = 13 ∨ j = 14 ∨ j = 15 ∨ j = 16 ∨ j = 17 ∨ j = 18 ∨ j = 19 ∨ j = 20 by omega) with rfl | rfl | rfl | rfl | rfl | rfl | rfl | rfl | rfl | rfl | rfl | rfl | rfl | rfl | rfl | rfl | rfl | rfl | rfl | rfl | rfl <;> rfl) (by decide +kernel) (by decide +kernel) hsz dL_law_8 (fun H hsz hn9 hP hS => ?_)
  refine lv_dup hx hb dL_law_11 rfl ?_
  refine cr_Iz (As := []) (rest := [.ref (x + 9)]) ⟨hx, hb, hml, hown, hts⟩ (c_X4_init l g s.heap.size (wd_up (xW g (wd_up (fun _ => none) x (.inr (4, [.null, .null, .null, .null, .int (0), .int (0)]))) x (nI 0) (nI 1024) (nI 0) (nI 0) (nI 0) (nI 0) (fun _ => 0) (fun _ => none) (fun _ => 0) (fun _ => 0) (fun _ => 0) (fun _ => 0)) (x + 9) (.inr (5, [.int (0), .null, .null, .null, .int (0), .null, .null, .null, .int (0), .int (0), .null, .null, .null, .int (0), .null, .null, .int (0), .int (0), .null, .null, .null]))) (x + 9) (by omega) (wd_us)) (cw_I 0 hts (fun _ h => h) tw_418 tw_419 tw_4 tw_420 rfl rfl rfl (by decide +kernel) ⟨by decide +kernel, by decide +kernel⟩) hK hP (Nat.le_refl _) hS hsz rfl hl.1 rfl (Nat.le_of_ble_eq_true rfl) dL_law_12 ⟨by decide +kernel, by decide +kernel⟩ (fun w9 H locs hw hP hS hsz => ?_)
  rw [hw] at hP
  refine lv_astore_n (lv' := [(2, .ref (x + 9)), (1, .ref x), (0, .ref b)]) hx hb dL_law_15 rfl hl (by decide) rfl (fun ls hl => ?_)
  refine lv_iconst (v := nI 1) hx hb dL_law_16 (by decide) ?_
  refine wd_newiZ (atype := .long) (q := (x + 24)) hx hb (hts _ tw_601) (ty := .long) rfl hK.1 hP hS 3 (cA := g.2 3) rfl (a0 := (1, .inr (.inl (fun _ => 0)))) (N' := 1) (fun _ => rfl) (by decide +kernel) (by decide +kernel) (by decide +kernel) (by decide +kernel) (by decide +kernel) hsz dL_law_17 (fun H hsz hP hS => ?_)
  refine lv_astore_n (lv' := [(3, .ref (x + 24)), (2, .ref (x + 9)), (1, .ref x), (0, .ref b)]) hx hb dL_law_19 rfl hl (by decide) rfl (fun ls hl => ?_)
  refine lv_iconst (v := nI 0) hx hb dL_law_20 (by decide) ?_
  refine lv_istore (lv' := [(4, .int (nI 0)), (3, .ref (x + 24)), (2, .ref (x + 9)), (1, .ref x), (0, .ref b)]) hx hb dL_law_21 hl (by decide) rfl (fun ls hl => ?_)
  obtain ⟨σ, hI⟩ : ∃ σ, IV g x (wd_up (mW g (wd_up (xW g (wd_up (fun _ => none) x (.inr (4, [.null, .null, .null, .null, .int (0), .int (0)]))) x (nI 0) (nI 1024) (nI 0) (nI 0) (nI 0) (nI 0) (fun _ => 0) (fun _ => none) (fun _ => 0) (fun _ => 0) (fun _ => 0) (fun _ => 0)) (x + 9) (.inr (5, [.int (0), .null, .null, .null, .int (0), .null, .null, .null, .int (0), .int (0), .null, .null, .null, .int (0), .null, .null, .int (0), .int (0), .null, .null, .null]))) (x + 9) 0 0 0 (nI 1024) 0 0 0 (fun _ => 0) (fun _ => 0) (fun _ => 0) (fun _ => 0) (fun _ => 0) (fun _ => 0) (fun _ => 0) (fun _ => 0) (fun _ => 0) (fun _ => 0) (fun _ => 0) (fun _ => 0) (fun _ => 0) (fun _ => 0)) (x + 24) (wd_lA (g.2 3) 1 (fun _ => 0))) σ := by
    refine IV.init ?_ ?_ wd_us
    · refine xW_tr (w := (xW g (wd_up (fun _ => none) x (.inr (4, [.null, .null, .null, .null, .int (0), .int (0)]))) x (nI 0) (nI 1024) (nI 0) (nI 0) (nI 0) (nI 0) (fun _ => 0) (fun _ => none) (fun _ => 0) (fun _ => 0) (fun _ => 0) (fun _ => 0))) xW_id (fun a h1 h2 => ?_)
      rw [wd_un (by omega), mW_out (by omega), wd_un (by omega)]
    · exact mW_tr (w := (mW g (wd_up (xW g (wd_up (fun _ => none) x (.inr (4, [.null, .null, .null, .null, .int (0), .int (0)]))) x (nI 0) (nI 1024) (nI 0) (nI 0) (nI 0) (nI 0) (fun _ => 0) (fun _ => none) (fun _ => 0) (fun _ => 0) (fun _ => 0) (fun _ => 0)) (x + 9) (.inr (5, [.int (0), .null, .null, .null, .int (0), .null, .null, .null, .int (0), .int (0), .null, .null, .null, .int (0), .null, .null, .int (0), .int (0), .null, .null, .null]))) (x + 9) 0 0 0 (nI 1024) 0 0 0 (fun _ => 0) (fun _ => 0) (fun _ => 0) (fun _ => 0) (fun _ => 0) (fun _ => 0) (fun _ => 0) (fun _ => 0) (fun _ => 0) (fun _ => 0) (fun _ => 0) (fun _ => 0) (fun _ => 0) (fun _ => 0))) mW_id (fun a h1 h2 => wd_un (by omega))
  refine W.widen (k := 25 + 3 * 0) (n := 55827 + 1066 * 0) (by decide +kernel) (by decide +kernel) ?_
  exact law_loop hfl hE C0 hK hs hL 513 0 (by omega) (by omega) _ σ _ _ ls hI hP hS (lv_sub hl [4, 3, 2, 1, 0] rfl)
set_option maxHeartbeats 4000000 in
theorem lw_walk (l : Launch) (hfl : l.flags = pinnedFlags ++ [noTraceFlag]) (b : Addr) (xs : List Int32) : MetFree l x (headSpec (Jvm.Cond.code x code maxLocals ret :: tables_1) room_1) (lw_P b xs) (fun _ _ _ _ _ => True) lw_Q := by
  refine MetFree.of_bodyS (code := code) (maxLocals := maxLocals) (ret := ret) (by decide) ?_ ?_
  · intro args s m h hn
    obtain ⟨meth, c, h1, h2, h3, h4, h5, h6, -, -⟩ := Cond.code_spec hn (atoms_spec (ws := Jvm.Cond.code x code maxLocals ret :: tables_1) h _ List.mem_cons_self)
    exact ⟨meth, c, h1, h2, h3, h4, h5, h6⟩
  · intro p e s m args below meth c s₁ B hml0 hP _
    obtain ⟨rfl, hx, hbd, hgv⟩ := hP
    obtain ⟨scr, harrAt, hlist, hof, hsmall⟩ := hx
    obtain ⟨hcb, hkn, -, -⟩ := State.arrayAt?_spec harrAt
    have hown : s.vm.findClass R_law = some m.cls := findClass_of_methodNamed B.named
    have hts0 : ∀ c ∈ (Jvm.Cond.code x code maxLocals ret :: tables_1), c.before #[Value.ref b] s = true := atoms_spec (ws := Jvm.Cond.code x code maxLocals ret :: tables_1) B.pre
    have hts : ∀ w ∈ lw_tbl, w.before #[Value.ref b] s = true := k2_hts_sels lw_privs (fun w hw => hts0 w (List.mem_cons_of_mem _ hw)) lw_privs_ok
    have hml : c.maxLocals = 7 := B.maxLocals_eq (hts0 _ List.mem_cons_self)
    have X₀ : Stand p l e room_1 s m #[Value.ref b] below meth c s₁ [] 0 0 := Stand.of_body B
    have hh0 : s₁.heap = s.heap := by rw [B.state]; rfl
    have hsz : scr.slots.size = xs.length := by rw [← Array.length_toList, hlist, List.length_map]
    have hval : ∀ j : Nat, j < xs.length → scr.slots[j]? = some (.int (xs.getD j 0)) := fun j hj => by
      rw [← Array.getElem?_toList, hlist]
      simp [hj]
    have hbl : b < s.heap.size := (Array.getElem?_eq_some_iff.mp hcb).1
    have hX : va_X b xs.length (fun j => xs.getD j 0) s s.heap := ⟨scr, hcb, hof, hkn, hsz, hval⟩
    have K : W p l e room_1 s m #[Value.ref b] below meth c s₁.heap [] 0 0 (lw_Z below #[Value.ref b] s) (entryFrame m ([Value.ref b] : List Value).toArray 7) := by
      rw [hh0]
      exact whole_start l hfl hbd ⟨B.exec, B.bytes, B.returns, hml, hown, hts, hX, hbl, B.notSynchronized, hgv⟩
    obtain ⟨t, a1, o, b1, b2, b3⟩ := K s₁ rfl X₀
    exact ⟨t, o, a1, b1, b2, b3⟩
theorem lw_pre_spec {args : Array Value} {s : State} (h : (Jvm.Cond.and given_1 narrow_1).before args s = true) (hr : rest_1_c.before args s = true) : ∃ (b : Addr) (xs : List Int32), lw_P b xs args s := by
  have hs := flat_of_before _ h
  have hq := flat_of_before _ hr
  have hc : (Cond.count 1).before args s = true := hs _ (by decide +kernel)
  have harr : (Cond.arrayOf (.arg 0) .int).before args s = true := hs _ (by decide +kernel)
  have hle : (Cond.le (.length (.arg 0)) (.int 2048)).before args s = true := hs _ (by decide +kernel)
  have hlen : (Cond.isInt (.length (.arg 0))).before args s = true := hq _ (by decide +kernel)
  have hall : (Cond.all (.arg 0) (.isInt (.elem (.arg 0) (.index 0)))).before args s = true := hq _ (by decide +kernel)
  obtain ⟨b, xs, hb, hx⟩ := State.ints_of_pre rfl harr hlen hall
  have hsm : xs.length < 2 ^ 31 := hx.choose_spec.2.2.2
  have hev : (Term.length (.arg 0)).eval args s none [] s = some (.int xs.length.toInt32) := hx.length_eval hb
  have hv := Cond.le_ints hev (show (Term.int 2048).eval args s none [] s = some (.int 2048) from rfl)
  have hd : xs.length.toInt32 ≤ 2048 := by
    simpa [Cond.before, Cond.holds, hv] using hle
  have hN : xs.length ≤ 2048 := (Int32.ofNat_le_ofNat hsm (by decide)).mp (show Int32.ofNat xs.length ≤ Int32.ofNat 2048 from hd)
  exact ⟨b, xs, Cond.one_arg hc (show args[0]? = some (.ref b) from hb), hx, hN, h⟩
theorem lw_comes (l : Launch) (hfl : l.flags = pinnedFlags ++ [noTraceFlag]) : Comes l x (Jvm.Cond.code x code maxLocals ret :: tables_1) room_1 (fun tb e args s => Calls_1 tb e args s ∧ rest_1 tb e args s ∧ Pre_1 tb e args s)
    (fun _ _ args s o t => lw_Q args s o t) := by
  intro p e ha hc hk s m args below hf hfit hheap happ hpre
  obtain ⟨b, xs, hP⟩ := lw_pre_spec hpre.2.2 hpre.2.1
  obtain ⟨k, o, h1, h2, h3, hQ⟩ := lw_walk l hfl b xs p e ha hc hk s m args below hf ((Spec.applies_iff_loose hf).mp happ).1 hP trivial
  exact ⟨k, o, h1, h2, h3, hQ⟩
theorem lw_frame {s t : State} {o : Outcome} {args : Array Value} (h : Framed s o t [] 601024 7293034) :
    Framed s o t (fieldLocs frame_1_writes args s ++ arrayLocs frame_1_arrays args s ++ staticLocs frame_1_statics s) 601024 7293034 := h
theorem lw_limb (L : Cond) (hL : ∀ (args : Array Value) (s t : State), L.after args s (.returned (some (.int 1))) t = true) :
    ArmFor flags0 classFile x code maxLocals ret World_1 tables_1 room_1 Calls_1 rest_1 Pre_1
      (fun tb e a s o t => postC L tb e a s o t ∧ Framed s o t (fieldLocs frame_1_writes a s ++ arrayLocs frame_1_arrays a s ++ staticLocs frame_1_statics s) 601024 7293034) := by
  intro l hfl _ _ p e ha hc hk s m args below hf hfit hheap happ hpre
  obtain ⟨k, o, h1, h2, h3, rfl, hF⟩ := lw_comes l hfl p e ha hc hk s m args below hf hfit hheap happ hpre
  exact ⟨k, _, h1, h2, h3, hL args s _, lw_frame hF⟩
theorem i_vc : Claimed_1_1 ∧ Claimed_1_2 := ⟨lw_limb limb_1_1 (fun args s t => by simp [limb_1_1, Cond.after, Cond.holds, Cond.value]), lw_limb limb_1_2 (fun args s t => Cond.after_iff.mpr (by
  first | (rw [show limb_1_2 = Cond.eq .result (.int 1) from rfl, Cond.eq_ints (x := 1) (y := 1) rfl rfl]; simp; done) | (simp [limb_1_2, Cond.value, Term.eval]; done)))⟩
