/-! THE REFERENCE: makeLinks, joined -/
/-- a row of numbers as a row of ints -/
def tN (M : Nat → Nat) : Nat → Int32 := fun j => nI (M j)
theorem tN_up {M : Nat → Nat} {i v : Nat} : upd (tN M) i (nI v) = tN (va_up M i v) := by
  funext j
  unfold upd tN va_up
  by_cases h : j = i
  · rw [if_pos h, if_pos h]
  · rw [if_neg h, if_neg h]
abbrev mx : Nat := 1000000
def mB (M : Nat → Nat) : Prop := ∀ j, M j ≤ 1000000
theorem mB_up {M : Nat → Nat} {i v : Nat} (h : mB M) : mB (va_up M i (min v 1000000)) := by
  intro j
  unfold va_up
  by_cases hj : j = i
  · rw [if_pos hj]; omega
  · rw [if_neg hj]; exact h j
abbrev jx (u x y : Nat) : Nat := 1024 * u + 32 * x + y
def gd (ki fi se pr : Nat → Int32) (u k : Nat) : Prop := if ki u = 0 then pr k = fi u else ¬ pr k = fi u ∧ ¬ pr k = se u
def ml (ki fi se pr : Nat → Int32) (S O : Nat → Nat) (u : Nat) (M : Nat → Nat) : Nat → Nat → Nat
  | 0 => M
  | k + 1 => if (if ki u = 0 then pr k = fi u else ¬ pr k = fi u ∧ ¬ pr k = se u) then va_up (ml ki fi se pr S O u M k) (1024 * u + 32 * S k + O k) (min (ml ki fi se pr S O u M k (1024 * u + 32 * S k + O k) + 1) 1000000) else ml ki fi se pr S O u M k
theorem ml_le {ki fi se pr : Nat → Int32} {S O : Nat → Nat} {u : Nat} {M : Nat → Nat} (h : mB M) : ∀ k, mB (ml ki fi se pr S O u M k) := by
  intro k
  induction k with
  | zero => exact h
  | succ k ih =>
    rw [ml]
    split
    · split
      · exact mB_up ih
      · exact ih
    · split
      · exact mB_up ih
      · exact ih
def jn2 (M : Nat → Nat) (a b x y : Nat) : Nat → Nat
  | 0 => 0
  | z + 1 => jn2 M a b x y z + M (1024 * a + 32 * x + z) * M (1024 * b + 32 * z + y)
theorem jn2_le {M : Nat → Nat} {a b x y : Nat} (h : mB M) : ∀ z, jn2 M a b x y z ≤ z * 1000000000000 := by
  intro z
  induction z with
  | zero => exact Nat.zero_le _
  | succ z ih =>
    have h1 : M (1024 * a + 32 * x + z) * M (1024 * b + 32 * z + y) ≤ 1000000 * 1000000 := Nat.mul_le_mul (h _) (h _)
    rw [jn2]
    omega
def jn (kd : Nat) (M : Nat → Nat) (ii : Nat → Int32) (a b x y : Nat) : Nat := if kd = 1 then M (1024 * a + 32 * y + x) else if kd = 3 then M (1024 * a + 32 * x + y) + M (1024 * b + 32 * x + y) else if kd = 6 then (if (x = y ∧ ¬ ii x = 0) ∨ 0 < M (1024 * a + 32 * x + y) then 1 else 0) else jn2 M a b x y 32
theorem jn_le {kd : Nat} {M : Nat → Nat} {ii : Nat → Int32} {a b x y : Nat} (h : mB M) : jn kd M ii a b x y < 2 ^ 62 := by
  unfold jn
  have h1 := h (1024 * a + 32 * y + x)
  have h2 := h (1024 * a + 32 * x + y)
  have h3 := h (1024 * b + 32 * x + y)
  have h4 := jn2_le (a := a) (b := b) (x := x) (y := y) h 32
  split
  · omega
  · split
    · omega
    · split
      · split <;> omega
      · omega
set_option maxHeartbeats 4000000 in
set_option maxRecDepth 100000 in
theorem lp_ml {p : Program} {l : Launch} {e : Env} {R : Room} {s : State} {m : MethodId} {args : Array Value} {below : List Frame} {meth : Method} {c : Code} {Q : State → Prop} {H0 : Heap} {cells slots : Nat} (g : gX) (s0 : Nat) (w : wd_M) (h : Nat) (hs0 : s0 ≤ h) (rf np mo gb wr nr : Int32) (su pr ob ki fi se nd ii sp qu rF rT rD : Nat → Int32) (T : Nat) (hT : T ≤ 150) (S O : Nat → Nat) (hS9 : ∀ k, k < T → su k = nI (S k) ∧ S k < 32) (hO9 : ∀ k, k < T → ob k = nI (O k) ∧ O k < 32) (M : Nat → Nat) (hM9 : mB M) (u : Nat) (hu : u ≤ 40) (hx : p.tables.exec = Jvm.exec) (hb : c.code = cX4_makeLinks) (hml : c.maxLocals = 5) (hown : s.vm.findClass RX4 = some m.cls) (hts : ∀ w ∈ Cond.code yX4_makeLinks cX4_makeLinks 5 (none) :: tg, w.before args s = true) (hK : gK g s) (h0s : s0 ≤ H0.size) (hRm : 1 ≤ R.frames ∧ 25 ≤ R.locals) (hcs : cells + 0 ≤ R.cells ∧ slots + 0 ≤ R.slots)  (kx : ∀ (H : Heap) (locs : List Loc) (ls : Array Slot), gP g (mW g w h rf (nI T) np mo gb wr nr su pr ob ki fi se (tN (ml ki fi se pr S O u M T)) nd ii sp qu rF rT rD) H → gS s0 H0 H locs → lv_has ls 5 [(0, .ref h), (1, .int (nI u)), (2, .int (nI T))] → W p l e R s m args below meth c H locs cells slots Q (F0 m 119 ls [])) :
    ∀ (n k : Nat), k ≤ T → T + 1 ≤ k + n → ∀ (H : Heap) (locs : List Loc) (ls : Array Slot), gP g (mW g w h rf (nI T) np mo gb wr nr su pr ob ki fi se (tN (ml ki fi se pr S O u M k)) nd ii sp qu rF rT rD) H → gS s0 H0 H locs → lv_has ls 5 [(0, .ref h), (1, .int (nI u)), (2, .int (nI k))] → W p l e R s m args below meth c H locs cells slots Q (F0 m 2 ls []) := by
  intro n
  induction n with
  | zero =>
    intro k h1 h2
    exact absurd h2 (by omega)
  | succ n ih =>
    intro k hi hin H locs ls hP hS hl
    refine lv_iload_n hx hb dX4_makeLinks_2 rfl (lv_at hl 2 rfl) ?_
    refine lv_aload_n hx hb dX4_makeLinks_3 rfl (lv_at hl 0 rfl) ?_
    refine wd_get (ci := 5) (v := .int (nI T)) (C := RX4) (T := TX4) (N := 21) hx hb hts iwX4 hown hK.1 hP (mW_0) rfl 4 (by decide) (hts _ (tg_tail _ tw_427)) (fun _ h9 => h9) rfl dX4_makeLinks_4 ?_
    refine lv_icmp_ge (tgt := 119) hx hb dX4_makeLinks_7 (by decide) (fun c_7 => ?_) (fun c_7 => ?_)
    · have c_7 := (nI_leI (a := T) (b := k) (by omega) (by omega)).mp c_7
      have e9 : k = T := by omega
      try rw [e9] at hP
      try rw [e9] at hl
      exact kx H locs ls hP hS (lv_sub hl [0, 1, 2] rfl)
    · have c_7 := mt (nI_leI (a := T) (b := k) (by omega) (by omega)).mpr c_7
      refine lv_aload_n hx hb dX4_makeLinks_10 rfl (lv_at hl 0 rfl) ?_
      refine wd_get (ci := 5) (v := .ref (h + 2)) (C := RX4) (T := TX4) (N := 21) hx hb hts iwX4 hown hK.1 hP (mW_0) rfl 2 (by decide) (hts _ (tg_tail _ tw_425)) (fun _ h9 => h9) rfl dX4_makeLinks_11 ?_
      refine lv_iload_n hx hb dX4_makeLinks_14 rfl (lv_at hl 2 rfl) ?_
      refine wd_ildN hx hb hK.1 hP 0 (k := k) (mW_2) rfl (by omega) (by decide) dX4_makeLinks_15 ?_
      refine lv_istore_n (lv' := [(3, .int (pr k)), (0, .ref h), (1, .int (nI u)), (2, .int (nI k))]) hx hb dX4_makeLinks_16 rfl hl (by decide) rfl (fun ls hl => ?_)
      refine lv_aload_n hx hb dX4_makeLinks_17 rfl (lv_at hl 1 rfl) ?_
      refine wd_get (ci := 5) (v := .ref (h + 4)) (C := RX4) (T := TX4) (N := 21) hx hb hts iwX4 hown hK.1 hP (mW_0) rfl 5 (by decide) (hts _ (tg_tail _ tw_428)) (fun _ h9 => h9) rfl dX4_makeLinks_18 ?_
      refine lv_iload_n hx hb dX4_makeLinks_21 rfl (lv_at hl 2 rfl) ?_
      refine wd_ildN hx hb hK.1 hP 0 (k := u) (mW_4) rfl (by omega) (by decide) dX4_makeLinks_22 ?_
      refine lv_if_ne (tgt := 44) hx hb dX4_makeLinks_23 (by decide) (fun c_23 => ?_) (fun c_23 => ?_)
      · refine lv_iload_n hx hb dX4_makeLinks_44 rfl (lv_at hl 0 rfl) ?_
        refine lv_aload_n hx hb dX4_makeLinks_45 rfl (lv_at hl 1 rfl) ?_
        refine wd_get (ci := 5) (v := .ref (h + 5)) (C := RX4) (T := TX4) (N := 21) hx hb hts iwX4 hown hK.1 hP (mW_0) rfl 6 (by decide) (hts _ (tg_tail _ tw_429)) (fun _ h9 => h9) rfl dX4_makeLinks_46 ?_
        refine lv_iload_n hx hb dX4_makeLinks_49 rfl (lv_at hl 2 rfl) ?_
        refine wd_ildN hx hb hK.1 hP 0 (k := u) (mW_5) rfl (by omega) (by decide) dX4_makeLinks_50 ?_
        refine lv_icmp_eq (tgt := 68) hx hb dX4_makeLinks_51 (by decide) (fun c_51 => ?_) (fun c_51 => ?_)
        · refine lv_iconst (v := nI 0) hx hb dX4_makeLinks_68 (by decide) ?_
          refine lv_istore (lv' := [(4, .int (nI 0)), (3, .int (pr k)), (0, .ref h), (1, .int (nI u)), (2, .int (nI k))]) hx hb dX4_makeLinks_69 hl (by decide) rfl (fun ls hl => ?_)
          refine lv_iload hx hb dX4_makeLinks_71 (lv_at hl 0 rfl) ?_
          refine lv_if_eq (tgt := 113) hx hb dX4_makeLinks_73 (by decide) (fun c_73 => ?_) (fun c_73 => ?_)
          · have c_73 := (nI_eq (a := 0) (b := 0) (by omega) (by omega)).mp (show nI 0 = nI 0 from c_73)
            refine lv_iinc (v := nI (k + 1)) (lv' := [(2, .int (nI (k + 1))), (4, .int (nI 0)), (3, .int (pr k)), (0, .ref h), (1, .int (nI u))]) hx hb dX4_makeLinks_113 hl (k := 4) rfl (nI_1 _) (by decide) rfl (fun ls hl => ?_)
            refine lv_goto (tgt := 2) hx hb dX4_makeLinks_116 (by decide) ?_
            have e8 : (mW g w h rf (nI T) np mo gb wr nr su pr ob ki fi se (tN (ml ki fi se pr S O u M k)) nd ii sp qu rF rT rD) = (mW g w h rf (nI T) np mo gb wr nr su pr ob ki fi se (tN (ml ki fi se pr S O u M (k + 1))) nd ii sp qu rF rT rD) := by rw [ml, if_neg (by clear hts hP hK hx hb hown hS hRm hcs hl ih; grind)]
            rw [e8] at hP
            have hl : lv_has ls 5 [(0, .ref h), (1, .int (nI u)), (2, .int (nI (k + 1)))] := lv_sub hl [3, 4, 0] rfl
            exact ih (k + 1) (by omega) (by omega) _ _ ls hP hS hl
          · have c_73 := mt (nI_eq (a := 0) (b := 0) (by omega) (by omega)).mpr (show ¬ (nI 0 = nI 0) from c_73)
            exact absurd c_73 (by decide)
        · refine lv_iload_n hx hb dX4_makeLinks_54 rfl (lv_at hl 0 rfl) ?_
          refine lv_aload_n hx hb dX4_makeLinks_55 rfl (lv_at hl 1 rfl) ?_
          refine wd_get (ci := 5) (v := .ref (h + 6)) (C := RX4) (T := TX4) (N := 21) hx hb hts iwX4 hown hK.1 hP (mW_0) rfl 7 (by decide) (hts _ (tg_tail _ tw_430)) (fun _ h9 => h9) rfl dX4_makeLinks_56 ?_
          refine lv_iload_n hx hb dX4_makeLinks_59 rfl (lv_at hl 2 rfl) ?_
          refine wd_ildN hx hb hK.1 hP 0 (k := u) (mW_6) rfl (by omega) (by decide) dX4_makeLinks_60 ?_
          refine lv_icmp_eq (tgt := 68) hx hb dX4_makeLinks_61 (by decide) (fun c_61 => ?_) (fun c_61 => ?_)
          · refine lv_iconst (v := nI 0) hx hb dX4_makeLinks_68 (by decide) ?_
            refine lv_istore (lv' := [(4, .int (nI 0)), (3, .int (pr k)), (0, .ref h), (1, .int (nI u)), (2, .int (nI k))]) hx hb dX4_makeLinks_69 hl (by decide) rfl (fun ls hl => ?_)
            refine lv_iload hx hb dX4_makeLinks_71 (lv_at hl 0 rfl) ?_
            refine lv_if_eq (tgt := 113) hx hb dX4_makeLinks_73 (by decide) (fun c_73 => ?_) (fun c_73 => ?_)
            · have c_73 := (nI_eq (a := 0) (b := 0) (by omega) (by omega)).mp (show nI 0 = nI 0 from c_73)
              refine lv_iinc (v := nI (k + 1)) (lv' := [(2, .int (nI (k + 1))), (4, .int (nI 0)), (3, .int (pr k)), (0, .ref h), (1, .int (nI u))]) hx hb dX4_makeLinks_113 hl (k := 4) rfl (nI_1 _) (by decide) rfl (fun ls hl => ?_)
              refine lv_goto (tgt := 2) hx hb dX4_makeLinks_116 (by decide) ?_
              have e8 : (mW g w h rf (nI T) np mo gb wr nr su pr ob ki fi se (tN (ml ki fi se pr S O u M k)) nd ii sp qu rF rT rD) = (mW g w h rf (nI T) np mo gb wr nr su pr ob ki fi se (tN (ml ki fi se pr S O u M (k + 1))) nd ii sp qu rF rT rD) := by rw [ml, if_neg (by clear hts hP hK hx hb hown hS hRm hcs hl ih; grind)]
              rw [e8] at hP
              have hl : lv_has ls 5 [(0, .ref h), (1, .int (nI u)), (2, .int (nI (k + 1)))] := lv_sub hl [3, 4, 0] rfl
              exact ih (k + 1) (by omega) (by omega) _ _ ls hP hS hl
            · have c_73 := mt (nI_eq (a := 0) (b := 0) (by omega) (by omega)).mpr (show ¬ (nI 0 = nI 0) from c_73)
              exact absurd c_73 (by decide)
          · refine lv_iconst (v := nI 1) hx hb dX4_makeLinks_64 (by decide) ?_
            refine lv_goto (tgt := 69) hx hb dX4_makeLinks_65 (by decide) ?_
            refine lv_istore (lv' := [(4, .int (nI 1)), (3, .int (pr k)), (0, .ref h), (1, .int (nI u)), (2, .int (nI k))]) hx hb dX4_makeLinks_69 hl (by decide) rfl (fun ls hl => ?_)
            refine lv_iload hx hb dX4_makeLinks_71 (lv_at hl 0 rfl) ?_
            refine lv_if_eq (tgt := 113) hx hb dX4_makeLinks_73 (by decide) (fun c_73 => ?_) (fun c_73 => ?_)
            · have c_73 := (nI_eq (a := 1) (b := 0) (by omega) (by omega)).mp (show nI 1 = nI 0 from c_73)
              exact absurd c_73 (by decide)
            · have c_73 := mt (nI_eq (a := 1) (b := 0) (by omega) (by omega)).mpr (show ¬ (nI 1 = nI 0) from c_73)
              refine lv_aload_n hx hb dX4_makeLinks_76 rfl (lv_at hl 2 rfl) ?_
              refine lv_iload_n hx hb dX4_makeLinks_77 rfl (lv_at hl 3 rfl) ?_
              refine lv_aload_n hx hb dX4_makeLinks_78 rfl (lv_at hl 2 rfl) ?_
              refine wd_get (ci := 5) (v := .ref (h + 1)) (C := RX4) (T := TX4) (N := 21) hx hb hts iwX4 hown hK.1 hP (mW_0) rfl 1 (by decide) (hts _ (tg_tail _ tw_424)) (fun _ h9 => h9) rfl dX4_makeLinks_79 ?_
              refine lv_iload_n hx hb dX4_makeLinks_82 rfl (lv_at hl 4 rfl) ?_
              refine wd_ildN hx hb hK.1 hP 0 (k := k) (mW_1) rfl (by omega) (by decide) dX4_makeLinks_83 ?_
              refine wd_ti (x' := nI (S k)) ((hS9 k (by omega)).1) ?_
              refine lv_aload_n hx hb dX4_makeLinks_84 rfl (lv_at hl 2 rfl) ?_
              refine wd_get (ci := 5) (v := .ref (h + 3)) (C := RX4) (T := TX4) (N := 21) hx hb hts iwX4 hown hK.1 hP (mW_0) rfl 3 (by decide) (hts _ (tg_tail _ tw_426)) (fun _ h9 => h9) rfl dX4_makeLinks_85 ?_
              refine lv_iload_n hx hb dX4_makeLinks_88 rfl (lv_at hl 4 rfl) ?_
              refine wd_ildN hx hb hK.1 hP 0 (k := k) (mW_3) rfl (by omega) (by decide) dX4_makeLinks_89 ?_
              refine wd_ti (x' := nI (O k)) ((hO9 k (by omega)).1) ?_
              refine lv_aload_n hx hb dX4_makeLinks_90 rfl (lv_at hl 2 rfl) ?_
              refine lv_iload_n hx hb dX4_makeLinks_91 rfl (lv_at hl 3 rfl) ?_
              refine lv_aload_n hx hb dX4_makeLinks_92 rfl (lv_at hl 2 rfl) ?_
              refine wd_get (ci := 5) (v := .ref (h + 1)) (C := RX4) (T := TX4) (N := 21) hx hb hts iwX4 hown hK.1 hP (mW_0) rfl 1 (by decide) (hts _ (tg_tail _ tw_424)) (fun _ h9 => h9) rfl dX4_makeLinks_93 ?_
              refine lv_iload_n hx hb dX4_makeLinks_96 rfl (lv_at hl 4 rfl) ?_
              refine wd_ildN hx hb hK.1 hP 0 (k := k) (mW_1) rfl (by omega) (by decide) dX4_makeLinks_97 ?_
              refine wd_ti (x' := nI (S k)) ((hS9 k (by omega)).1) ?_
              refine lv_aload_n hx hb dX4_makeLinks_98 rfl (lv_at hl 2 rfl) ?_
              refine wd_get (ci := 5) (v := .ref (h + 3)) (C := RX4) (T := TX4) (N := 21) hx hb hts iwX4 hown hK.1 hP (mW_0) rfl 3 (by decide) (hts _ (tg_tail _ tw_426)) (fun _ h9 => h9) rfl dX4_makeLinks_99 ?_
              refine lv_iload_n hx hb dX4_makeLinks_102 rfl (lv_at hl 4 rfl) ?_
              refine wd_ildN hx hb hK.1 hP 0 (k := k) (mW_3) rfl (by omega) (by decide) dX4_makeLinks_103 ?_
              refine wd_ti (x' := nI (O k)) ((hO9 k (by omega)).1) ?_
              have hs9 := (hS9 k (by omega)).2
              have ho9 := (hO9 k (by omega)).2
              refine cr_Vi (As := [.int (nI u), .int (nI (S k)), .int (nI (O k))]) (rest := [.int (nI (O k)), .int (nI (S k)), .int (nI u), .ref h]) ⟨hx, hb, hml, hown, hts⟩ (c_X4_cell l g s0  w h hs0 rf (nI T) np mo gb wr nr su pr ob ki fi se (tN (ml ki fi se pr S O u M k)) nd ii sp qu rF rT rD (u) (S k) (O k) (by omega) (by omega) (by omega)) (cw_V 3 hts tg_tail tw_557 tw_559 tp_28 tw_4 tw_560 rfl rfl (by decide +kernel) ⟨Nat.le_trans (by decide) hRm.1, Nat.le_trans (by decide) hRm.2⟩) hK hP h0s hS (mW_0) rfl rfl rfl hl.1 rfl (Nat.le_of_ble_eq_true rfl) dX4_makeLinks_104 hcs (fun r9 w9 H locs hw hP hS => ?_)
              obtain ⟨e_r9, hw9⟩ := hw
              rw [hw9] at hP
              subst e_r9
              refine wd_ti (x' := nI ((ml ki fi se pr S O u M k) (1024 * u + 32 * S k + O k))) (rfl) ?_
              refine lv_i2l (v := lN (ml ki fi se pr S O u M k (1024 * u + 32 * S k + O k))) hx hb dX4_makeLinks_107 (nI_l (by have := ml_le (ki := ki) (fi := fi) (se := se) (pr := pr) (S := S) (O := O) (u := u) hM9 k (1024 * u + 32 * S k + O k); omega)) ?_
              refine lv_lconst (v := lN 1) hx hb dX4_makeLinks_108 (by decide) ?_
              refine lv_ladd hx hb dX4_makeLinks_109 ?_
              refine wd_tl (x' := lN ((ml ki fi se pr S O u M k (1024 * u + 32 * S k + O k)) + 1)) (lN_add _ _) ?_
              refine cr_Vv (As := [.int (nI u), .int (nI (S k)), .int (nI (O k)), .long (lN ((ml ki fi se pr S O u M k (1024 * u + 32 * S k + O k)) + 1))]) (rest := []) ⟨hx, hb, hml, hown, hts⟩ (c_X4_put l g s0  w h hs0 rf (nI T) np mo gb wr nr su pr ob ki fi se (tN (ml ki fi se pr S O u M k)) nd ii sp qu rF rT rD (u) (S k) (O k) ((ml ki fi se pr S O u M k (1024 * u + 32 * S k + O k)) + 1) (by omega) (by omega) (by omega) (by have := ml_le (ki := ki) (fi := fi) (se := se) (pr := pr) (S := S) (O := O) (u := u) hM9 k (1024 * u + 32 * S k + O k); omega)) (cw_V 4 hts tg_tail tw_561 tw_563 tp_29 tw_4 tw_564 rfl rfl (by decide +kernel) ⟨Nat.le_trans (by decide) hRm.1, Nat.le_trans (by decide) hRm.2⟩) hK hP h0s hS (mW_0) rfl rfl rfl hl.1 rfl (Nat.le_of_ble_eq_true rfl) dX4_makeLinks_110 hcs (fun w9 H locs hw hP hS => ?_)
              rw [hw, tN_up] at hP
              refine lv_iinc (v := nI (k + 1)) (lv' := [(2, .int (nI (k + 1))), (4, .int (nI 1)), (3, .int (pr k)), (0, .ref h), (1, .int (nI u))]) hx hb dX4_makeLinks_113 hl (k := 4) rfl (nI_1 _) (by decide) rfl (fun ls hl => ?_)
              refine lv_goto (tgt := 2) hx hb dX4_makeLinks_116 (by decide) ?_
              have e8 : (mW g w h rf (nI T) np mo gb wr nr su pr ob ki fi se (tN (va_up (ml ki fi se pr S O u M k) (1024 * u + 32 * S k + O k) (min ((ml ki fi se pr S O u M k (1024 * u + 32 * S k + O k)) + 1) 1000000))) nd ii sp qu rF rT rD) = (mW g w h rf (nI T) np mo gb wr nr su pr ob ki fi se (tN (ml ki fi se pr S O u M (k + 1))) nd ii sp qu rF rT rD) := by rw [ml, if_pos (by clear hts hP hK hx hb hown hS hRm hcs hl ih; grind)]
              rw [e8] at hP
              have hl : lv_has ls 5 [(0, .ref h), (1, .int (nI u)), (2, .int (nI (k + 1)))] := lv_sub hl [3, 4, 0] rfl
              exact ih (k + 1) (by omega) (by omega) _ _ ls hP hS hl
      · refine lv_iload_n hx hb dX4_makeLinks_26 rfl (lv_at hl 0 rfl) ?_
        refine lv_aload_n hx hb dX4_makeLinks_27 rfl (lv_at hl 1 rfl) ?_
        refine wd_get (ci := 5) (v := .ref (h + 5)) (C := RX4) (T := TX4) (N := 21) hx hb hts iwX4 hown hK.1 hP (mW_0) rfl 6 (by decide) (hts _ (tg_tail _ tw_429)) (fun _ h9 => h9) rfl dX4_makeLinks_28 ?_
        refine lv_iload_n hx hb dX4_makeLinks_31 rfl (lv_at hl 2 rfl) ?_
        refine wd_ildN hx hb hK.1 hP 0 (k := u) (mW_5) rfl (by omega) (by decide) dX4_makeLinks_32 ?_
        refine lv_icmp_ne (tgt := 40) hx hb dX4_makeLinks_33 (by decide) (fun c_33 => ?_) (fun c_33 => ?_)
        · refine lv_iconst (v := nI 0) hx hb dX4_makeLinks_40 (by decide) ?_
          refine lv_goto (tgt := 69) hx hb dX4_makeLinks_41 (by decide) ?_
          refine lv_istore (lv' := [(4, .int (nI 0)), (3, .int (pr k)), (0, .ref h), (1, .int (nI u)), (2, .int (nI k))]) hx hb dX4_makeLinks_69 hl (by decide) rfl (fun ls hl => ?_)
          refine lv_iload hx hb dX4_makeLinks_71 (lv_at hl 0 rfl) ?_
          refine lv_if_eq (tgt := 113) hx hb dX4_makeLinks_73 (by decide) (fun c_73 => ?_) (fun c_73 => ?_)
          · have c_73 := (nI_eq (a := 0) (b := 0) (by omega) (by omega)).mp (show nI 0 = nI 0 from c_73)
            refine lv_iinc (v := nI (k + 1)) (lv' := [(2, .int (nI (k + 1))), (4, .int (nI 0)), (3, .int (pr k)), (0, .ref h), (1, .int (nI u))]) hx hb dX4_makeLinks_113 hl (k := 4) rfl (nI_1 _) (by decide) rfl (fun ls hl => ?_)
            refine lv_goto (tgt := 2) hx hb dX4_makeLinks_116 (by decide) ?_
            have e8 : (mW g w h rf (nI T) np mo gb wr nr su pr ob ki fi se (tN (ml ki fi se pr S O u M k)) nd ii sp qu rF rT rD) = (mW g w h rf (nI T) np mo gb wr nr su pr ob ki fi se (tN (ml ki fi se pr S O u M (k + 1))) nd ii sp qu rF rT rD) := by rw [ml, if_neg (by clear hts hP hK hx hb hown hS hRm hcs hl ih; grind)]
            rw [e8] at hP
            have hl : lv_has ls 5 [(0, .ref h), (1, .int (nI u)), (2, .int (nI (k + 1)))] := lv_sub hl [3, 4, 0] rfl
            exact ih (k + 1) (by omega) (by omega) _ _ ls hP hS hl
          · have c_73 := mt (nI_eq (a := 0) (b := 0) (by omega) (by omega)).mpr (show ¬ (nI 0 = nI 0) from c_73)
            exact absurd c_73 (by decide)
        · refine lv_iconst (v := nI 1) hx hb dX4_makeLinks_36 (by decide) ?_
          refine lv_goto (tgt := 69) hx hb dX4_makeLinks_37 (by decide) ?_
          refine lv_istore (lv' := [(4, .int (nI 1)), (3, .int (pr k)), (0, .ref h), (1, .int (nI u)), (2, .int (nI k))]) hx hb dX4_makeLinks_69 hl (by decide) rfl (fun ls hl => ?_)
          refine lv_iload hx hb dX4_makeLinks_71 (lv_at hl 0 rfl) ?_
          refine lv_if_eq (tgt := 113) hx hb dX4_makeLinks_73 (by decide) (fun c_73 => ?_) (fun c_73 => ?_)
          · have c_73 := (nI_eq (a := 1) (b := 0) (by omega) (by omega)).mp (show nI 1 = nI 0 from c_73)
            exact absurd c_73 (by decide)
          · have c_73 := mt (nI_eq (a := 1) (b := 0) (by omega) (by omega)).mpr (show ¬ (nI 1 = nI 0) from c_73)
            refine lv_aload_n hx hb dX4_makeLinks_76 rfl (lv_at hl 2 rfl) ?_
            refine lv_iload_n hx hb dX4_makeLinks_77 rfl (lv_at hl 3 rfl) ?_
            refine lv_aload_n hx hb dX4_makeLinks_78 rfl (lv_at hl 2 rfl) ?_
            refine wd_get (ci := 5) (v := .ref (h + 1)) (C := RX4) (T := TX4) (N := 21) hx hb hts iwX4 hown hK.1 hP (mW_0) rfl 1 (by decide) (hts _ (tg_tail _ tw_424)) (fun _ h9 => h9) rfl dX4_makeLinks_79 ?_
            refine lv_iload_n hx hb dX4_makeLinks_82 rfl (lv_at hl 4 rfl) ?_
            refine wd_ildN hx hb hK.1 hP 0 (k := k) (mW_1) rfl (by omega) (by decide) dX4_makeLinks_83 ?_
            refine wd_ti (x' := nI (S k)) ((hS9 k (by omega)).1) ?_
            refine lv_aload_n hx hb dX4_makeLinks_84 rfl (lv_at hl 2 rfl) ?_
            refine wd_get (ci := 5) (v := .ref (h + 3)) (C := RX4) (T := TX4) (N := 21) hx hb hts iwX4 hown hK.1 hP (mW_0) rfl 3 (by decide) (hts _ (tg_tail _ tw_426)) (fun _ h9 => h9) rfl dX4_makeLinks_85 ?_
            refine lv_iload_n hx hb dX4_makeLinks_88 rfl (lv_at hl 4 rfl) ?_
            refine wd_ildN hx hb hK.1 hP 0 (k := k) (mW_3) rfl (by omega) (by decide) dX4_makeLinks_89 ?_
            refine wd_ti (x' := nI (O k)) ((hO9 k (by omega)).1) ?_
            refine lv_aload_n hx hb dX4_makeLinks_90 rfl (lv_at hl 2 rfl) ?_
            refine lv_iload_n hx hb dX4_makeLinks_91 rfl (lv_at hl 3 rfl) ?_
            refine lv_aload_n hx hb dX4_makeLinks_92 rfl (lv_at hl 2 rfl) ?_
            refine wd_get (ci := 5) (v := .ref (h + 1)) (C := RX4) (T := TX4) (N := 21) hx hb hts iwX4 hown hK.1 hP (mW_0) rfl 1 (by decide) (hts _ (tg_tail _ tw_424)) (fun _ h9 => h9) rfl dX4_makeLinks_93 ?_
            refine lv_iload_n hx hb dX4_makeLinks_96 rfl (lv_at hl 4 rfl) ?_
            refine wd_ildN hx hb hK.1 hP 0 (k := k) (mW_1) rfl (by omega) (by decide) dX4_makeLinks_97 ?_
            refine wd_ti (x' := nI (S k)) ((hS9 k (by omega)).1) ?_
            refine lv_aload_n hx hb dX4_makeLinks_98 rfl (lv_at hl 2 rfl) ?_
            refine wd_get (ci := 5) (v := .ref (h + 3)) (C := RX4) (T := TX4) (N := 21) hx hb hts iwX4 hown hK.1 hP (mW_0) rfl 3 (by decide) (hts _ (tg_tail _ tw_426)) (fun _ h9 => h9) rfl dX4_makeLinks_99 ?_
            refine lv_iload_n hx hb dX4_makeLinks_102 rfl (lv_at hl 4 rfl) ?_
            refine wd_ildN hx hb hK.1 hP 0 (k := k) (mW_3) rfl (by omega) (by decide) dX4_makeLinks_103 ?_
            refine wd_ti (x' := nI (O k)) ((hO9 k (by omega)).1) ?_
            have hs9 := (hS9 k (by omega)).2
            have ho9 := (hO9 k (by omega)).2
            refine cr_Vi (As := [.int (nI u), .int (nI (S k)), .int (nI (O k))]) (rest := [.int (nI (O k)), .int (nI (S k)), .int (nI u), .ref h]) ⟨hx, hb, hml, hown, hts⟩ (c_X4_cell l g s0  w h hs0 rf (nI T) np mo gb wr nr su pr ob ki fi se (tN (ml ki fi se pr S O u M k)) nd ii sp qu rF rT rD (u) (S k) (O k) (by omega) (by omega) (by omega)) (cw_V 3 hts tg_tail tw_557 tw_559 tp_28 tw_4 tw_560 rfl rfl (by decide +kernel) ⟨Nat.le_trans (by decide) hRm.1, Nat.le_trans (by decide) hRm.2⟩) hK hP h0s hS (mW_0) rfl rfl rfl hl.1 rfl (Nat.le_of_ble_eq_true rfl) dX4_makeLinks_104 hcs (fun r9 w9 H locs hw hP hS => ?_)
            obtain ⟨e_r9, hw9⟩ := hw
            rw [hw9] at hP
            subst e_r9
            refine wd_ti (x' := nI ((ml ki fi se pr S O u M k) (1024 * u + 32 * S k + O k))) (rfl) ?_
            refine lv_i2l (v := lN (ml ki fi se pr S O u M k (1024 * u + 32 * S k + O k))) hx hb dX4_makeLinks_107 (nI_l (by have := ml_le (ki := ki) (fi := fi) (se := se) (pr := pr) (S := S) (O := O) (u := u) hM9 k (1024 * u + 32 * S k + O k); omega)) ?_
            refine lv_lconst (v := lN 1) hx hb dX4_makeLinks_108 (by decide) ?_
            refine lv_ladd hx hb dX4_makeLinks_109 ?_
            refine wd_tl (x' := lN ((ml ki fi se pr S O u M k (1024 * u + 32 * S k + O k)) + 1)) (lN_add _ _) ?_
            refine cr_Vv (As := [.int (nI u), .int (nI (S k)), .int (nI (O k)), .long (lN ((ml ki fi se pr S O u M k (1024 * u + 32 * S k + O k)) + 1))]) (rest := []) ⟨hx, hb, hml, hown, hts⟩ (c_X4_put l g s0  w h hs0 rf (nI T) np mo gb wr nr su pr ob ki fi se (tN (ml ki fi se pr S O u M k)) nd ii sp qu rF rT rD (u) (S k) (O k) ((ml ki fi se pr S O u M k (1024 * u + 32 * S k + O k)) + 1) (by omega) (by omega) (by omega) (by have := ml_le (ki := ki) (fi := fi) (se := se) (pr := pr) (S := S) (O := O) (u := u) hM9 k (1024 * u + 32 * S k + O k); omega)) (cw_V 4 hts tg_tail tw_561 tw_563 tp_29 tw_4 tw_564 rfl rfl (by decide +kernel) ⟨Nat.le_trans (by decide) hRm.1, Nat.le_trans (by decide) hRm.2⟩) hK hP h0s hS (mW_0) rfl rfl rfl hl.1 rfl (Nat.le_of_ble_eq_true rfl) dX4_makeLinks_110 hcs (fun w9 H locs hw hP hS => ?_)
            rw [hw, tN_up] at hP
            refine lv_iinc (v := nI (k + 1)) (lv' := [(2, .int (nI (k + 1))), (4, .int (nI 1)), (3, .int (pr k)), (0, .ref h), (1, .int (nI u))]) hx hb dX4_makeLinks_113 hl (k := 4) rfl (nI_1 _) (by decide) rfl (fun ls hl => ?_)
            refine lv_goto (tgt := 2) hx hb dX4_makeLinks_116 (by decide) ?_
            have e8 : (mW g w h rf (nI T) np mo gb wr nr su pr ob ki fi se (tN (va_up (ml ki fi se pr S O u M k) (1024 * u + 32 * S k + O k) (min ((ml ki fi se pr S O u M k (1024 * u + 32 * S k + O k)) + 1) 1000000))) nd ii sp qu rF rT rD) = (mW g w h rf (nI T) np mo gb wr nr su pr ob ki fi se (tN (ml ki fi se pr S O u M (k + 1))) nd ii sp qu rF rT rD) := by rw [ml, if_pos (by clear hts hP hK hx hb hown hS hRm hcs hl ih; grind)]
            rw [e8] at hP
            have hl : lv_has ls 5 [(0, .ref h), (1, .int (nI u)), (2, .int (nI (k + 1)))] := lv_sub hl [3, 4, 0] rfl
            exact ih (k + 1) (by omega) (by omega) _ _ ls hP hS hl

set_option maxHeartbeats 4000000 in
set_option maxRecDepth 100000 in
theorem c_X4_makeLinks (l : Launch) (g : gX) (s0 : Nat) (w : wd_M) (h : Nat) (hs0 : s0 ≤ h) (rf np mo gb wr nr : Int32) (su pr ob ki fi se nd ii sp qu rF rT rD : Nat → Int32) (T : Nat) (hT : T ≤ 150) (S O : Nat → Nat) (hS9 : ∀ k, k < T → su k = nI (S k) ∧ S k < 32) (hO9 : ∀ k, k < T → ob k = nI (O k) ∧ O k < 32) (M : Nat → Nat) (hM9 : mB M) (u : Nat) (hu : u ≤ 40) : Met l yX4_makeLinks (Cond.code yX4_makeLinks cX4_makeLinks 5 (none) :: tg) ({ frames := 1, cells := 0, slots := 0, locals := 25 }) (cP g s0 (mW g w h rf (nI T) np mo gb wr nr su pr ob ki fi se (tN M) nd ii sp qu rF rT rD) [.ref h, .int (nI u)]) (cV g s0 (fun w' => w' = (mW g w h rf (nI T) np mo gb wr nr su pr ob ki fi se (tN (ml ki fi se pr S O u M T)) nd ii sp qu rF rT rD))) 0 0 (cA s0) := by
  refine Met.ofW (cc := cX4_makeLinks) (maxL := 5) (ret := none) (by decide) rfl ?_
  intro p e s m args below meth c s₁ B9 hml hv
  obtain ⟨rfl, h0s, hP, hK⟩ := hv
  have hx := B9.exec
  have hb := B9.bytes
  have hr := B9.returns
  have hts := atoms_spec (ws := Cond.code yX4_makeLinks cX4_makeLinks 5 (none) :: tg) B9.pre
  have hown : s.vm.findClass RX4 = some m.cls := findClass_of_methodNamed B9.named
  have hlocks := B9.notSynchronized
  have hS : gS s0 s.heap s.heap [] := va_S.rf
  have hRm : 1 ≤ (headSpec (Cond.code yX4_makeLinks cX4_makeLinks 5 (none) :: tg) ({ frames := 1, cells := 0, slots := 0, locals := 25 })).room.frames ∧ 25 ≤ (headSpec (Cond.code yX4_makeLinks cX4_makeLinks 5 (none) :: tg) ({ frames := 1, cells := 0, slots := 0, locals := 25 })).room.locals := ⟨Nat.le_refl _, Nat.le_refl _⟩
  have hcs : 0 + 0 ≤ (headSpec (Cond.code yX4_makeLinks cX4_makeLinks 5 (none) :: tg) ({ frames := 1, cells := 0, slots := 0, locals := 25 })).room.cells ∧ 0 + 0 ≤ (headSpec (Cond.code yX4_makeLinks cX4_makeLinks 5 (none) :: tg) ({ frames := 1, cells := 0, slots := 0, locals := 25 })).room.slots := ⟨Nat.zero_le _, Nat.zero_le _⟩
  have hl := lv_entry ([.ref h, .int (nI u)]) (n := 5) (Nat.le_of_ble_eq_true rfl)
  rw [lg_entry_eq]
  generalize (lg_sl ([.ref h, .int (nI u)]) ++ List.replicate (5 - (lg_sl ([.ref h, .int (nI u)])).length) Slot.unset).toArray = ls at hl ⊢
  have hl : lv_has ls 5 [(0, .ref h), (1, .int (nI u))] := hl
  refine lv_iconst (v := nI 0) hx hb dX4_makeLinks_0 (by decide) ?_
  refine lv_istore_n (lv' := [(2, .int (nI 0)), (0, .ref h), (1, .int (nI u))]) hx hb dX4_makeLinks_1 rfl hl (by decide) rfl (fun ls hl => ?_)
  have e8 : (mW g w h rf (nI T) np mo gb wr nr su pr ob ki fi se (tN M) nd ii sp qu rF rT rD) = (mW g w h rf (nI T) np mo gb wr nr su pr ob ki fi se (tN (ml ki fi se pr S O u M 0)) nd ii sp qu rF rT rD) := by rfl
  rw [e8] at hP
  have hl : lv_has ls 5 [(0, .ref h), (1, .int (nI u)), (2, .int (nI 0))] := lv_sub hl [1, 2, 0] rfl
  refine lp_ml g s0 w h hs0 rf np mo gb wr nr su pr ob ki fi se nd ii sp qu rF rT rD T hT S O hS9 hO9 M hM9 u hu hx hb hml hown hts hK h0s hRm hcs  ?_ (T + 1) 0 (by omega) (by omega) _ _ ls hP hS hl
  intro H locs ls hP hS hl
  exact W.vret hx hb hr (fun t9 ht hW => ⟨⟨(mW g w h rf (nI T) np mo gb wr nr su pr ob ki fi se (tN (ml ki fi se pr S O u M T)) nd ii sp qu rF rT rD), rfl, rfl, cB_of ht hP⟩, hS.F ht⟩) hS.2.2 dX4_makeLinks_119

set_option maxHeartbeats 4000000 in
set_option maxRecDepth 100000 in
theorem lp_jn {p : Program} {l : Launch} {e : Env} {R : Room} {s : State} {m : MethodId} {args : Array Value} {below : List Frame} {meth : Method} {c : Code} {Q : State → Prop} {H0 : Heap} {cells slots : Nat} (g : gX) (s0 : Nat) (w : wd_M) (h : Nat) (hs0 : s0 ≤ h) (rf nt np mo gb wr nr : Int32) (su pr ob ki fi se nd ii sp qu rF rT rD : Nat → Int32) (M : Nat → Nat) (hM9 : mB M) (u a b x y : Nat) (hx1 : x < 32) (hy1 : y < 32) (ha9 : a ≤ 40) (hb9 : b ≤ 40) (hx : p.tables.exec = Jvm.exec) (hb : c.code = cX4_joined) (hml : c.maxLocals = 9) (hown : s.vm.findClass RX4 = some m.cls) (hts : ∀ w ∈ Cond.code yX4_joined cX4_joined 9 (some .long) :: tg, w.before args s = true) (hK : gK g s) (h0s : s0 ≤ H0.size) (hRm : 1 ≤ R.frames ∧ 23 ≤ R.locals) (hcs : cells + 0 ≤ R.cells ∧ slots + 0 ≤ R.slots)  (kx : ∀ (H : Heap) (locs : List Loc) (ls : Array Slot), gP g (mW g w h rf nt np mo gb wr nr su pr ob ki fi se (tN M) nd ii sp qu rF rT rD) H → gS s0 H0 H locs → lv_has ls 9 [(0, .ref h), (1, .int (nI u)), (2, .int (nI x)), (3, .int (nI y)), (4, .int (nI a)), (5, .int (nI b)), (6, .long (lN (jn2 M a b x y 32))), (8, .int (nI 32))] → W p l e R s m args below meth c H locs cells slots Q (F0 m 153 ls [])) :
    ∀ (n z : Nat), z ≤ 32 → 32 + 1 ≤ z + n → ∀ (H : Heap) (locs : List Loc) (ls : Array Slot), gP g (mW g w h rf nt np mo gb wr nr su pr ob ki fi se (tN M) nd ii sp qu rF rT rD) H → gS s0 H0 H locs → lv_has ls 9 [(0, .ref h), (1, .int (nI u)), (2, .int (nI x)), (3, .int (nI y)), (4, .int (nI a)), (5, .int (nI b)), (6, .long (lN (jn2 M a b x y z))), (8, .int (nI z))] → W p l e R s m args below meth c H locs cells slots Q (F0 m 114 ls []) := by
  intro n
  induction n with
  | zero =>
    intro z h1 h2
    exact absurd h2 (by omega)
  | succ n ih =>
    intro z hi hin H locs ls hP hS hl
    refine lv_iload hx hb dX4_joined_114 (lv_at hl 7 rfl) ?_
    refine lv_bipush (v := nI 32) hx hb dX4_joined_116 (by decide) ?_
    refine lv_icmp_ge (tgt := 153) hx hb dX4_joined_118 (by decide) (fun c_118 => ?_) (fun c_118 => ?_)
    · have c_118 := (nI_leI (a := 32) (b := z) (by omega) (by omega)).mp c_118
      have e9 : z = 32 := by omega
      try rw [e9] at hP
      try rw [e9] at hl
      exact kx H locs ls hP hS (lv_sub hl [0, 1, 2, 3, 4, 5, 6, 7] rfl)
    · have c_118 := mt (nI_leI (a := 32) (b := z) (by omega) (by omega)).mpr c_118
      refine lv_lload hx hb dX4_joined_121 (lv_at hl 6 rfl) ?_
      refine lv_aload_n hx hb dX4_joined_123 rfl (lv_at hl 0 rfl) ?_
      refine lv_iload hx hb dX4_joined_124 (lv_at hl 4 rfl) ?_
      refine lv_iload_n hx hb dX4_joined_126 rfl (lv_at hl 2 rfl) ?_
      refine lv_iload hx hb dX4_joined_127 (lv_at hl 7 rfl) ?_
      refine cr_Vi (As := [.int (nI a), .int (nI x), .int (nI z)]) (rest := [.long (lN (jn2 M a b x y z))]) ⟨hx, hb, hml, hown, hts⟩ (c_X4_cell l g s0  w h hs0 rf nt np mo gb wr nr su pr ob ki fi se (tN M) nd ii sp qu rF rT rD (a) (x) (z) (by omega) (by omega) (by omega)) (cw_V 3 hts tg_tail tw_557 tw_559 tp_28 tw_4 tw_560 rfl rfl (by decide +kernel) ⟨Nat.le_trans (by decide) hRm.1, Nat.le_trans (by decide) hRm.2⟩) hK hP h0s hS (mW_0) rfl rfl rfl hl.1 rfl (Nat.le_of_ble_eq_true rfl) dX4_joined_129 hcs (fun r9 w9 H locs hw hP hS => ?_)
      obtain ⟨e_r9, hw9⟩ := hw
      rw [hw9] at hP
      subst e_r9
      refine wd_ti (x' := nI (M (1024 * a + 32 * x + z))) (rfl) ?_
      refine lv_i2l (v := lN (M (1024 * a + 32 * x + z))) hx hb dX4_joined_132 (nI_l (by have := hM9 (1024 * a + 32 * x + z); omega)) ?_
      refine lv_aload_n hx hb dX4_joined_133 rfl (lv_at hl 0 rfl) ?_
      refine lv_iload hx hb dX4_joined_134 (lv_at hl 5 rfl) ?_
      refine lv_iload hx hb dX4_joined_136 (lv_at hl 7 rfl) ?_
      refine lv_iload_n hx hb dX4_joined_138 rfl (lv_at hl 3 rfl) ?_
      refine cr_Vi (As := [.int (nI b), .int (nI z), .int (nI y)]) (rest := [.long (lN (M (1024 * a + 32 * x + z))), .long (lN (jn2 M a b x y z))]) ⟨hx, hb, hml, hown, hts⟩ (c_X4_cell l g s0  w h hs0 rf nt np mo gb wr nr su pr ob ki fi se (tN M) nd ii sp qu rF rT rD (b) (z) (y) (by omega) (by omega) (by omega)) (cw_V 3 hts tg_tail tw_557 tw_559 tp_28 tw_4 tw_560 rfl rfl (by decide +kernel) ⟨Nat.le_trans (by decide) hRm.1, Nat.le_trans (by decide) hRm.2⟩) hK hP h0s hS (mW_0) rfl rfl rfl hl.1 rfl (Nat.le_of_ble_eq_true rfl) dX4_joined_139 hcs (fun r9 w9 H locs hw hP hS => ?_)
      obtain ⟨e_r9, hw9⟩ := hw
      rw [hw9] at hP
      subst e_r9
      refine wd_ti (x' := nI (M (1024 * b + 32 * z + y))) (rfl) ?_
      refine lv_i2l (v := lN (M (1024 * b + 32 * z + y))) hx hb dX4_joined_142 (nI_l (by have := hM9 (1024 * b + 32 * z + y); omega)) ?_
      refine lv_lmul hx hb dX4_joined_143 ?_
      refine wd_tl (x' := lN (M (1024 * a + 32 * x + z) * M (1024 * b + 32 * z + y))) (lN_mul _ _) ?_
      refine lv_ladd hx hb dX4_joined_144 ?_
      refine wd_tl (x' := lN (jn2 M a b x y z + M (1024 * a + 32 * x + z) * M (1024 * b + 32 * z + y))) (lN_add _ _) ?_
      refine lv_lstore (lv' := [(6, .long (lN (jn2 M a b x y z + M (1024 * a + 32 * x + z) * M (1024 * b + 32 * z + y)))), (0, .ref h), (1, .int (nI u)), (2, .int (nI x)), (3, .int (nI y)), (4, .int (nI a)), (5, .int (nI b)), (8, .int (nI z))]) hx hb dX4_joined_145 hl (by decide) rfl (fun ls hl => ?_)
      refine lv_iinc (v := nI (z + 1)) (lv' := [(8, .int (nI (z + 1))), (6, .long (lN (jn2 M a b x y z + M (1024 * a + 32 * x + z) * M (1024 * b + 32 * z + y)))), (0, .ref h), (1, .int (nI u)), (2, .int (nI x)), (3, .int (nI y)), (4, .int (nI a)), (5, .int (nI b))]) hx hb dX4_joined_147 hl (k := 7) rfl (nI_1 _) (by decide) rfl (fun ls hl => ?_)
      refine lv_goto (tgt := 114) hx hb dX4_joined_150 (by decide) ?_
      have hl : lv_has ls 9 [(0, .ref h), (1, .int (nI u)), (2, .int (nI x)), (3, .int (nI y)), (4, .int (nI a)), (5, .int (nI b)), (6, .long (lN (jn2 M a b x y z + M (1024 * a + 32 * x + z) * M (1024 * b + 32 * z + y)))), (8, .int (nI (z + 1)))] := lv_sub hl [2, 3, 4, 5, 6, 7, 1, 0] rfl
      have e8 : ([(0, .ref h), (1, .int (nI u)), (2, .int (nI x)), (3, .int (nI y)), (4, .int (nI a)), (5, .int (nI b)), (6, .long (lN (jn2 M a b x y z + M (1024 * a + 32 * x + z) * M (1024 * b + 32 * z + y)))), (8, .int (nI (z + 1)))] : List (Nat × Value)) = [(0, .ref h), (1, .int (nI u)), (2, .int (nI x)), (3, .int (nI y)), (4, .int (nI a)), (5, .int (nI b)), (6, .long (lN (jn2 M a b x y (z + 1)))), (8, .int (nI (z + 1)))] := by rfl
      rw [e8] at hl
      exact ih (z + 1) (by omega) (by omega) _ _ ls hP hS hl

set_option maxHeartbeats 4000000 in
set_option maxRecDepth 100000 in
theorem c_X4_joined (l : Launch) (g : gX) (s0 : Nat) (w : wd_M) (h : Nat) (hs0 : s0 ≤ h) (rf nt np mo gb wr nr : Int32) (su pr ob ki fi se nd ii sp qu rF rT rD : Nat → Int32) (M : Nat → Nat) (hM9 : mB M) (u a b x y kd : Nat) (hu : u ≤ 40) (hx1 : x < 32) (hy1 : y < 32) (hkd : ki u = nI kd) (hk : kd = 1 ∨ kd = 2 ∨ kd = 3 ∨ kd = 6) (hfa : fi u = nI a ∧ a ≤ 40) (hfb : kd = 2 ∨ kd = 3 → se u = nI b ∧ b ≤ 40)  : Met l yX4_joined (Cond.code yX4_joined cX4_joined 9 (some .long) :: tg) ({ frames := 1, cells := 0, slots := 0, locals := 23 }) (cP g s0 (mW g w h rf nt np mo gb wr nr su pr ob ki fi se (tN M) nd ii sp qu rF rT rD) [.ref h, .int (nI u), .int (nI x), .int (nI y)]) (cL g s0 (fun r w' => r = lN (jn kd M ii a b x y) ∧ w' = (mW g w h rf nt np mo gb wr nr su pr ob ki fi se (tN M) nd ii sp qu rF rT rD))) 0 0 (cA s0) := by
  refine Met.ofW (cc := cX4_joined) (maxL := 9) (ret := some .long) (by decide) rfl ?_
  intro p e s m args below meth c s₁ B9 hml hv
  obtain ⟨rfl, h0s, hP, hK⟩ := hv
  have hx := B9.exec
  have hb := B9.bytes
  have hr := B9.returns
  have hts := atoms_spec (ws := Cond.code yX4_joined cX4_joined 9 (some .long) :: tg) B9.pre
  have hown : s.vm.findClass RX4 = some m.cls := findClass_of_methodNamed B9.named
  have hlocks := B9.notSynchronized
  have hS : gS s0 s.heap s.heap [] := va_S.rf
  have hRm : 1 ≤ (headSpec (Cond.code yX4_joined cX4_joined 9 (some .long) :: tg) ({ frames := 1, cells := 0, slots := 0, locals := 23 })).room.frames ∧ 23 ≤ (headSpec (Cond.code yX4_joined cX4_joined 9 (some .long) :: tg) ({ frames := 1, cells := 0, slots := 0, locals := 23 })).room.locals := ⟨Nat.le_refl _, Nat.le_refl _⟩
  have hcs : 0 + 0 ≤ (headSpec (Cond.code yX4_joined cX4_joined 9 (some .long) :: tg) ({ frames := 1, cells := 0, slots := 0, locals := 23 })).room.cells ∧ 0 + 0 ≤ (headSpec (Cond.code yX4_joined cX4_joined 9 (some .long) :: tg) ({ frames := 1, cells := 0, slots := 0, locals := 23 })).room.slots := ⟨Nat.zero_le _, Nat.zero_le _⟩
  have hl := lv_entry ([.ref h, .int (nI u), .int (nI x), .int (nI y)]) (n := 9) (Nat.le_of_ble_eq_true rfl)
  rw [lg_entry_eq]
  generalize (lg_sl ([.ref h, .int (nI u), .int (nI x), .int (nI y)]) ++ List.replicate (9 - (lg_sl ([.ref h, .int (nI u), .int (nI x), .int (nI y)])).length) Slot.unset).toArray = ls at hl ⊢
  have hl : lv_has ls 9 [(0, .ref h), (1, .int (nI u)), (2, .int (nI x)), (3, .int (nI y))] := hl
  refine lv_aload_n hx hb dX4_joined_0 rfl (lv_at hl 0 rfl) ?_
  refine wd_get (ci := 5) (v := .ref (h + 5)) (C := RX4) (T := TX4) (N := 21) hx hb hts iwX4 hown hK.1 hP (mW_0) rfl 6 (by decide) (hts _ (tg_tail _ tw_429)) (fun _ h9 => h9) rfl dX4_joined_1 ?_
  refine lv_iload_n hx hb dX4_joined_4 rfl (lv_at hl 1 rfl) ?_
  refine wd_ildN hx hb hK.1 hP 0 (k := u) (mW_5) rfl (by omega) (by decide) dX4_joined_5 ?_
  refine wd_ti (x' := nI a) (hfa.1) ?_
  refine lv_istore (lv' := [(4, .int (nI a)), (0, .ref h), (1, .int (nI u)), (2, .int (nI x)), (3, .int (nI y))]) hx hb dX4_joined_6 hl (by decide) rfl (fun ls hl => ?_)
  refine lv_aload_n hx hb dX4_joined_8 rfl (lv_at hl 1 rfl) ?_
  refine wd_get (ci := 5) (v := .ref (h + 6)) (C := RX4) (T := TX4) (N := 21) hx hb hts iwX4 hown hK.1 hP (mW_0) rfl 7 (by decide) (hts _ (tg_tail _ tw_430)) (fun _ h9 => h9) rfl dX4_joined_9 ?_
  refine lv_iload_n hx hb dX4_joined_12 rfl (lv_at hl 2 rfl) ?_
  refine wd_ildN hx hb hK.1 hP 0 (k := u) (mW_6) rfl (by omega) (by decide) dX4_joined_13 ?_
  refine lv_istore (lv' := [(5, .int (se u)), (4, .int (nI a)), (0, .ref h), (1, .int (nI u)), (2, .int (nI x)), (3, .int (nI y))]) hx hb dX4_joined_14 hl (by decide) rfl (fun ls hl => ?_)
  refine lv_aload_n hx hb dX4_joined_16 rfl (lv_at hl 2 rfl) ?_
  refine wd_get (ci := 5) (v := .ref (h + 4)) (C := RX4) (T := TX4) (N := 21) hx hb hts iwX4 hown hK.1 hP (mW_0) rfl 5 (by decide) (hts _ (tg_tail _ tw_428)) (fun _ h9 => h9) rfl dX4_joined_17 ?_
  refine lv_iload_n hx hb dX4_joined_20 rfl (lv_at hl 3 rfl) ?_
  refine wd_ildN hx hb hK.1 hP 0 (k := u) (mW_4) rfl (by omega) (by decide) dX4_joined_21 ?_
  refine wd_ti (x' := nI kd) (hkd) ?_
  refine lv_iconst (v := nI 1) hx hb dX4_joined_22 (by decide) ?_
  refine lv_icmp_ne (tgt := 36) hx hb dX4_joined_23 (by decide) (fun c_23 => ?_) (fun c_23 => ?_)
  · have c_23 := mt (nI_eq (a := kd) (b := 1) (by omega) (by omega)).mpr c_23
    refine lv_aload_n hx hb dX4_joined_36 rfl (lv_at hl 2 rfl) ?_
    refine wd_get (ci := 5) (v := .ref (h + 4)) (C := RX4) (T := TX4) (N := 21) hx hb hts iwX4 hown hK.1 hP (mW_0) rfl 5 (by decide) (hts _ (tg_tail _ tw_428)) (fun _ h9 => h9) rfl dX4_joined_37 ?_
    refine lv_iload_n hx hb dX4_joined_40 rfl (lv_at hl 3 rfl) ?_
    refine wd_ildN hx hb hK.1 hP 0 (k := u) (mW_4) rfl (by omega) (by decide) dX4_joined_41 ?_
    refine wd_ti (x' := nI kd) (hkd) ?_
    refine lv_iconst (v := nI 3) hx hb dX4_joined_42 (by decide) ?_
    refine lv_icmp_ne (tgt := 66) hx hb dX4_joined_43 (by decide) (fun c_43 => ?_) (fun c_43 => ?_)
    · have c_43 := mt (nI_eq (a := kd) (b := 3) (by omega) (by omega)).mpr c_43
      refine lv_aload_n hx hb dX4_joined_66 rfl (lv_at hl 2 rfl) ?_
      refine wd_get (ci := 5) (v := .ref (h + 4)) (C := RX4) (T := TX4) (N := 21) hx hb hts iwX4 hown hK.1 hP (mW_0) rfl 5 (by decide) (hts _ (tg_tail _ tw_428)) (fun _ h9 => h9) rfl dX4_joined_67 ?_
      refine lv_iload_n hx hb dX4_joined_70 rfl (lv_at hl 3 rfl) ?_
      refine wd_ildN hx hb hK.1 hP 0 (k := u) (mW_4) rfl (by omega) (by decide) dX4_joined_71 ?_
      refine wd_ti (x' := nI kd) (hkd) ?_
      refine lv_bipush (v := nI 6) hx hb dX4_joined_72 (by decide) ?_
      refine lv_icmp_ne (tgt := 108) hx hb dX4_joined_74 (by decide) (fun c_74 => ?_) (fun c_74 => ?_)
      · have c_74 := mt (nI_eq (a := kd) (b := 6) (by omega) (by omega)).mpr c_74
        refine lv_lconst (v := lN 0) hx hb dX4_joined_108 (by decide) ?_
        refine lv_lstore (lv' := [(6, .long (lN 0)), (5, .int (se u)), (4, .int (nI a)), (0, .ref h), (1, .int (nI u)), (2, .int (nI x)), (3, .int (nI y))]) hx hb dX4_joined_109 hl (by decide) rfl (fun ls hl => ?_)
        refine lv_iconst (v := nI 0) hx hb dX4_joined_111 (by decide) ?_
        refine lv_istore (lv' := [(8, .int (nI 0)), (6, .long (lN 0)), (5, .int (se u)), (4, .int (nI a)), (0, .ref h), (1, .int (nI u)), (2, .int (nI x)), (3, .int (nI y))]) hx hb dX4_joined_112 hl (by decide) rfl (fun ls hl => ?_)
        have kd2 : kd = 2 := by omega
        have hl : lv_has ls 9 [(8, .int (nI 0)), (6, .long (lN 0)), (5, .int (nI b)), (4, .int (nI a)), (0, .ref h), (1, .int (nI u)), (2, .int (nI x)), (3, .int (nI y))] := by have h9 := hl; rw [(hfb (Or.inl kd2)).1] at h9; exact h9
        have hl : lv_has ls 9 [(0, .ref h), (1, .int (nI u)), (2, .int (nI x)), (3, .int (nI y)), (4, .int (nI a)), (5, .int (nI b)), (6, .long (lN 0)), (8, .int (nI 0))] := lv_sub hl [4, 5, 6, 7, 3, 2, 1, 0] rfl
        have e8 : ([(0, .ref h), (1, .int (nI u)), (2, .int (nI x)), (3, .int (nI y)), (4, .int (nI a)), (5, .int (nI b)), (6, .long (lN 0)), (8, .int (nI 0))] : List (Nat × Value)) = [(0, .ref h), (1, .int (nI u)), (2, .int (nI x)), (3, .int (nI y)), (4, .int (nI a)), (5, .int (nI b)), (6, .long (lN (jn2 M a b x y 0))), (8, .int (nI 0))] := by rfl
        rw [e8] at hl
        refine lp_jn g s0 w h hs0 rf nt np mo gb wr nr su pr ob ki fi se nd ii sp qu rF rT rD M hM9 u a b x y hx1 hy1 hfa.2 (hfb (Or.inl kd2)).2 hx hb hml hown hts hK h0s hRm hcs  ?_ (32 + 1) 0 (by omega) (by omega) _ _ ls hP hS hl
        intro H locs ls hP hS hl
        refine lv_lload hx hb dX4_joined_153 (lv_at hl 6 rfl) ?_
        exact W.lret (v := lN (jn2 M a b x y 32)) hx hb hr (fun t9 ht hW => ⟨⟨_, (mW g w h rf nt np mo gb wr nr su pr ob ki fi se (tN M) nd ii sp qu rF rT rD), rfl, ⟨by unfold jn; rw [if_neg c_23, if_neg c_43, if_neg c_74], rfl⟩, cB_of ht hP⟩, hS.F ht⟩) hS.2.2 dX4_joined_155
      · have c_74 := (nI_eq (a := kd) (b := 6) (by omega) (by omega)).mp c_74
        refine lv_iload_n hx hb dX4_joined_77 rfl (lv_at hl 4 rfl) ?_
        refine lv_iload_n hx hb dX4_joined_78 rfl (lv_at hl 5 rfl) ?_
        refine lv_icmp_ne (tgt := 91) hx hb dX4_joined_79 (by decide) (fun c_79 => ?_) (fun c_79 => ?_)
        · have c_79 := mt (nI_eq (a := x) (b := y) (by omega) (by omega)).mpr c_79
          refine lv_aload_n hx hb dX4_joined_91 rfl (lv_at hl 2 rfl) ?_
          refine lv_iload hx hb dX4_joined_92 (lv_at hl 1 rfl) ?_
          refine lv_iload_n hx hb dX4_joined_94 rfl (lv_at hl 4 rfl) ?_
          refine lv_iload_n hx hb dX4_joined_95 rfl (lv_at hl 5 rfl) ?_
          have ha9 := hfa.2
          have hm9 := hM9 (1024 * a + 32 * x + y)
          refine cr_Vi (As := [.int (nI a), .int (nI x), .int (nI y)]) (rest := []) ⟨hx, hb, hml, hown, hts⟩ (c_X4_cell l g s0  w h hs0 rf nt np mo gb wr nr su pr ob ki fi se (tN M) nd ii sp qu rF rT rD (a) (x) (y) (by omega) (by omega) (by omega)) (cw_V 3 hts tg_tail tw_557 tw_559 tp_28 tw_4 tw_560 rfl rfl (by decide +kernel) ⟨Nat.le_trans (by decide) hRm.1, Nat.le_trans (by decide) hRm.2⟩) hK hP h0s hS (mW_0) rfl rfl rfl hl.1 rfl (Nat.le_of_ble_eq_true rfl) dX4_joined_96 hcs (fun r9 w9 H locs hw hP hS => ?_)
          obtain ⟨e_r9, hw9⟩ := hw
          rw [hw9] at hP
          subst e_r9
          refine wd_ti (x' := nI (M (1024 * a + 32 * x + y))) (rfl) ?_
          refine lv_if_le (tgt := 106) hx hb dX4_joined_99 (by decide) (fun c_99 => ?_) (fun c_99 => ?_)
          · have c_99 := (nI_leI (a := (M (1024 * a + 32 * x + y))) (b := 0) (by omega) (by omega)).mp (show nI (M (1024 * a + 32 * x + y)) ≤ nI 0 from c_99)
            refine lv_lconst (v := lN 0) hx hb dX4_joined_106 (by decide) ?_
            exact W.lret (v := lN 0) hx hb hr (fun t9 ht hW => ⟨⟨_, (mW g w h rf nt np mo gb wr nr su pr ob ki fi se (tN M) nd ii sp qu rF rT rD), rfl, ⟨by unfold jn; rw [if_neg c_23, if_neg c_43, if_pos c_74]; rw [if_neg (by clear hts hP hK hx hb hr hown hS hRm hcs hl hlocks; grind)], rfl⟩, cB_of ht hP⟩, hS.F ht⟩) hS.2.2 dX4_joined_107
          · have c_99 := mt (nI_leI (a := (M (1024 * a + 32 * x + y))) (b := 0) (by omega) (by omega)).mpr (show ¬ (nI (M (1024 * a + 32 * x + y)) ≤ nI 0) from c_99)
            refine lv_lconst (v := lN 1) hx hb dX4_joined_102 (by decide) ?_
            refine lv_goto (tgt := 107) hx hb dX4_joined_103 (by decide) ?_
            exact W.lret (v := lN 1) hx hb hr (fun t9 ht hW => ⟨⟨_, (mW g w h rf nt np mo gb wr nr su pr ob ki fi se (tN M) nd ii sp qu rF rT rD), rfl, ⟨by unfold jn; rw [if_neg c_23, if_neg c_43, if_pos c_74]; rw [if_pos (by clear hts hP hK hx hb hr hown hS hRm hcs hl hlocks; grind)], rfl⟩, cB_of ht hP⟩, hS.F ht⟩) hS.2.2 dX4_joined_107
        · have c_79 := (nI_eq (a := x) (b := y) (by omega) (by omega)).mp c_79
          refine lv_aload_n hx hb dX4_joined_82 rfl (lv_at hl 2 rfl) ?_
          refine wd_get (ci := 5) (v := .ref (h + 9)) (C := RX4) (T := TX4) (N := 21) hx hb hts iwX4 hown hK.1 hP (mW_0) rfl 12 (by decide) (hts _ (tg_tail _ tw_435)) (fun _ h9 => h9) rfl dX4_joined_83 ?_
          refine lv_iload_n hx hb dX4_joined_86 rfl (lv_at hl 4 rfl) ?_
          refine wd_zldN hx hb hK.1 hP 1 (k := x) (mW_9) rfl (by omega) (by decide) dX4_joined_87 ?_
          refine lv_if_ne (tgt := 102) hx hb dX4_joined_88 (by decide) (fun c_88 => ?_) (fun c_88 => ?_)
          · refine lv_lconst (v := lN 1) hx hb dX4_joined_102 (by decide) ?_
            refine lv_goto (tgt := 107) hx hb dX4_joined_103 (by decide) ?_
            exact W.lret (v := lN 1) hx hb hr (fun t9 ht hW => ⟨⟨_, (mW g w h rf nt np mo gb wr nr su pr ob ki fi se (tN M) nd ii sp qu rF rT rD), rfl, ⟨by unfold jn; rw [if_neg c_23, if_neg c_43, if_pos c_74]; rw [if_pos (by clear hts hP hK hx hb hr hown hS hRm hcs hl hlocks; grind)], rfl⟩, cB_of ht hP⟩, hS.F ht⟩) hS.2.2 dX4_joined_107
          · refine lv_aload_n hx hb dX4_joined_91 rfl (lv_at hl 2 rfl) ?_
            refine lv_iload hx hb dX4_joined_92 (lv_at hl 1 rfl) ?_
            refine lv_iload_n hx hb dX4_joined_94 rfl (lv_at hl 4 rfl) ?_
            refine lv_iload_n hx hb dX4_joined_95 rfl (lv_at hl 5 rfl) ?_
            have ha9 := hfa.2
            have hm9 := hM9 (1024 * a + 32 * x + y)
            refine cr_Vi (As := [.int (nI a), .int (nI x), .int (nI y)]) (rest := []) ⟨hx, hb, hml, hown, hts⟩ (c_X4_cell l g s0  w h hs0 rf nt np mo gb wr nr su pr ob ki fi se (tN M) nd ii sp qu rF rT rD (a) (x) (y) (by omega) (by omega) (by omega)) (cw_V 3 hts tg_tail tw_557 tw_559 tp_28 tw_4 tw_560 rfl rfl (by decide +kernel) ⟨Nat.le_trans (by decide) hRm.1, Nat.le_trans (by decide) hRm.2⟩) hK hP h0s hS (mW_0) rfl rfl rfl hl.1 rfl (Nat.le_of_ble_eq_true rfl) dX4_joined_96 hcs (fun r9 w9 H locs hw hP hS => ?_)
            obtain ⟨e_r9, hw9⟩ := hw
            rw [hw9] at hP
            subst e_r9
            refine wd_ti (x' := nI (M (1024 * a + 32 * x + y))) (rfl) ?_
            refine lv_if_le (tgt := 106) hx hb dX4_joined_99 (by decide) (fun c_99 => ?_) (fun c_99 => ?_)
            · have c_99 := (nI_leI (a := (M (1024 * a + 32 * x + y))) (b := 0) (by omega) (by omega)).mp (show nI (M (1024 * a + 32 * x + y)) ≤ nI 0 from c_99)
              refine lv_lconst (v := lN 0) hx hb dX4_joined_106 (by decide) ?_
              exact W.lret (v := lN 0) hx hb hr (fun t9 ht hW => ⟨⟨_, (mW g w h rf nt np mo gb wr nr su pr ob ki fi se (tN M) nd ii sp qu rF rT rD), rfl, ⟨by unfold jn; rw [if_neg c_23, if_neg c_43, if_pos c_74]; rw [if_neg (by clear hts hP hK hx hb hr hown hS hRm hcs hl hlocks; grind)], rfl⟩, cB_of ht hP⟩, hS.F ht⟩) hS.2.2 dX4_joined_107
            · have c_99 := mt (nI_leI (a := (M (1024 * a + 32 * x + y))) (b := 0) (by omega) (by omega)).mpr (show ¬ (nI (M (1024 * a + 32 * x + y)) ≤ nI 0) from c_99)
              refine lv_lconst (v := lN 1) hx hb dX4_joined_102 (by decide) ?_
              refine lv_goto (tgt := 107) hx hb dX4_joined_103 (by decide) ?_
              exact W.lret (v := lN 1) hx hb hr (fun t9 ht hW => ⟨⟨_, (mW g w h rf nt np mo gb wr nr su pr ob ki fi se (tN M) nd ii sp qu rF rT rD), rfl, ⟨by unfold jn; rw [if_neg c_23, if_neg c_43, if_pos c_74]; rw [if_pos (by clear hts hP hK hx hb hr hown hS hRm hcs hl hlocks; grind)], rfl⟩, cB_of ht hP⟩, hS.F ht⟩) hS.2.2 dX4_joined_107
    · have c_43 := (nI_eq (a := kd) (b := 3) (by omega) (by omega)).mp c_43
      refine lv_aload_n hx hb dX4_joined_46 rfl (lv_at hl 2 rfl) ?_
      refine lv_iload hx hb dX4_joined_47 (lv_at hl 1 rfl) ?_
      refine lv_iload_n hx hb dX4_joined_49 rfl (lv_at hl 4 rfl) ?_
      refine lv_iload_n hx hb dX4_joined_50 rfl (lv_at hl 5 rfl) ?_
      have ha9 := hfa.2
      refine cr_Vi (As := [.int (nI a), .int (nI x), .int (nI y)]) (rest := []) ⟨hx, hb, hml, hown, hts⟩ (c_X4_cell l g s0  w h hs0 rf nt np mo gb wr nr su pr ob ki fi se (tN M) nd ii sp qu rF rT rD (a) (x) (y) (by omega) (by omega) (by omega)) (cw_V 3 hts tg_tail tw_557 tw_559 tp_28 tw_4 tw_560 rfl rfl (by decide +kernel) ⟨Nat.le_trans (by decide) hRm.1, Nat.le_trans (by decide) hRm.2⟩) hK hP h0s hS (mW_0) rfl rfl rfl hl.1 rfl (Nat.le_of_ble_eq_true rfl) dX4_joined_51 hcs (fun r9 w9 H locs hw hP hS => ?_)
      obtain ⟨e_r9, hw9⟩ := hw
      rw [hw9] at hP
      subst e_r9
      refine wd_ti (x' := nI (M (1024 * a + 32 * x + y))) (rfl) ?_
      refine lv_i2l (v := lN (M (1024 * a + 32 * x + y))) hx hb dX4_joined_54 (nI_l (by have := hM9 (1024 * a + 32 * x + y); omega)) ?_
      refine lv_aload_n hx hb dX4_joined_55 rfl (lv_at hl 2 rfl) ?_
      refine lv_iload hx hb dX4_joined_56 (lv_at hl 0 rfl) ?_
      refine wd_ti (x' := nI b) ((hfb (Or.inr c_43)).1) ?_
      refine lv_iload_n hx hb dX4_joined_58 rfl (lv_at hl 4 rfl) ?_
      refine lv_iload_n hx hb dX4_joined_59 rfl (lv_at hl 5 rfl) ?_
      have hb9 := (hfb (Or.inr c_43)).2
      refine cr_Vi (As := [.int (nI b), .int (nI x), .int (nI y)]) (rest := [.long (lN (M (1024 * a + 32 * x + y)))]) ⟨hx, hb, hml, hown, hts⟩ (c_X4_cell l g s0  w h hs0 rf nt np mo gb wr nr su pr ob ki fi se (tN M) nd ii sp qu rF rT rD (b) (x) (y) (by omega) (by omega) (by omega)) (cw_V 3 hts tg_tail tw_557 tw_559 tp_28 tw_4 tw_560 rfl rfl (by decide +kernel) ⟨Nat.le_trans (by decide) hRm.1, Nat.le_trans (by decide) hRm.2⟩) hK hP h0s hS (mW_0) rfl rfl rfl hl.1 rfl (Nat.le_of_ble_eq_true rfl) dX4_joined_60 hcs (fun r9 w9 H locs hw hP hS => ?_)
      obtain ⟨e_r9, hw9⟩ := hw
      rw [hw9] at hP
      subst e_r9
      refine wd_ti (x' := nI (M (1024 * b + 32 * x + y))) (rfl) ?_
      refine lv_i2l (v := lN (M (1024 * b + 32 * x + y))) hx hb dX4_joined_63 (nI_l (by have := hM9 (1024 * b + 32 * x + y); omega)) ?_
      refine lv_ladd hx hb dX4_joined_64 ?_
      refine wd_tl (x' := lN (M (1024 * a + 32 * x + y) + M (1024 * b + 32 * x + y))) (lN_add _ _) ?_
      exact W.lret (v := lN (M (1024 * a + 32 * x + y) + M (1024 * b + 32 * x + y))) hx hb hr (fun t9 ht hW => ⟨⟨_, (mW g w h rf nt np mo gb wr nr su pr ob ki fi se (tN M) nd ii sp qu rF rT rD), rfl, ⟨by unfold jn; rw [if_neg c_23, if_pos c_43], rfl⟩, cB_of ht hP⟩, hS.F ht⟩) hS.2.2 dX4_joined_65
  · have c_23 := (nI_eq (a := kd) (b := 1) (by omega) (by omega)).mp c_23
    refine lv_aload_n hx hb dX4_joined_26 rfl (lv_at hl 2 rfl) ?_
    refine lv_iload hx hb dX4_joined_27 (lv_at hl 1 rfl) ?_
    refine lv_iload_n hx hb dX4_joined_29 rfl (lv_at hl 5 rfl) ?_
    refine lv_iload_n hx hb dX4_joined_30 rfl (lv_at hl 4 rfl) ?_
    have ha9 := hfa.2
    refine cr_Vi (As := [.int (nI a), .int (nI y), .int (nI x)]) (rest := []) ⟨hx, hb, hml, hown, hts⟩ (c_X4_cell l g s0  w h hs0 rf nt np mo gb wr nr su pr ob ki fi se (tN M) nd ii sp qu rF rT rD (a) (y) (x) (by omega) (by omega) (by omega)) (cw_V 3 hts tg_tail tw_557 tw_559 tp_28 tw_4 tw_560 rfl rfl (by decide +kernel) ⟨Nat.le_trans (by decide) hRm.1, Nat.le_trans (by decide) hRm.2⟩) hK hP h0s hS (mW_0) rfl rfl rfl hl.1 rfl (Nat.le_of_ble_eq_true rfl) dX4_joined_31 hcs (fun r9 w9 H locs hw hP hS => ?_)
    obtain ⟨e_r9, hw9⟩ := hw
    rw [hw9] at hP
    subst e_r9
    refine wd_ti (x' := nI (M (1024 * a + 32 * y + x))) (rfl) ?_
    refine lv_i2l (v := lN (M (1024 * a + 32 * y + x))) hx hb dX4_joined_34 (nI_l (by have := hM9 (1024 * a + 32 * y + x); omega)) ?_
    exact W.lret (v := lN (M (1024 * a + 32 * y + x))) hx hb hr (fun t9 ht hW => ⟨⟨_, (mW g w h rf nt np mo gb wr nr su pr ob ki fi se (tN M) nd ii sp qu rF rT rD), rfl, ⟨by unfold jn; rw [if_pos c_23], rfl⟩, cB_of ht hP⟩, hS.F ht⟩) hS.2.2 dX4_joined_35

