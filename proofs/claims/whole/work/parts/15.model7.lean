/-! THE REFERENCE: walk -/
abbrev wT : Type := (Nat → Int32) × (Nat → Int32) × Nat
def wk1 (M : Nat → Nat) (a x : Nat) (sp qu : Nat → Int32) : Nat → wT
  | 0 => (sp, qu, 0)
  | y + 1 => if M (1024 * a + 32 * x + y) ≤ 0 then (upd (wk1 M a x sp qu y).1 y (-1), (wk1 M a x sp qu y).2.1, (wk1 M a x sp qu y).2.2) else (upd (upd (wk1 M a x sp qu y).1 y (-1)) y (nI 1), upd (wk1 M a x sp qu y).2.1 (wk1 M a x sp qu y).2.2 (nI y), (wk1 M a x sp qu y).2.2 + 1)
termination_by y => y
def wk2 (M : Nat → Nat) (a z : Nat) (st : wT) : Nat → wT
  | 0 => st
  | y + 1 => if 0 ≤ (wk2 M a z st y).1 y ∨ M (1024 * a + 32 * z + y) ≤ 0 then wk2 M a z st y else (upd (wk2 M a z st y).1 y ((wk2 M a z st y).1 z + nI 1), upd (wk2 M a z st y).2.1 (wk2 M a z st y).2.2 (nI y), (wk2 M a z st y).2.2 + 1)
termination_by y => y
def wk3 (M : Nat → Nat) (a : Nat) (st : wT) : Nat → wT
  | 0 => st
  | k + 1 => if (wk3 M a st k).2.2 ≤ k then wk3 M a st k else wk2 M a ((wk3 M a st k).2.1 k).toNatClampNeg (wk3 M a st k) 32
termination_by k => k
def wkF (M : Nat → Nat) (a x : Nat) (sp qu : Nat → Int32) : wT := wk3 M a (wk1 M a x sp qu 32) 32
/-- how many of the first m places don't hold -1 -/
def cn (f : Nat → Int32) : Nat → Nat
  | 0 => 0
  | y + 1 => cn f y + if f y = -1 then 0 else 1
theorem cn_le (f : Nat → Int32) : ∀ m, cn f m ≤ m := by
  intro m
  induction m with
  | zero => exact Nat.le_refl _
  | succ m ih => rw [cn]; split <;> omega
theorem cn_lt {f : Nat → Int32} {y : Nat} (h : f y = -1) : ∀ m, y < m → cn f m < m := by
  intro m
  induction m with
  | zero => intro q; omega
  | succ m ih =>
    intro q
    rw [cn]
    rcases Nat.lt_or_ge y m with r | r
    · have := ih r
      split <;> omega
    · have e9 : m = y := by omega
      subst e9
      rw [if_pos h]
      have := cn_le f m
      omega
theorem cn_ge {f : Nat → Int32} {y : Nat} {v : Int32} : ∀ m, m ≤ y → cn (upd f y v) m = cn f m := by
  intro m
  induction m with
  | zero => intro _; rfl
  | succ m ih =>
    intro q
    rw [cn, cn, ih (by omega), pk_un (by omega)]
theorem cn_up {f : Nat → Int32} {y : Nat} {v : Int32} (h : f y = -1) (hv : ¬ v = -1) : ∀ m, y < m → cn (upd f y v) m = cn f m + 1 := by
  intro m
  induction m with
  | zero => intro q; omega
  | succ m ih =>
    intro q
    rcases Nat.lt_or_ge y m with r | r
    · rw [cn, cn, ih r, pk_un (by omega)]
      omega
    · have e9 : m = y := by omega
      subst e9
      rw [cn, cn, cn_ge m (Nat.le_refl _), pk_us, if_pos h, if_neg hv]
theorem nI_nm {d : Nat} (h : d < 2 ^ 31) : ¬ nI d = -1 := by
  intro q
  have h1 := nI_toInt h
  rw [q] at h1
  have h2 : (-1 : Int32).toInt = -1 := by decide
  omega
theorem nm_lt : (-1 : Int32) < 0 := by decide
theorem wk1_ok {M : Nat → Nat} {a x : Nat} {sp qu : Nat → Int32} : ∀ y, (wk1 M a x sp qu y).2.2 = cn (wk1 M a x sp qu y).1 y ∧ (∀ v, v < y → (wk1 M a x sp qu y).1 v = -1 ∨ (wk1 M a x sp qu y).1 v = nI 1) ∧ (∀ i, i < (wk1 M a x sp qu y).2.2 → ∃ z, z < y ∧ (wk1 M a x sp qu y).2.1 i = nI z ∧ (wk1 M a x sp qu y).1 z = nI 1) := by
  intro y
  induction y with
  | zero => rw [wk1]; exact ⟨rfl, fun v h => absurd h (Nat.not_lt_zero v), fun i h => absurd h (Nat.not_lt_zero i)⟩
  | succ y ih =>
    obtain ⟨h1, h2, h3⟩ := ih
    rw [wk1]
    split
    · refine ⟨?_, ?_, ?_⟩
      · show (wk1 M a x sp qu y).2.2 = cn (upd (wk1 M a x sp qu y).1 y (-1)) (y + 1)
        rw [cn, cn_ge y (Nat.le_refl _), pk_us, if_pos rfl, h1]
        omega
      · intro v hv
        show upd _ _ _ v = -1 ∨ upd _ _ _ v = nI 1
        by_cases e9 : v = y
        · subst e9; left; exact pk_us
        · rw [pk_un e9]; exact h2 v (by omega)
      · intro i hi
        obtain ⟨z, q1, q2, q3⟩ := h3 i hi
        exact ⟨z, by omega, q2, by show upd _ _ _ z = _; rw [pk_un (by omega)]; exact q3⟩
    · refine ⟨?_, ?_, ?_⟩
      · show (wk1 M a x sp qu y).2.2 + 1 = cn (upd (upd (wk1 M a x sp qu y).1 y (-1)) y (nI 1)) (y + 1)
        rw [cn, cn_ge y (Nat.le_refl _), cn_ge y (Nat.le_refl _), pk_us, if_neg (nI_nm (by decide)), h1]
      · intro v hv
        show upd _ _ _ v = -1 ∨ upd _ _ _ v = nI 1
        by_cases e9 : v = y
        · subst e9; right; exact pk_us
        · rw [pk_un e9, pk_un e9]; exact h2 v (by omega)
      · intro i hi
        have hi : i < (wk1 M a x sp qu y).2.2 + 1 := hi
        by_cases e9 : i = (wk1 M a x sp qu y).2.2
        · exact ⟨y, by omega, by show upd _ _ _ i = _; rw [e9]; exact pk_us, pk_us⟩
        · obtain ⟨z, q1, q2, q3⟩ := h3 i (by omega)
          exact ⟨z, by omega, by show upd _ _ _ i = _; rw [pk_un e9]; exact q2, by show upd _ _ _ z = _; rw [pk_un (by omega), pk_un (by omega)]; exact q3⟩
/-- what keeps walk's rows within their bounds -/
def wI (t : wT) : Prop := t.2.2 = cn t.1 32 ∧ (∀ v, v < 32 → t.1 v = -1 ∨ ∃ d, 1 ≤ d ∧ d ≤ t.2.2 ∧ t.1 v = nI d) ∧ (∀ i, i < t.2.2 → ∃ z, z < 32 ∧ t.2.1 i = nI z ∧ ¬ t.1 z = -1)
theorem wI.le {t : wT} (h : wI t) : t.2.2 ≤ 32 := by rw [h.1]; exact cn_le _ _
theorem wI.neg {t : wT} (h : wI t) {v : Nat} (hv : v < 32) : ¬ 0 ≤ t.1 v ↔ t.1 v = -1 := by
  rcases h.2.1 v hv with q | ⟨d, q1, q2, q3⟩
  · rw [q]; decide
  · have := h.le
    rw [q3]
    exact ⟨fun r => absurd (nI_pos' (by omega)) r, fun r => absurd r (nI_nm (by omega))⟩
theorem wI.lt {t : wT} (h : wI t) {v : Nat} (hv : v < 32) (hn : ¬ 0 ≤ t.1 v) : t.2.2 < 32 := by rw [h.1]; exact cn_lt ((h.neg hv).mp hn) 32 hv
theorem wI_1 {M : Nat → Nat} {a x : Nat} {sp qu : Nat → Int32} : wI (wk1 M a x sp qu 32) := by
  obtain ⟨h1, h2, h3⟩ := wk1_ok (M := M) (a := a) (x := x) (sp := sp) (qu := qu) 32
  refine ⟨h1, fun v hv => ?_, fun i hi => ?_⟩
  · rcases h2 v hv with q | q
    · exact Or.inl q
    · refine Or.inr ⟨1, Nat.le_refl _, ?_, q⟩
      rw [h1]
      rcases Nat.eq_zero_or_pos (cn (wk1 M a x sp qu 32).1 32) with r | r
      · exfalso
        have h5 : ∀ m, v < m → 0 < cn (wk1 M a x sp qu 32).1 m := by
          intro m
          induction m with
          | zero => intro z; omega
          | succ m ih =>
            intro z
            rw [cn]
            by_cases e9 : v = m
            · subst e9; rw [q, if_neg (nI_nm (by decide))]; omega
            · have := ih (by omega); omega
        have := h5 32 hv
        omega
      · exact r
  · obtain ⟨z, q1, q2, q3⟩ := h3 i hi
    exact ⟨z, q1, q2, by rw [q3]; exact nI_nm (by decide)⟩
theorem wI_2 {M : Nat → Nat} {a z : Nat} {st : wT} (h : wI st) (hz : z < 32) (hd : ¬ st.1 z = -1) : ∀ y, y ≤ 32 → wI (wk2 M a z st y) ∧ ¬ (wk2 M a z st y).1 z = -1 := by
  intro y
  induction y with
  | zero => intro _; rw [wk2]; exact ⟨h, hd⟩
  | succ y ih =>
    intro hy
    obtain ⟨i1, i2⟩ := ih (by omega)
    rw [wk2]
    split
    · exact ⟨i1, i2⟩
    · rename_i hc
      have hc := not_or.mp hc
      have hm := (i1.neg (v := y) (by omega)).mp hc.1
      have hl := i1.lt (v := y) (by omega) hc.1
      generalize wk2 M a z st y = t at i1 i2 hm hl ⊢
      obtain ⟨d, d1, d2, d3⟩ : ∃ d, 1 ≤ d ∧ d ≤ t.2.2 ∧ t.1 z = nI d := (i1.2.1 z hz).resolve_left i2
      have hv : t.1 z + nI 1 = nI (d + 1) := by rw [d3]; exact nI_add d 1
      have hnm : ¬ t.1 z + nI 1 = -1 := by rw [hv]; exact nI_nm (by omega)
      have hzy : z ≠ y := fun q => i2 (by rw [q]; exact hm)
      refine ⟨⟨?_, ?_, ?_⟩, ?_⟩
      · show t.2.2 + 1 = cn (upd t.1 y (t.1 z + nI 1)) 32
        rw [cn_up hm hnm 32 (by omega), i1.1]
      · intro v hv9
        show upd _ _ _ v = -1 ∨ ∃ d, 1 ≤ d ∧ d ≤ t.2.2 + 1 ∧ upd _ _ _ v = nI d
        by_cases e9 : v = y
        · subst e9
          right
          exact ⟨d + 1, by omega, by omega, by rw [pk_us]; exact hv⟩
        · rw [pk_un e9]
          rcases i1.2.1 v hv9 with q | ⟨d', q1, q2, q3⟩
          · exact Or.inl q
          · exact Or.inr ⟨d', q1, by omega, q3⟩
      · intro i hi
        have hi : i < t.2.2 + 1 := hi
        by_cases e9 : i = t.2.2
        · exact ⟨y, by omega, by show upd _ _ _ i = _; rw [e9]; exact pk_us, by show ¬ upd _ _ _ y = _; rw [pk_us]; exact hnm⟩
        · obtain ⟨z', q1, q2, q3⟩ := i1.2.2 i (by omega)
          refine ⟨z', q1, by show upd _ _ _ i = _; rw [pk_un e9]; exact q2, ?_⟩
          show ¬ upd _ _ _ z' = _
          by_cases e8 : z' = y
          · subst e8; rw [pk_us]; exact hnm
          · rw [pk_un e8]; exact q3
      · show ¬ upd _ _ _ z = _
        rw [pk_un hzy]
        exact i2
theorem wz_ok {t : wT} (h : wI t) {k : Nat} (hk : k < t.2.2) : t.2.1 k = nI (t.2.1 k).toNatClampNeg ∧ (t.2.1 k).toNatClampNeg < 32 ∧ ¬ t.1 (t.2.1 k).toNatClampNeg = -1 := by
  obtain ⟨z, h1, h2, h3⟩ := h.2.2 k hk
  rw [h2, nI_clamp (by omega)]
  exact ⟨rfl, h1, h3⟩
theorem wI_3 {M : Nat → Nat} {a : Nat} {st : wT} (h : wI st) : ∀ k, wI (wk3 M a st k) := by
  intro k
  induction k with
  | zero => rw [wk3]; exact h
  | succ k ih =>
    rw [wk3]
    split
    · exact ih
    · have hz := wz_ok ih (k := k) (by omega)
      exact (wI_2 ih hz.2.1 hz.2.2 32 (Nat.le_refl _)).1
theorem wk3_fix {M : Nat → Nat} {a : Nat} {st : wT} {k : Nat} (h : (wk3 M a st k).2.2 ≤ k) : ∀ j, wk3 M a st (k + j) = wk3 M a st k := by
  intro j
  induction j with
  | zero => rfl
  | succ j ih =>
    show wk3 M a st (k + j + 1) = _
    rw [wk3, ih, if_pos (by omega)]
set_option maxHeartbeats 4000000 in
set_option maxRecDepth 100000 in
theorem lp_wk1 {p : Program} {l : Launch} {e : Env} {R : Room} {s : State} {m : MethodId} {args : Array Value} {below : List Frame} {meth : Method} {c : Code} {Q : State → Prop} {H0 : Heap} {cells slots : Nat} (g : gX) (s0 : Nat) (w : wd_M) (h : Nat) (hs0 : s0 ≤ h) (rf nt np mo gb wr nr : Int32) (su pr ob ki fi se nd ii sp qu rF rT rD : Nat → Int32) (M : Nat → Nat) (hM9 : mB M) (a x : Nat) (ha9 : a ≤ 40) (hx1 : x < 32) (hx : p.tables.exec = Jvm.exec) (hb : c.code = cX4_walk) (hml : c.maxLocals = 7) (hown : s.vm.findClass RX4 = some m.cls) (hts : ∀ w ∈ Cond.code yX4_walk cX4_walk 7 (none) :: tg, w.before args s = true) (hK : gK g s) (h0s : s0 ≤ H0.size) (hRm : 1 ≤ R.frames ∧ 23 ≤ R.locals) (hcs : cells + 0 ≤ R.cells ∧ slots + 0 ≤ R.slots)  (kx : ∀ (H : Heap) (locs : List Loc) (ls : Array Slot), gP g (mW g w h rf nt np mo gb wr nr su pr ob ki fi se (tN M) nd ii ((wk1 M a x sp qu 32).1) ((wk1 M a x sp qu 32).2.1) rF rT rD) H → gS s0 H0 H locs → lv_has ls 7 [(0, .ref h), (1, .int (nI a)), (2, .int (nI x)), (3, .int (nI ((wk1 M a x sp qu 32).2.2))), (4, .int (nI 32))] → W p l e R s m args below meth c H locs cells slots Q (F0 m 56 ls [])) :
    ∀ (n y : Nat), y ≤ 32 → 32 + 1 ≤ y + n → ∀ (H : Heap) (locs : List Loc) (ls : Array Slot), gP g (mW g w h rf nt np mo gb wr nr su pr ob ki fi se (tN M) nd ii ((wk1 M a x sp qu y).1) ((wk1 M a x sp qu y).2.1) rF rT rD) H → gS s0 H0 H locs → lv_has ls 7 [(0, .ref h), (1, .int (nI a)), (2, .int (nI x)), (3, .int (nI ((wk1 M a x sp qu y).2.2))), (4, .int (nI y))] → W p l e R s m args below meth c H locs cells slots Q (F0 m 5 ls []) := by
  intro n
  induction n with
  | zero =>
    intro y h1 h2
    exact absurd h2 (by omega)
  | succ n ih =>
    intro y hi hin H locs ls hP hS hl
    refine lv_iload hx hb dX4_walk_5 (lv_at hl 4 rfl) ?_
    refine lv_bipush (v := nI 32) hx hb dX4_walk_7 (by decide) ?_
    refine lv_icmp_ge (tgt := 56) hx hb dX4_walk_9 (by decide) (fun c_9 => ?_) (fun c_9 => ?_)
    · have c_9 := (nI_leI (a := 32) (b := y) (by omega) (by omega)).mp c_9
      have e9 : y = 32 := by omega
      try rw [e9] at hP
      try rw [e9] at hl
      exact kx H locs ls hP hS (lv_sub hl [0, 1, 2, 3, 4] rfl)
    · have c_9 := mt (nI_leI (a := 32) (b := y) (by omega) (by omega)).mpr c_9
      refine lv_aload_n hx hb dX4_walk_12 rfl (lv_at hl 0 rfl) ?_
      refine wd_get (ci := 5) (v := .ref (h + 10)) (C := RX4) (T := TX4) (N := 21) hx hb hts iwX4 hown hK.1 hP (mW_0) rfl 14 (by decide) (hts _ (tg_tail _ tw_437)) (fun _ h9 => h9) rfl dX4_walk_13 ?_
      refine lv_iload hx hb dX4_walk_16 (lv_at hl 4 rfl) ?_
      refine lv_iconst (v := (-1)) hx hb dX4_walk_18 (by decide) ?_
      refine wd_istN hx hb hK.1 hP hS (by omega) 0 (k := y) (mW_10) rfl (by omega) (by decide) dX4_walk_19 (fun H locs hP hS hz => ?_)
      have hP : gP g (mW g w h rf nt np mo gb wr nr su pr ob ki fi se (tN M) nd ii (upd ((wk1 M a x sp qu y).1) y ((-1))) ((wk1 M a x sp qu y).2.1) rF rT rD) H := by have h9 : gP g (wd_up (mW g w h rf nt np mo gb wr nr su pr ob ki fi se (tN M) nd ii ((wk1 M a x sp qu y).1) ((wk1 M a x sp qu y).2.1) rF rT rD) (h + 10) (wd_iA (g.2 0) 32 (upd ((wk1 M a x sp qu y).1) y ((-1))))) H := hP; rw [mW_s10] at h9; exact h9
      refine lv_aload_n hx hb dX4_walk_20 rfl (lv_at hl 0 rfl) ?_
      refine lv_iload_n hx hb dX4_walk_21 rfl (lv_at hl 1 rfl) ?_
      refine lv_iload_n hx hb dX4_walk_22 rfl (lv_at hl 2 rfl) ?_
      refine lv_iload hx hb dX4_walk_23 (lv_at hl 4 rfl) ?_
      have hm9 := hM9 (1024 * a + 32 * x + y)
      refine cr_Vi (As := [.int (nI a), .int (nI x), .int (nI y)]) (rest := []) ⟨hx, hb, hml, hown, hts⟩ (c_X4_cell l g s0  w h hs0 rf nt np mo gb wr nr su pr ob ki fi se (tN M) nd ii (upd ((wk1 M a x sp qu y).1) y ((-1))) ((wk1 M a x sp qu y).2.1) rF rT rD (a) (x) (y) (by omega) (by omega) (by omega)) (cw_V 3 hts tg_tail tw_557 tw_559 tp_28 tw_4 tw_560 rfl rfl (by decide +kernel) ⟨Nat.le_trans (by decide) hRm.1, Nat.le_trans (by decide) hRm.2⟩) hK hP h0s hS (mW_0) rfl rfl rfl hl.1 rfl (Nat.le_of_ble_eq_true rfl) dX4_walk_25 hcs (fun r9 w9 H locs hw hP hS => ?_)
      obtain ⟨e_r9, hw9⟩ := hw
      rw [hw9] at hP
      subst e_r9
      refine wd_ti (x' := nI (M (1024 * a + 32 * x + y))) (rfl) ?_
      refine lv_if_le (tgt := 50) hx hb dX4_walk_28 (by decide) (fun c_28 => ?_) (fun c_28 => ?_)
      · have c_28 := (nI_leI (a := (M (1024 * a + 32 * x + y))) (b := 0) (by omega) (by omega)).mp (show nI (M (1024 * a + 32 * x + y)) ≤ nI 0 from c_28)
        refine lv_iinc (v := nI (y + 1)) (lv' := [(4, .int (nI (y + 1))), (0, .ref h), (1, .int (nI a)), (2, .int (nI x)), (3, .int (nI ((wk1 M a x sp qu y).2.2)))]) hx hb dX4_walk_50 hl (k := 4) rfl (nI_1 _) (by decide) rfl (fun ls hl => ?_)
        refine lv_goto (tgt := 5) hx hb dX4_walk_53 (by decide) ?_
        have f9 : wk1 M a x sp qu (y + 1) = (upd (wk1 M a x sp qu y).1 y (-1), (wk1 M a x sp qu y).2.1, (wk1 M a x sp qu y).2.2) := by rw [wk1, if_pos c_28]
        have e8 : (mW g w h rf nt np mo gb wr nr su pr ob ki fi se (tN M) nd ii (upd ((wk1 M a x sp qu y).1) y ((-1))) ((wk1 M a x sp qu y).2.1) rF rT rD) = (mW g w h rf nt np mo gb wr nr su pr ob ki fi se (tN M) nd ii ((wk1 M a x sp qu (y + 1)).1) ((wk1 M a x sp qu (y + 1)).2.1) rF rT rD) := by rw [f9]
        rw [e8] at hP
        have hl : lv_has ls 7 [(0, .ref h), (1, .int (nI a)), (2, .int (nI x)), (3, .int (nI ((wk1 M a x sp qu y).2.2))), (4, .int (nI (y + 1)))] := lv_sub hl [1, 2, 3, 4, 0] rfl
        have e8 : ([(0, .ref h), (1, .int (nI a)), (2, .int (nI x)), (3, .int (nI ((wk1 M a x sp qu y).2.2))), (4, .int (nI (y + 1)))] : List (Nat × Value)) = [(0, .ref h), (1, .int (nI a)), (2, .int (nI x)), (3, .int (nI ((wk1 M a x sp qu (y + 1)).2.2))), (4, .int (nI (y + 1)))] := by rw [f9]
        rw [e8] at hl
        exact ih (y + 1) (by omega) (by omega) _ _ ls hP hS hl
      · have c_28 := mt (nI_leI (a := (M (1024 * a + 32 * x + y))) (b := 0) (by omega) (by omega)).mpr (show ¬ (nI (M (1024 * a + 32 * x + y)) ≤ nI 0) from c_28)
        refine lv_aload_n hx hb dX4_walk_31 rfl (lv_at hl 0 rfl) ?_
        refine wd_get (ci := 5) (v := .ref (h + 10)) (C := RX4) (T := TX4) (N := 21) hx hb hts iwX4 hown hK.1 hP (mW_0) rfl 14 (by decide) (hts _ (tg_tail _ tw_437)) (fun _ h9 => h9) rfl dX4_walk_32 ?_
        refine lv_iload hx hb dX4_walk_35 (lv_at hl 4 rfl) ?_
        refine lv_iconst (v := nI 1) hx hb dX4_walk_37 (by decide) ?_
        refine wd_istN hx hb hK.1 hP hS (by omega) 0 (k := y) (mW_10) rfl (by omega) (by decide) dX4_walk_38 (fun H locs hP hS hz => ?_)
        have hP : gP g (mW g w h rf nt np mo gb wr nr su pr ob ki fi se (tN M) nd ii (upd (upd ((wk1 M a x sp qu y).1) y ((-1))) y (nI 1)) ((wk1 M a x sp qu y).2.1) rF rT rD) H := by have h9 : gP g (wd_up (mW g w h rf nt np mo gb wr nr su pr ob ki fi se (tN M) nd ii (upd ((wk1 M a x sp qu y).1) y ((-1))) ((wk1 M a x sp qu y).2.1) rF rT rD) (h + 10) (wd_iA (g.2 0) 32 (upd (upd ((wk1 M a x sp qu y).1) y ((-1))) y (nI 1)))) H := hP; rw [mW_s10] at h9; exact h9
        refine lv_aload_n hx hb dX4_walk_39 rfl (lv_at hl 0 rfl) ?_
        refine wd_get (ci := 5) (v := .ref (h + 11)) (C := RX4) (T := TX4) (N := 21) hx hb hts iwX4 hown hK.1 hP (mW_0) rfl 15 (by decide) (hts _ (tg_tail _ tw_438)) (fun _ h9 => h9) rfl dX4_walk_40 ?_
        refine lv_iload_n hx hb dX4_walk_43 rfl (lv_at hl 3 rfl) ?_
        refine lv_iload hx hb dX4_walk_44 (lv_at hl 4 rfl) ?_
        refine wd_istN hx hb hK.1 hP hS (by omega) 0 (k := ((wk1 M a x sp qu y).2.2)) (mW_11) rfl (by have := (wk1_ok (M := M) (a := a) (x := x) (sp := sp) (qu := qu) y).1; have := cn_le (wk1 M a x sp qu y).1 y; omega) (by decide) dX4_walk_46 (fun H locs hP hS hz => ?_)
        have hP : gP g (mW g w h rf nt np mo gb wr nr su pr ob ki fi se (tN M) nd ii (upd (upd ((wk1 M a x sp qu y).1) y ((-1))) y (nI 1)) (upd ((wk1 M a x sp qu y).2.1) ((wk1 M a x sp qu y).2.2) (nI y)) rF rT rD) H := by have h9 : gP g (wd_up (mW g w h rf nt np mo gb wr nr su pr ob ki fi se (tN M) nd ii (upd (upd ((wk1 M a x sp qu y).1) y ((-1))) y (nI 1)) ((wk1 M a x sp qu y).2.1) rF rT rD) (h + 11) (wd_iA (g.2 0) 32 (upd ((wk1 M a x sp qu y).2.1) ((wk1 M a x sp qu y).2.2) (nI y)))) H := hP; rw [mW_s11] at h9; exact h9
        refine lv_iinc (v := nI ((wk1 M a x sp qu y).2.2 + 1)) (lv' := [(3, .int (nI ((wk1 M a x sp qu y).2.2 + 1))), (0, .ref h), (1, .int (nI a)), (2, .int (nI x)), (4, .int (nI y))]) hx hb dX4_walk_47 hl (k := 3) rfl (nI_1 _) (by decide) rfl (fun ls hl => ?_)
        refine lv_iinc (v := nI (y + 1)) (lv' := [(4, .int (nI (y + 1))), (3, .int (nI ((wk1 M a x sp qu y).2.2 + 1))), (0, .ref h), (1, .int (nI a)), (2, .int (nI x))]) hx hb dX4_walk_50 hl (k := 4) rfl (nI_1 _) (by decide) rfl (fun ls hl => ?_)
        refine lv_goto (tgt := 5) hx hb dX4_walk_53 (by decide) ?_
        have f9 : wk1 M a x sp qu (y + 1) = (upd (upd (wk1 M a x sp qu y).1 y (-1)) y (nI 1), upd (wk1 M a x sp qu y).2.1 (wk1 M a x sp qu y).2.2 (nI y), (wk1 M a x sp qu y).2.2 + 1) := by rw [wk1, if_neg c_28]
        have e8 : (mW g w h rf nt np mo gb wr nr su pr ob ki fi se (tN M) nd ii (upd (upd ((wk1 M a x sp qu y).1) y ((-1))) y (nI 1)) (upd ((wk1 M a x sp qu y).2.1) ((wk1 M a x sp qu y).2.2) (nI y)) rF rT rD) = (mW g w h rf nt np mo gb wr nr su pr ob ki fi se (tN M) nd ii ((wk1 M a x sp qu (y + 1)).1) ((wk1 M a x sp qu (y + 1)).2.1) rF rT rD) := by rw [f9]
        rw [e8] at hP
        have hl : lv_has ls 7 [(0, .ref h), (1, .int (nI a)), (2, .int (nI x)), (3, .int (nI ((wk1 M a x sp qu y).2.2 + 1))), (4, .int (nI (y + 1)))] := lv_sub hl [2, 3, 4, 1, 0] rfl
        have e8 : ([(0, .ref h), (1, .int (nI a)), (2, .int (nI x)), (3, .int (nI ((wk1 M a x sp qu y).2.2 + 1))), (4, .int (nI (y + 1)))] : List (Nat × Value)) = [(0, .ref h), (1, .int (nI a)), (2, .int (nI x)), (3, .int (nI ((wk1 M a x sp qu (y + 1)).2.2))), (4, .int (nI (y + 1)))] := by rw [f9]
        rw [e8] at hl
        exact ih (y + 1) (by omega) (by omega) _ _ ls hP hS hl

set_option maxHeartbeats 4000000 in
set_option maxRecDepth 100000 in
theorem lp_wk2 {p : Program} {l : Launch} {e : Env} {R : Room} {s : State} {m : MethodId} {args : Array Value} {below : List Frame} {meth : Method} {c : Code} {Q : State → Prop} {H0 : Heap} {cells slots : Nat} (g : gX) (s0 : Nat) (w : wd_M) (h : Nat) (hs0 : s0 ≤ h) (rf nt np mo gb wr nr : Int32) (su pr ob ki fi se nd ii rF rT rD : Nat → Int32) (M : Nat → Nat) (hM9 : mB M) (a x z k : Nat) (st : wT) (ha9 : a ≤ 40) (hz9 : z < 32) (hst : ∀ y, y ≤ 32 → wI (wk2 M a z st y)) (hx : p.tables.exec = Jvm.exec) (hb : c.code = cX4_walk) (hml : c.maxLocals = 7) (hown : s.vm.findClass RX4 = some m.cls) (hts : ∀ w ∈ Cond.code yX4_walk cX4_walk 7 (none) :: tg, w.before args s = true) (hK : gK g s) (h0s : s0 ≤ H0.size) (hRm : 1 ≤ R.frames ∧ 23 ≤ R.locals) (hcs : cells + 0 ≤ R.cells ∧ slots + 0 ≤ R.slots)  (kx : ∀ (H : Heap) (locs : List Loc) (ls : Array Slot), gP g (mW g w h rf nt np mo gb wr nr su pr ob ki fi se (tN M) nd ii ((wk2 M a z st 32).1) ((wk2 M a z st 32).2.1) rF rT rD) H → gS s0 H0 H locs → lv_has ls 7 [(0, .ref h), (1, .int (nI a)), (2, .int (nI x)), (3, .int (nI ((wk2 M a z st 32).2.2))), (4, .int (nI k)), (5, .int (nI z)), (6, .int (nI 32))] → W p l e R s m args below meth c H locs cells slots Q (F0 m 139 ls [])) :
    ∀ (n y : Nat), y ≤ 32 → 32 + 1 ≤ y + n → ∀ (H : Heap) (locs : List Loc) (ls : Array Slot), gP g (mW g w h rf nt np mo gb wr nr su pr ob ki fi se (tN M) nd ii ((wk2 M a z st y).1) ((wk2 M a z st y).2.1) rF rT rD) H → gS s0 H0 H locs → lv_has ls 7 [(0, .ref h), (1, .int (nI a)), (2, .int (nI x)), (3, .int (nI ((wk2 M a z st y).2.2))), (4, .int (nI k)), (5, .int (nI z)), (6, .int (nI y))] → W p l e R s m args below meth c H locs cells slots Q (F0 m 77 ls []) := by
  intro n
  induction n with
  | zero =>
    intro y h1 h2
    exact absurd h2 (by omega)
  | succ n ih =>
    intro y hi hin H locs ls hP hS hl
    refine lv_iload hx hb dX4_walk_77 (lv_at hl 6 rfl) ?_
    refine lv_bipush (v := nI 32) hx hb dX4_walk_79 (by decide) ?_
    refine lv_icmp_ge (tgt := 139) hx hb dX4_walk_81 (by decide) (fun c_81 => ?_) (fun c_81 => ?_)
    · have c_81 := (nI_leI (a := 32) (b := y) (by omega) (by omega)).mp c_81
      have e9 : y = 32 := by omega
      try rw [e9] at hP
      try rw [e9] at hl
      exact kx H locs ls hP hS (lv_sub hl [0, 1, 2, 3, 4, 5, 6] rfl)
    · have c_81 := mt (nI_leI (a := 32) (b := y) (by omega) (by omega)).mpr c_81
      refine lv_aload_n hx hb dX4_walk_84 rfl (lv_at hl 0 rfl) ?_
      refine wd_get (ci := 5) (v := .ref (h + 10)) (C := RX4) (T := TX4) (N := 21) hx hb hts iwX4 hown hK.1 hP (mW_0) rfl 14 (by decide) (hts _ (tg_tail _ tw_437)) (fun _ h9 => h9) rfl dX4_walk_85 ?_
      refine lv_iload hx hb dX4_walk_88 (lv_at hl 6 rfl) ?_
      refine wd_ildN hx hb hK.1 hP 0 (k := y) (mW_10) rfl (by omega) (by decide) dX4_walk_90 ?_
      refine lv_if_ge (tgt := 133) hx hb dX4_walk_91 (by decide) (fun c_91 => ?_) (fun c_91 => ?_)
      · refine lv_iinc (v := nI (y + 1)) (lv' := [(6, .int (nI (y + 1))), (0, .ref h), (1, .int (nI a)), (2, .int (nI x)), (3, .int (nI ((wk2 M a z st y).2.2))), (4, .int (nI k)), (5, .int (nI z))]) hx hb dX4_walk_133 hl (k := 6) rfl (nI_1 _) (by decide) rfl (fun ls hl => ?_)
        refine lv_goto (tgt := 77) hx hb dX4_walk_136 (by decide) ?_
        have f9 : wk2 M a z st (y + 1) = wk2 M a z st y := by rw [wk2, if_pos (Or.inl c_91)]
        have e8 : (mW g w h rf nt np mo gb wr nr su pr ob ki fi se (tN M) nd ii ((wk2 M a z st y).1) ((wk2 M a z st y).2.1) rF rT rD) = (mW g w h rf nt np mo gb wr nr su pr ob ki fi se (tN M) nd ii ((wk2 M a z st (y + 1)).1) ((wk2 M a z st (y + 1)).2.1) rF rT rD) := by rw [f9]
        rw [e8] at hP
        have hl : lv_has ls 7 [(0, .ref h), (1, .int (nI a)), (2, .int (nI x)), (3, .int (nI ((wk2 M a z st y).2.2))), (4, .int (nI k)), (5, .int (nI z)), (6, .int (nI (y + 1)))] := lv_sub hl [1, 2, 3, 4, 5, 6, 0] rfl
        have e8 : ([(0, .ref h), (1, .int (nI a)), (2, .int (nI x)), (3, .int (nI ((wk2 M a z st y).2.2))), (4, .int (nI k)), (5, .int (nI z)), (6, .int (nI (y + 1)))] : List (Nat × Value)) = [(0, .ref h), (1, .int (nI a)), (2, .int (nI x)), (3, .int (nI ((wk2 M a z st (y + 1)).2.2))), (4, .int (nI k)), (5, .int (nI z)), (6, .int (nI (y + 1)))] := by rw [f9]
        rw [e8] at hl
        exact ih (y + 1) (by omega) (by omega) _ _ ls hP hS hl
      · refine lv_aload_n hx hb dX4_walk_94 rfl (lv_at hl 0 rfl) ?_
        refine lv_iload_n hx hb dX4_walk_95 rfl (lv_at hl 1 rfl) ?_
        refine lv_iload hx hb dX4_walk_96 (lv_at hl 5 rfl) ?_
        refine lv_iload hx hb dX4_walk_98 (lv_at hl 6 rfl) ?_
        have hm9 := hM9 (1024 * a + 32 * z + y)
        refine cr_Vi (As := [.int (nI a), .int (nI z), .int (nI y)]) (rest := []) ⟨hx, hb, hml, hown, hts⟩ (c_X4_cell l g s0  w h hs0 rf nt np mo gb wr nr su pr ob ki fi se (tN M) nd ii ((wk2 M a z st y).1) ((wk2 M a z st y).2.1) rF rT rD (a) (z) (y) (by omega) (by omega) (by omega)) (cw_V 3 hts tg_tail tw_557 tw_559 tp_28 tw_4 tw_560 rfl rfl (by decide +kernel) ⟨Nat.le_trans (by decide) hRm.1, Nat.le_trans (by decide) hRm.2⟩) hK hP h0s hS (mW_0) rfl rfl rfl hl.1 rfl (Nat.le_of_ble_eq_true rfl) dX4_walk_100 hcs (fun r9 w9 H locs hw hP hS => ?_)
        obtain ⟨e_r9, hw9⟩ := hw
        rw [hw9] at hP
        subst e_r9
        refine wd_ti (x' := nI (M (1024 * a + 32 * z + y))) (rfl) ?_
        refine lv_if_le (tgt := 133) hx hb dX4_walk_103 (by decide) (fun c_103 => ?_) (fun c_103 => ?_)
        · have c_103 := (nI_leI (a := (M (1024 * a + 32 * z + y))) (b := 0) (by omega) (by omega)).mp (show nI (M (1024 * a + 32 * z + y)) ≤ nI 0 from c_103)
          refine lv_iinc (v := nI (y + 1)) (lv' := [(6, .int (nI (y + 1))), (0, .ref h), (1, .int (nI a)), (2, .int (nI x)), (3, .int (nI ((wk2 M a z st y).2.2))), (4, .int (nI k)), (5, .int (nI z))]) hx hb dX4_walk_133 hl (k := 6) rfl (nI_1 _) (by decide) rfl (fun ls hl => ?_)
          refine lv_goto (tgt := 77) hx hb dX4_walk_136 (by decide) ?_
          have f9 : wk2 M a z st (y + 1) = wk2 M a z st y := by rw [wk2, if_pos (Or.inr c_103)]
          have e8 : (mW g w h rf nt np mo gb wr nr su pr ob ki fi se (tN M) nd ii ((wk2 M a z st y).1) ((wk2 M a z st y).2.1) rF rT rD) = (mW g w h rf nt np mo gb wr nr su pr ob ki fi se (tN M) nd ii ((wk2 M a z st (y + 1)).1) ((wk2 M a z st (y + 1)).2.1) rF rT rD) := by rw [f9]
          rw [e8] at hP
          have hl : lv_has ls 7 [(0, .ref h), (1, .int (nI a)), (2, .int (nI x)), (3, .int (nI ((wk2 M a z st y).2.2))), (4, .int (nI k)), (5, .int (nI z)), (6, .int (nI (y + 1)))] := lv_sub hl [1, 2, 3, 4, 5, 6, 0] rfl
          have e8 : ([(0, .ref h), (1, .int (nI a)), (2, .int (nI x)), (3, .int (nI ((wk2 M a z st y).2.2))), (4, .int (nI k)), (5, .int (nI z)), (6, .int (nI (y + 1)))] : List (Nat × Value)) = [(0, .ref h), (1, .int (nI a)), (2, .int (nI x)), (3, .int (nI ((wk2 M a z st (y + 1)).2.2))), (4, .int (nI k)), (5, .int (nI z)), (6, .int (nI (y + 1)))] := by rw [f9]
          rw [e8] at hl
          exact ih (y + 1) (by omega) (by omega) _ _ ls hP hS hl
        · have c_103 := mt (nI_leI (a := (M (1024 * a + 32 * z + y))) (b := 0) (by omega) (by omega)).mpr (show ¬ (nI (M (1024 * a + 32 * z + y)) ≤ nI 0) from c_103)
          refine lv_aload_n hx hb dX4_walk_106 rfl (lv_at hl 0 rfl) ?_
          refine wd_get (ci := 5) (v := .ref (h + 10)) (C := RX4) (T := TX4) (N := 21) hx hb hts iwX4 hown hK.1 hP (mW_0) rfl 14 (by decide) (hts _ (tg_tail _ tw_437)) (fun _ h9 => h9) rfl dX4_walk_107 ?_
          refine lv_iload hx hb dX4_walk_110 (lv_at hl 6 rfl) ?_
          refine lv_aload_n hx hb dX4_walk_112 rfl (lv_at hl 0 rfl) ?_
          refine wd_get (ci := 5) (v := .ref (h + 10)) (C := RX4) (T := TX4) (N := 21) hx hb hts iwX4 hown hK.1 hP (mW_0) rfl 14 (by decide) (hts _ (tg_tail _ tw_437)) (fun _ h9 => h9) rfl dX4_walk_113 ?_
          refine lv_iload hx hb dX4_walk_116 (lv_at hl 5 rfl) ?_
          refine wd_ildN hx hb hK.1 hP 0 (k := z) (mW_10) rfl (by omega) (by decide) dX4_walk_118 ?_
          refine lv_iconst (v := nI 1) hx hb dX4_walk_119 (by decide) ?_
          refine lv_iadd hx hb dX4_walk_120 ?_
          refine wd_ti (x' := (wk2 M a z st y).1 z + nI 1) (rfl) ?_
          refine wd_istN hx hb hK.1 hP hS (by omega) 0 (k := y) (mW_10) rfl (by omega) (by decide) dX4_walk_121 (fun H locs hP hS hz => ?_)
          have hP : gP g (mW g w h rf nt np mo gb wr nr su pr ob ki fi se (tN M) nd ii (upd ((wk2 M a z st y).1) y ((wk2 M a z st y).1 z + nI 1)) ((wk2 M a z st y).2.1) rF rT rD) H := by have h9 : gP g (wd_up (mW g w h rf nt np mo gb wr nr su pr ob ki fi se (tN M) nd ii ((wk2 M a z st y).1) ((wk2 M a z st y).2.1) rF rT rD) (h + 10) (wd_iA (g.2 0) 32 (upd ((wk2 M a z st y).1) y ((wk2 M a z st y).1 z + nI 1)))) H := hP; rw [mW_s10] at h9; exact h9
          refine lv_aload_n hx hb dX4_walk_122 rfl (lv_at hl 0 rfl) ?_
          refine wd_get (ci := 5) (v := .ref (h + 11)) (C := RX4) (T := TX4) (N := 21) hx hb hts iwX4 hown hK.1 hP (mW_0) rfl 15 (by decide) (hts _ (tg_tail _ tw_438)) (fun _ h9 => h9) rfl dX4_walk_123 ?_
          refine lv_iload_n hx hb dX4_walk_126 rfl (lv_at hl 3 rfl) ?_
          refine lv_iload hx hb dX4_walk_127 (lv_at hl 6 rfl) ?_
          refine wd_istN hx hb hK.1 hP hS (by omega) 0 (k := ((wk2 M a z st y).2.2)) (mW_11) rfl ((hst y (by omega)).lt (v := y) (by omega) c_91) (by decide) dX4_walk_129 (fun H locs hP hS hz => ?_)
          have hP : gP g (mW g w h rf nt np mo gb wr nr su pr ob ki fi se (tN M) nd ii (upd ((wk2 M a z st y).1) y ((wk2 M a z st y).1 z + nI 1)) (upd ((wk2 M a z st y).2.1) ((wk2 M a z st y).2.2) (nI y)) rF rT rD) H := by have h9 : gP g (wd_up (mW g w h rf nt np mo gb wr nr su pr ob ki fi se (tN M) nd ii (upd ((wk2 M a z st y).1) y ((wk2 M a z st y).1 z + nI 1)) ((wk2 M a z st y).2.1) rF rT rD) (h + 11) (wd_iA (g.2 0) 32 (upd ((wk2 M a z st y).2.1) ((wk2 M a z st y).2.2) (nI y)))) H := hP; rw [mW_s11] at h9; exact h9
          refine lv_iinc (v := nI ((wk2 M a z st y).2.2 + 1)) (lv' := [(3, .int (nI ((wk2 M a z st y).2.2 + 1))), (0, .ref h), (1, .int (nI a)), (2, .int (nI x)), (4, .int (nI k)), (5, .int (nI z)), (6, .int (nI y))]) hx hb dX4_walk_130 hl (k := 3) rfl (nI_1 _) (by decide) rfl (fun ls hl => ?_)
          refine lv_iinc (v := nI (y + 1)) (lv' := [(6, .int (nI (y + 1))), (3, .int (nI ((wk2 M a z st y).2.2 + 1))), (0, .ref h), (1, .int (nI a)), (2, .int (nI x)), (4, .int (nI k)), (5, .int (nI z))]) hx hb dX4_walk_133 hl (k := 6) rfl (nI_1 _) (by decide) rfl (fun ls hl => ?_)
          refine lv_goto (tgt := 77) hx hb dX4_walk_136 (by decide) ?_
          have f9 : wk2 M a z st (y + 1) = (upd (wk2 M a z st y).1 y ((wk2 M a z st y).1 z + nI 1), upd (wk2 M a z st y).2.1 (wk2 M a z st y).2.2 (nI y), (wk2 M a z st y).2.2 + 1) := by rw [wk2, if_neg (fun q => q.elim c_91 c_103)]
          have e8 : (mW g w h rf nt np mo gb wr nr su pr ob ki fi se (tN M) nd ii (upd ((wk2 M a z st y).1) y ((wk2 M a z st y).1 z + nI 1)) (upd ((wk2 M a z st y).2.1) ((wk2 M a z st y).2.2) (nI y)) rF rT rD) = (mW g w h rf nt np mo gb wr nr su pr ob ki fi se (tN M) nd ii ((wk2 M a z st (y + 1)).1) ((wk2 M a z st (y + 1)).2.1) rF rT rD) := by rw [f9]
          rw [e8] at hP
          have hl : lv_has ls 7 [(0, .ref h), (1, .int (nI a)), (2, .int (nI x)), (3, .int (nI ((wk2 M a z st y).2.2 + 1))), (4, .int (nI k)), (5, .int (nI z)), (6, .int (nI (y + 1)))] := lv_sub hl [2, 3, 4, 1, 5, 6, 0] rfl
          have e8 : ([(0, .ref h), (1, .int (nI a)), (2, .int (nI x)), (3, .int (nI ((wk2 M a z st y).2.2 + 1))), (4, .int (nI k)), (5, .int (nI z)), (6, .int (nI (y + 1)))] : List (Nat × Value)) = [(0, .ref h), (1, .int (nI a)), (2, .int (nI x)), (3, .int (nI ((wk2 M a z st (y + 1)).2.2))), (4, .int (nI k)), (5, .int (nI z)), (6, .int (nI (y + 1)))] := by rw [f9]
          rw [e8] at hl
          exact ih (y + 1) (by omega) (by omega) _ _ ls hP hS hl

set_option maxHeartbeats 4000000 in
set_option maxRecDepth 100000 in
theorem lp_wk3 {p : Program} {l : Launch} {e : Env} {R : Room} {s : State} {m : MethodId} {args : Array Value} {below : List Frame} {meth : Method} {c : Code} {Q : State → Prop} {H0 : Heap} {cells slots : Nat} (g : gX) (s0 : Nat) (w : wd_M) (h : Nat) (hs0 : s0 ≤ h) (rf nt np mo gb wr nr : Int32) (su pr ob ki fi se nd ii rF rT rD : Nat → Int32) (M : Nat → Nat) (hM9 : mB M) (a x : Nat) (st : wT) (ha9 : a ≤ 40) (hst : wI st) (hx : p.tables.exec = Jvm.exec) (hb : c.code = cX4_walk) (hml : c.maxLocals = 7) (hown : s.vm.findClass RX4 = some m.cls) (hts : ∀ w ∈ Cond.code yX4_walk cX4_walk 7 (none) :: tg, w.before args s = true) (hK : gK g s) (h0s : s0 ≤ H0.size) (hRm : 1 ≤ R.frames ∧ 23 ≤ R.locals) (hcs : cells + 0 ≤ R.cells ∧ slots + 0 ≤ R.slots)  (kx : ∀ (H : Heap) (locs : List Loc) (ls : Array Slot), gP g (mW g w h rf nt np mo gb wr nr su pr ob ki fi se (tN M) nd ii ((wk3 M a st 32).1) ((wk3 M a st 32).2.1) rF rT rD) H → gS s0 H0 H locs → lv_has ls 7 [(0, .ref h)] → W p l e R s m args below meth c H locs cells slots Q (F0 m 145 ls [])) :
    ∀ (n k : Nat), k ≤ 32 → 32 + 1 ≤ k + n → ∀ (H : Heap) (locs : List Loc) (ls : Array Slot), gP g (mW g w h rf nt np mo gb wr nr su pr ob ki fi se (tN M) nd ii ((wk3 M a st k).1) ((wk3 M a st k).2.1) rF rT rD) H → gS s0 H0 H locs → lv_has ls 7 [(0, .ref h), (1, .int (nI a)), (2, .int (nI x)), (3, .int (nI ((wk3 M a st k).2.2))), (4, .int (nI k))] → W p l e R s m args below meth c H locs cells slots Q (F0 m 59 ls []) := by
  intro n
  induction n with
  | zero =>
    intro k h1 h2
    exact absurd h2 (by omega)
  | succ n ih =>
    intro k hi hin H locs ls hP hS hl
    have hI := wI_3 (M := M) (a := a) hst k
    have hI3 := hI.le
    refine lv_iload hx hb dX4_walk_59 (lv_at hl 4 rfl) ?_
    refine lv_iload_n hx hb dX4_walk_61 rfl (lv_at hl 3 rfl) ?_
    refine lv_icmp_ge (tgt := 145) hx hb dX4_walk_62 (by decide) (fun c_62 => ?_) (fun c_62 => ?_)
    · have c_62 := (nI_leI (a := ((wk3 M a st k).2.2)) (b := k) (by omega) (by omega)).mp c_62
      have e9 : wk3 M a st 32 = wk3 M a st k := by have h9 := wk3_fix c_62 (32 - k); rw [show k + (32 - k) = 32 by omega] at h9; exact h9
      rw [← e9] at hP
      exact kx H locs ls hP hS (lv_sub hl [0] rfl)
    · have c_62 := mt (nI_leI (a := ((wk3 M a st k).2.2)) (b := k) (by omega) (by omega)).mpr c_62
      refine lv_aload_n hx hb dX4_walk_65 rfl (lv_at hl 0 rfl) ?_
      refine wd_get (ci := 5) (v := .ref (h + 11)) (C := RX4) (T := TX4) (N := 21) hx hb hts iwX4 hown hK.1 hP (mW_0) rfl 15 (by decide) (hts _ (tg_tail _ tw_438)) (fun _ h9 => h9) rfl dX4_walk_66 ?_
      refine lv_iload hx hb dX4_walk_69 (lv_at hl 4 rfl) ?_
      refine wd_ildN hx hb hK.1 hP 0 (k := k) (mW_11) rfl (by omega) (by decide) dX4_walk_71 ?_
      refine wd_ti (x' := nI ((wk3 M a st k).2.1 k).toNatClampNeg) ((wz_ok hI (by omega)).1) ?_
      refine lv_istore (lv' := [(5, .int (nI ((wk3 M a st k).2.1 k).toNatClampNeg)), (0, .ref h), (1, .int (nI a)), (2, .int (nI x)), (3, .int (nI ((wk3 M a st k).2.2))), (4, .int (nI k))]) hx hb dX4_walk_72 hl (by decide) rfl (fun ls hl => ?_)
      refine lv_iconst (v := nI 0) hx hb dX4_walk_74 (by decide) ?_
      refine lv_istore (lv' := [(6, .int (nI 0)), (5, .int (nI ((wk3 M a st k).2.1 k).toNatClampNeg)), (0, .ref h), (1, .int (nI a)), (2, .int (nI x)), (3, .int (nI ((wk3 M a st k).2.2))), (4, .int (nI k))]) hx hb dX4_walk_75 hl (by decide) rfl (fun ls hl => ?_)
      have hz9 := wz_ok hI (k := k) (by omega)
      have e8 : (mW g w h rf nt np mo gb wr nr su pr ob ki fi se (tN M) nd ii ((wk3 M a st k).1) ((wk3 M a st k).2.1) rF rT rD) = (mW g w h rf nt np mo gb wr nr su pr ob ki fi se (tN M) nd ii ((wk2 M a (((wk3 M a st k).2.1 k).toNatClampNeg) (wk3 M a st k) 0).1) ((wk2 M a (((wk3 M a st k).2.1 k).toNatClampNeg) (wk3 M a st k) 0).2.1) rF rT rD) := by rw [wk2]
      rw [e8] at hP
      have hl : lv_has ls 7 [(0, .ref h), (1, .int (nI a)), (2, .int (nI x)), (3, .int (nI ((wk3 M a st k).2.2))), (4, .int (nI k)), (5, .int (nI ((wk3 M a st k).2.1 k).toNatClampNeg)), (6, .int (nI 0))] := lv_sub hl [2, 3, 4, 5, 6, 1, 0] rfl
      have e8 : ([(0, .ref h), (1, .int (nI a)), (2, .int (nI x)), (3, .int (nI ((wk3 M a st k).2.2))), (4, .int (nI k)), (5, .int (nI ((wk3 M a st k).2.1 k).toNatClampNeg)), (6, .int (nI 0))] : List (Nat × Value)) = [(0, .ref h), (1, .int (nI a)), (2, .int (nI x)), (3, .int (nI ((wk2 M a (((wk3 M a st k).2.1 k).toNatClampNeg) (wk3 M a st k) 0).2.2))), (4, .int (nI k)), (5, .int (nI (((wk3 M a st k).2.1 k).toNatClampNeg))), (6, .int (nI 0))] := by rw [wk2]
      rw [e8] at hl
      refine lp_wk2 g s0 w h hs0 rf nt np mo gb wr nr su pr ob ki fi se nd ii rF rT rD M hM9 a x ((wk3 M a st k).2.1 k).toNatClampNeg k (wk3 M a st k) ha9 hz9.2.1 (fun y hy => (wI_2 hI hz9.2.1 hz9.2.2 y hy).1) hx hb hml hown hts hK h0s hRm hcs  ?_ (32 + 1) 0 (by omega) (by omega) _ _ ls hP hS hl
      intro H locs ls hP hS hl
      refine lv_iinc (v := nI (k + 1)) (lv' := [(4, .int (nI (k + 1))), (0, .ref h), (1, .int (nI a)), (2, .int (nI x)), (3, .int (nI ((wk2 M a (((wk3 M a st k).2.1 k).toNatClampNeg) (wk3 M a st k) 32).2.2))), (5, .int (nI (((wk3 M a st k).2.1 k).toNatClampNeg))), (6, .int (nI 32))]) hx hb dX4_walk_139 hl (k := 4) rfl (nI_1 _) (by decide) rfl (fun ls hl => ?_)
      refine lv_goto (tgt := 59) hx hb dX4_walk_142 (by decide) ?_
      have f9 : wk3 M a st (k + 1) = wk2 M a ((wk3 M a st k).2.1 k).toNatClampNeg (wk3 M a st k) 32 := by rw [wk3, if_neg c_62]
      have e8 : (mW g w h rf nt np mo gb wr nr su pr ob ki fi se (tN M) nd ii ((wk2 M a (((wk3 M a st k).2.1 k).toNatClampNeg) (wk3 M a st k) 32).1) ((wk2 M a (((wk3 M a st k).2.1 k).toNatClampNeg) (wk3 M a st k) 32).2.1) rF rT rD) = (mW g w h rf nt np mo gb wr nr su pr ob ki fi se (tN M) nd ii ((wk3 M a st (k + 1)).1) ((wk3 M a st (k + 1)).2.1) rF rT rD) := by rw [f9]
      rw [e8] at hP
      have hl : lv_has ls 7 [(0, .ref h), (1, .int (nI a)), (2, .int (nI x)), (3, .int (nI ((wk2 M a (((wk3 M a st k).2.1 k).toNatClampNeg) (wk3 M a st k) 32).2.2))), (4, .int (nI (k + 1)))] := lv_sub hl [1, 2, 3, 4, 0] rfl
      have e8 : ([(0, .ref h), (1, .int (nI a)), (2, .int (nI x)), (3, .int (nI ((wk2 M a (((wk3 M a st k).2.1 k).toNatClampNeg) (wk3 M a st k) 32).2.2))), (4, .int (nI (k + 1)))] : List (Nat × Value)) = [(0, .ref h), (1, .int (nI a)), (2, .int (nI x)), (3, .int (nI ((wk3 M a st (k + 1)).2.2))), (4, .int (nI (k + 1)))] := by rw [f9]
      rw [e8] at hl
      exact ih (k + 1) (by omega) (by omega) _ _ ls hP hS hl

set_option maxHeartbeats 4000000 in
set_option maxRecDepth 100000 in
theorem c_X4_walk (l : Launch) (g : gX) (s0 : Nat) (w : wd_M) (h : Nat) (hs0 : s0 ≤ h) (rf nt np mo gb wr nr : Int32) (su pr ob ki fi se nd ii sp qu rF rT rD : Nat → Int32) (M : Nat → Nat) (hM9 : mB M) (a x : Nat) (ha9 : a ≤ 40) (hx1 : x < 32) : Met l yX4_walk (Cond.code yX4_walk cX4_walk 7 (none) :: tg) ({ frames := 1, cells := 0, slots := 0, locals := 23 }) (cP g s0 (mW g w h rf nt np mo gb wr nr su pr ob ki fi se (tN M) nd ii sp qu rF rT rD) [.ref h, .int (nI a), .int (nI x)]) (cV g s0 (fun w' => w' = (mW g w h rf nt np mo gb wr nr su pr ob ki fi se (tN M) nd ii ((wkF M a x sp qu).1) ((wkF M a x sp qu).2.1) rF rT rD))) 0 0 (cA s0) := by
  refine Met.ofW (cc := cX4_walk) (maxL := 7) (ret := none) (by decide) rfl ?_
  intro p e s m args below meth c s₁ B9 hml hv
  obtain ⟨rfl, h0s, hP, hK⟩ := hv
  have hx := B9.exec
  have hb := B9.bytes
  have hr := B9.returns
  have hts := atoms_spec (ws := Cond.code yX4_walk cX4_walk 7 (none) :: tg) B9.pre
  have hown : s.vm.findClass RX4 = some m.cls := findClass_of_methodNamed B9.named
  have hlocks := B9.notSynchronized
  have hS : gS s0 s.heap s.heap [] := va_S.rf
  have hRm : 1 ≤ (headSpec (Cond.code yX4_walk cX4_walk 7 (none) :: tg) ({ frames := 1, cells := 0, slots := 0, locals := 23 })).room.frames ∧ 23 ≤ (headSpec (Cond.code yX4_walk cX4_walk 7 (none) :: tg) ({ frames := 1, cells := 0, slots := 0, locals := 23 })).room.locals := ⟨Nat.le_refl _, Nat.le_refl _⟩
  have hcs : 0 + 0 ≤ (headSpec (Cond.code yX4_walk cX4_walk 7 (none) :: tg) ({ frames := 1, cells := 0, slots := 0, locals := 23 })).room.cells ∧ 0 + 0 ≤ (headSpec (Cond.code yX4_walk cX4_walk 7 (none) :: tg) ({ frames := 1, cells := 0, slots := 0, locals := 23 })).room.slots := ⟨Nat.zero_le _, Nat.zero_le _⟩
  have hl := lv_entry ([.ref h, .int (nI a), .int (nI x)]) (n := 7) (Nat.le_of_ble_eq_true rfl)
  rw [lg_entry_eq]
  generalize (lg_sl ([.ref h, .int (nI a), .int (nI x)]) ++ List.replicate (7 - (lg_sl ([.ref h, .int (nI a), .int (nI x)])).length) Slot.unset).toArray = ls at hl ⊢
  have hl : lv_has ls 7 [(0, .ref h), (1, .int (nI a)), (2, .int (nI x))] := hl
  refine lv_iconst (v := nI 0) hx hb dX4_walk_0 (by decide) ?_
  refine lv_istore_n (lv' := [(3, .int (nI 0)), (0, .ref h), (1, .int (nI a)), (2, .int (nI x))]) hx hb dX4_walk_1 rfl hl (by decide) rfl (fun ls hl => ?_)
  refine lv_iconst (v := nI 0) hx hb dX4_walk_2 (by decide) ?_
  refine lv_istore (lv' := [(4, .int (nI 0)), (3, .int (nI 0)), (0, .ref h), (1, .int (nI a)), (2, .int (nI x))]) hx hb dX4_walk_3 hl (by decide) rfl (fun ls hl => ?_)
  have e8 : (mW g w h rf nt np mo gb wr nr su pr ob ki fi se (tN M) nd ii sp qu rF rT rD) = (mW g w h rf nt np mo gb wr nr su pr ob ki fi se (tN M) nd ii ((wk1 M a x sp qu 0).1) ((wk1 M a x sp qu 0).2.1) rF rT rD) := by rw [wk1]
  rw [e8] at hP
  have hl : lv_has ls 7 [(0, .ref h), (1, .int (nI a)), (2, .int (nI x)), (3, .int (nI 0)), (4, .int (nI 0))] := lv_sub hl [2, 3, 4, 1, 0] rfl
  have e8 : ([(0, .ref h), (1, .int (nI a)), (2, .int (nI x)), (3, .int (nI 0)), (4, .int (nI 0))] : List (Nat × Value)) = [(0, .ref h), (1, .int (nI a)), (2, .int (nI x)), (3, .int (nI ((wk1 M a x sp qu 0).2.2))), (4, .int (nI 0))] := by rw [wk1]
  rw [e8] at hl
  refine lp_wk1 g s0 w h hs0 rf nt np mo gb wr nr su pr ob ki fi se nd ii sp qu rF rT rD M hM9 a x ha9 hx1 hx hb hml hown hts hK h0s hRm hcs  ?_ (32 + 1) 0 (by omega) (by omega) _ _ ls hP hS hl
  intro H locs ls hP hS hl
  refine lv_iconst (v := nI 0) hx hb dX4_walk_56 (by decide) ?_
  refine lv_istore (lv' := [(4, .int (nI 0)), (0, .ref h), (1, .int (nI a)), (2, .int (nI x)), (3, .int (nI ((wk1 M a x sp qu 32).2.2)))]) hx hb dX4_walk_57 hl (by decide) rfl (fun ls hl => ?_)
  have e8 : (mW g w h rf nt np mo gb wr nr su pr ob ki fi se (tN M) nd ii ((wk1 M a x sp qu 32).1) ((wk1 M a x sp qu 32).2.1) rF rT rD) = (mW g w h rf nt np mo gb wr nr su pr ob ki fi se (tN M) nd ii ((wk3 M a (wk1 M a x sp qu 32) 0).1) ((wk3 M a (wk1 M a x sp qu 32) 0).2.1) rF rT rD) := by rw [wk3]
  rw [e8] at hP
  have hl : lv_has ls 7 [(0, .ref h), (1, .int (nI a)), (2, .int (nI x)), (3, .int (nI ((wk1 M a x sp qu 32).2.2))), (4, .int (nI 0))] := lv_sub hl [1, 2, 3, 4, 0] rfl
  have e8 : ([(0, .ref h), (1, .int (nI a)), (2, .int (nI x)), (3, .int (nI ((wk1 M a x sp qu 32).2.2))), (4, .int (nI 0))] : List (Nat × Value)) = [(0, .ref h), (1, .int (nI a)), (2, .int (nI x)), (3, .int (nI ((wk3 M a (wk1 M a x sp qu 32) 0).2.2))), (4, .int (nI 0))] := by rw [wk3]
  rw [e8] at hl
  refine lp_wk3 g s0 w h hs0 rf nt np mo gb wr nr su pr ob ki fi se nd ii rF rT rD M hM9 a x (wk1 M a x sp qu 32) ha9 wI_1 hx hb hml hown hts hK h0s hRm hcs  ?_ (32 + 1) 0 (by omega) (by omega) _ _ ls hP hS hl
  intro H locs ls hP hS hl
  exact W.vret hx hb hr (fun t9 ht hW => ⟨⟨(mW g w h rf nt np mo gb wr nr su pr ob ki fi se (tN M) nd ii ((wk3 M a (wk1 M a x sp qu 32) 32).1) ((wk3 M a (wk1 M a x sp qu 32) 32).2.1) rF rT rD), rfl, by rw [wkF], cB_of ht hP⟩, hS.F ht⟩) hS.2.2 dX4_walk_145

