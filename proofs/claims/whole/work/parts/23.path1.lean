/-! THE CLASS: a PATH counts its TIMES -/
abbrev aT : Type := (Nat → Nat) × (Nat → Int32)
/-- addTimes(x, y, V) -/
def adT (t : aT) (x y V : Nat) : aT := if V = 0 then t else (va_up t.1 (x * 32 + y) (min (t.1 (x * 32 + y) + V) 1000000), upd t.2 x (t.2 x ||| sh1 y))
theorem adT_B {t : aT} {x y V : Nat} (h : mB t.1) : mB (adT t x y V).1 := by
  unfold adT
  split
  · exact h
  · exact mB_up h
def fo1 (j : Nat → Int32) : Nat → Nat → Int32
  | 0 => j
  | k + 1 => upd (fo1 j k) k (nI 0)
termination_by k => k
def fo2 (F : Nat → Int32) : Nat → Nat → Int32
  | 0 => F
  | k + 1 => upd (fo2 F k) k (nI 0)
termination_by k => k
def ca2 (G : Nat → Nat) (x : Nat) (t : aT) : Nat → aT
  | 0 => t
  | y + 1 => adT (ca2 G x t y) x y (G (x * 32 + y))
termination_by y => y
def ca1 (G : Nat → Nat) (t : aT) : Nat → aT
  | 0 => t
  | x + 1 => ca2 G x (ca1 G t x) 32
termination_by x => x
def ct2 (G : Nat → Nat) (x : Nat) (t : aT) : Nat → aT
  | 0 => t
  | y + 1 => adT (ct2 G x t y) y x (G (x * 32 + y))
termination_by y => y
def ct1 (G : Nat → Nat) (t : aT) : Nat → aT
  | 0 => t
  | x + 1 => ct2 G x (ct1 G t x) 32
termination_by x => x
def ab1 (G : Nat → Nat) (x b z : Nat) (t : aT) : Nat → aT
  | 0 => t
  | y + 1 => adT (ab1 G x b z t y) x y (b * G (z * 32 + y))
termination_by y => y
theorem ca2_B {G : Nat → Nat} {x : Nat} {t : aT} (h : mB t.1) : ∀ y, mB (ca2 G x t y).1 := by
  intro y
  induction y with
  | zero => rw [ca2]; exact h
  | succ y ih => rw [ca2]; exact adT_B ih
theorem ca1_B {G : Nat → Nat} {t : aT} (h : mB t.1) : ∀ x, mB (ca1 G t x).1 := by
  intro x
  induction x with
  | zero => rw [ca1]; exact h
  | succ x ih => rw [ca1]; exact ca2_B ih 32
theorem ct2_B {G : Nat → Nat} {x : Nat} {t : aT} (h : mB t.1) : ∀ y, mB (ct2 G x t y).1 := by
  intro y
  induction y with
  | zero => rw [ct2]; exact h
  | succ y ih => rw [ct2]; exact adT_B ih
theorem ct1_B {G : Nat → Nat} {t : aT} (h : mB t.1) : ∀ x, mB (ct1 G t x).1 := by
  intro x
  induction x with
  | zero => rw [ct1]; exact h
  | succ x ih => rw [ct1]; exact ct2_B ih 32
theorem ab1_B {G : Nat → Nat} {x b z : Nat} {t : aT} (h : mB t.1) : ∀ y, mB (ab1 G x b z t y).1 := by
  intro y
  induction y with
  | zero => rw [ab1]; exact h
  | succ y ih => rw [ab1]; exact adT_B ih
theorem wb_tb (n : Nat) : (lN n).toBitVec = BitVec.ofNat 64 n := rfl
theorem wb_inj {a b : Int64} (h : a.toBitVec = b.toBitVec) : a = b := Int64.toBitVec_inj.mp h
theorem wb_tn {n : Nat} (h : n < 2 ^ 64) : (lN n).toBitVec.toNat = n := by rw [wb_tb, BitVec.toNat_ofNat, Nat.mod_eq_of_lt h]
theorem wb_of (x : Int64) : ∃ n, n < 2 ^ 64 ∧ x = lN n := ⟨x.toBitVec.toNat, x.toBitVec.isLt, wb_inj (by rw [wb_tb]; simp)⟩
theorem wb_of32 (x : Int32) : ∃ n, n < 2 ^ 32 ∧ x = nI n := ⟨x.toBitVec.toNat, x.toBitVec.isLt, Int32.toBitVec_inj.mp (by show _ = BitVec.ofNat 32 _; simp)⟩
theorem wb_c : ∀ k, k < 64 → ((nI k).toInt64 &&& 63) = lN k := by decide +kernel
theorem wb_cu : ∀ k, k < 64 → ((nI k).toInt64.toUInt64 &&& Int64.toUInt64 63) = UInt64.ofNat k := by decide +kernel
theorem wb_sm : ∀ k, k < 64 → (BitVec.ofNat 64 k).smod 64 = BitVec.ofNat 64 k := by decide +kernel
theorem wb_pw {a b : Nat} (h : a ≤ b) : 2 ^ b = 2 ^ a * 2 ^ (b - a) := by rw [← Nat.pow_add]; congr 1; omega
theorem wb_lt2 {a b : Nat} (h : a < b) : 2 ^ a < 2 ^ b := Nat.pow_lt_pow_right (by decide) h
theorem wb_mod (n : Nat) : lN n = lN (n % 2 ^ 64) := wb_inj (by rw [wb_tb, wb_tb]; apply BitVec.eq_of_toNat_eq; rw [BitVec.toNat_ofNat, BitVec.toNat_ofNat, Nat.mod_mod])
theorem wb_shr {n k : Nat} (hn : n < 2 ^ 64) (hk : k < 64) : ((lN n).toUInt64 >>> ((nI k).toInt64.toUInt64 &&& Int64.toUInt64 63)).toInt64 = lN (n / 2 ^ k) := by
  rw [wb_cu k hk]
  apply wb_inj
  apply BitVec.eq_of_toNat_eq
  show ((lN n).toUInt64 >>> UInt64.ofNat k).toNat = (BitVec.ofNat 64 _).toNat
  have h1 : (UInt64.ofNat k).toNat = k := by
    show (BitVec.ofNat 64 k).toNat = k
    rw [BitVec.toNat_ofNat, Nat.mod_eq_of_lt (by omega)]
  have h2 : (lN n).toUInt64.toNat = n := wb_tn hn
  rw [UInt64.toNat_shiftRight, h1, h2, Nat.mod_eq_of_lt hk, Nat.shiftRight_eq_div_pow, BitVec.toNat_ofNat, Nat.mod_eq_of_lt (Nat.lt_of_le_of_lt (Nat.div_le_self _ _) hn)]
theorem wb_shl (n : Nat) {k : Nat} (hk : k < 64) : lN n <<< ((nI k).toInt64 &&& 63) = lN (n * 2 ^ k) := by
  rw [wb_c k hk]
  apply wb_inj
  rw [Int64.toBitVec_shiftLeft, wb_tb, wb_tb, wb_tb, wb_sm k hk]
  apply BitVec.eq_of_toNat_eq
  rw [BitVec.shiftLeft_eq', BitVec.toNat_shiftLeft, BitVec.toNat_ofNat, BitVec.toNat_ofNat, BitVec.toNat_ofNat, Nat.mod_eq_of_lt (show k < 2 ^ 64 by omega), Nat.shiftLeft_eq, Nat.mul_mod, Nat.mod_mod, ← Nat.mul_mod]
theorem wb_and {a b : Nat} (ha : a < 2 ^ 64) (hb : b < 2 ^ 64) : lN a &&& lN b = lN (a &&& b) := by
  apply wb_inj
  rw [Int64.toBitVec_and, wb_tb, wb_tb, wb_tb]
  apply BitVec.eq_of_toNat_eq
  rw [BitVec.toNat_and, BitVec.toNat_ofNat, BitVec.toNat_ofNat, BitVec.toNat_ofNat, Nat.mod_eq_of_lt ha, Nat.mod_eq_of_lt hb, Nat.mod_eq_of_lt (Nat.and_lt_two_pow _ hb)]
theorem wb_or {a b : Nat} (ha : a < 2 ^ 64) (hb : b < 2 ^ 64) : lN a ||| lN b = lN (a ||| b) := by
  apply wb_inj
  rw [Int64.toBitVec_or, wb_tb, wb_tb, wb_tb]
  apply BitVec.eq_of_toNat_eq
  rw [BitVec.toNat_or, BitVec.toNat_ofNat, BitVec.toNat_ofNat, BitVec.toNat_ofNat, Nat.mod_eq_of_lt ha, Nat.mod_eq_of_lt hb, Nat.mod_eq_of_lt (Nat.or_lt_two_pow ha hb)]
theorem wb_mask {n k : Nat} (hn : n < 2 ^ 64) (hk : k < 64) : lN n &&& lN (2 ^ k - 1) = lN (n % 2 ^ k) := by
  rw [wb_and hn (by have := wb_lt2 hk; omega), Nat.and_two_pow_sub_one_eq_mod]
theorem wb_a1 {n : Nat} (hn : n < 2 ^ 64) : lN n &&& 1 = lN (n % 2) := wb_mask (k := 1) hn (by decide)
theorem wb_bit {n k : Nat} (hn : n < 2 ^ 64) (hk : k < 64) : ((lN n).toUInt64 >>> ((nI k).toInt64.toUInt64 &&& Int64.toUInt64 63)).toInt64 &&& 1 = lN (n / 2 ^ k % 2) := by
  rw [wb_shr hn hk, wb_a1 (Nat.lt_of_le_of_lt (Nat.div_le_self _ _) hn)]
theorem wb_xor {q k : Nat} (hk : k < 63) (h : 2 ^ k ≤ q) (h2 : q < 2 ^ (k + 1)) : lN q ^^^ lN (2 ^ k) = lN (q - 2 ^ k) := by
  obtain ⟨r, rfl⟩ : ∃ r, q = 2 ^ k + r := ⟨q - 2 ^ k, by omega⟩
  have hr : r < 2 ^ k := by rw [Nat.pow_succ] at h2; omega
  have hx : (2 ^ k + r) ^^^ 2 ^ k = r := by
    apply Nat.eq_of_testBit_eq
    intro i
    rw [Nat.testBit_xor, Nat.testBit_two_pow]
    rcases Nat.lt_trichotomy i k with h | h | h
    · rw [Nat.testBit_two_pow_add_gt h]
      simp [show ¬ k = i by omega]
    · subst h
      rw [Nat.testBit_two_pow_add_eq]
      simp
    · have a1 : 2 ^ (k + 1) ≤ 2 ^ i := Nat.pow_le_pow_right (by decide) h
      rw [Nat.testBit_lt_two_pow (show 2 ^ k + r < 2 ^ i by omega), Nat.testBit_lt_two_pow (show r < 2 ^ i by omega)]
      simp [show ¬ k = i by omega]
  have b1 := wb_lt2 (show k + 1 < 64 by omega)
  have b2 := wb_lt2 (show k < 64 by omega)
  apply wb_inj
  rw [Int64.toBitVec_xor, wb_tb, wb_tb, wb_tb]
  apply BitVec.eq_of_toNat_eq
  rw [BitVec.toNat_xor, BitVec.toNat_ofNat, BitVec.toNat_ofNat, BitVec.toNat_ofNat, Nat.mod_eq_of_lt (by omega : 2 ^ k + r < 2 ^ 64), Nat.mod_eq_of_lt b2, hx, Nat.add_sub_cancel_left, Nat.mod_eq_of_lt (by omega)]
set_option maxHeartbeats 4000000 in
set_option maxRecDepth 100000 in
theorem c_X0_addTimes (l : Launch) (g : gX) (s0 : Nat) (w : wd_M) (q : Nat) (hs0 : s0 ≤ q) (k : Int32) (kd : Int32) (li : Int32) (inn : Option Nat) (oth : Option Nat) (pa : Int64) (cs : Int32) (cg : Int32) (x y V : Nat) (hx1 : x < 32) (hy1 : y < 32) (hV : V < 2 ^ 63) (hV2 : V < 2 ^ 62) (t : aT) (hB : mB t.1) : Met l yX0_addTimes (Cond.code yX0_addTimes cX0_addTimes 8 (none) :: tg) ({ frames := 0, cells := 0, slots := 0, locals := 0 }) (cP g s0 (pW g w q k kd li inn oth pa cs cg (tN t.1) (t.2)) [.ref q, .int (nI x), .int (nI y), .long (lN V)]) (cV g s0 (fun w' => w' = (pW g w q k kd li inn oth pa cs cg (tN (adT t x y V).1) ((adT t x y V).2)))) 0 0 (cA s0) := by
  refine Met.ofW (cc := cX0_addTimes) (maxL := 8) (ret := none) (by decide) rfl ?_
  intro p e s m args below meth c s₁ B9 hml hv
  obtain ⟨rfl, h0s, hP, hK⟩ := hv
  have hx := B9.exec
  have hb := B9.bytes
  have hr := B9.returns
  have hts := atoms_spec (ws := Cond.code yX0_addTimes cX0_addTimes 8 (none) :: tg) B9.pre
  have hown : s.vm.findClass RX0 = some m.cls := findClass_of_methodNamed B9.named
  have hlocks := B9.notSynchronized
  have hS : gS s0 s.heap s.heap [] := va_S.rf
  have hRm : 0 ≤ (headSpec (Cond.code yX0_addTimes cX0_addTimes 8 (none) :: tg) ({ frames := 0, cells := 0, slots := 0, locals := 0 })).room.frames ∧ 0 ≤ (headSpec (Cond.code yX0_addTimes cX0_addTimes 8 (none) :: tg) ({ frames := 0, cells := 0, slots := 0, locals := 0 })).room.locals := ⟨Nat.le_refl _, Nat.le_refl _⟩
  have hcs : 0 + 0 ≤ (headSpec (Cond.code yX0_addTimes cX0_addTimes 8 (none) :: tg) ({ frames := 0, cells := 0, slots := 0, locals := 0 })).room.cells ∧ 0 + 0 ≤ (headSpec (Cond.code yX0_addTimes cX0_addTimes 8 (none) :: tg) ({ frames := 0, cells := 0, slots := 0, locals := 0 })).room.slots := ⟨Nat.zero_le _, Nat.zero_le _⟩
  have hl := lv_entry ([.ref q, .int (nI x), .int (nI y), .long (lN V)]) (n := 8) (Nat.le_of_ble_eq_true rfl)
  rw [lg_entry_eq]
  generalize (lg_sl ([.ref q, .int (nI x), .int (nI y), .long (lN V)]) ++ List.replicate (8 - (lg_sl ([.ref q, .int (nI x), .int (nI y), .long (lN V)])).length) Slot.unset).toArray = ls at hl ⊢
  have hl : lv_has ls 8 [(0, .ref q), (1, .int (nI x)), (2, .int (nI y)), (3, .long (lN V))] := hl
  refine lv_lload_n hx hb dX0_addTimes_0 rfl (lv_at hl 3 rfl) ?_
  refine lv_lconst (v := lN 0) hx hb dX0_addTimes_1 (by decide) ?_
  refine W.lcmp hx hb dX0_addTimes_2 ?_
  refine lv_if_le (tgt := 62) hx hb dX0_addTimes_3 (by decide) (fun c_3 => ?_) (fun c_3 => ?_)
  · have c_3 := lc_le.mp c_3
    exact W.vret hx hb hr (fun t9 ht hW => ⟨⟨(pW g w q k kd li inn oth pa cs cg (tN t.1) (t.2)), rfl, by rw [adT, if_pos (by have := (pk_lLE (a := V) (b := 0) hV (by decide)).mp c_3; omega)], cB_of ht hP⟩, hS.F ht⟩) hS.2.2 dX0_addTimes_62
  · have c_3 := mt lc_le.mpr c_3
    refine lv_iload_n hx hb dX0_addTimes_6 rfl (lv_at hl 1 rfl) ?_
    refine lv_bipush (v := nI 32) hx hb dX0_addTimes_7 (by decide) ?_
    refine lv_imul hx hb dX0_addTimes_9 ?_
    refine wd_ti (x' := nI (x * 32)) (pk_mul _ _) ?_
    refine lv_iload_n hx hb dX0_addTimes_10 rfl (lv_at hl 2 rfl) ?_
    refine lv_iadd hx hb dX0_addTimes_11 ?_
    refine wd_ti (x' := nI ((x * 32) + y)) (nI_add _ _) ?_
    refine lv_istore (lv' := [(5, .int (nI ((x * 32) + y))), (0, .ref q), (1, .int (nI x)), (2, .int (nI y)), (3, .long (lN V))]) hx hb dX0_addTimes_12 hl (by decide) rfl (fun ls hl => ?_)
    refine lv_aload_n hx hb dX0_addTimes_14 rfl (lv_at hl 1 rfl) ?_
    refine wd_get (ci := 1) (v := .ref (q + 1)) (C := RX0) (T := TX0) (N := 10) hx hb hts iwX0 hown hK.1 hP (pW_0) rfl 6 (by decide) (hts _ (tg_tail _ tw_129)) (fun _ h9 => h9) rfl dX0_addTimes_15 ?_
    refine lv_iload hx hb dX0_addTimes_18 (lv_at hl 0 rfl) ?_
    refine wd_ildN hx hb hK.1 hP 0 (k := ((x * 32) + y)) (pW_1) rfl (by omega) (by decide) dX0_addTimes_20 ?_
    refine wd_ti (x' := nI (t.1 (x * 32 + y))) (rfl) ?_
    refine lv_i2l (v := lN (t.1 (x * 32 + y))) hx hb dX0_addTimes_21 (nI_l (by have h9 : t.1 (x * 32 + y) ≤ 1000000 := hB _; omega)) ?_
    refine lv_lload_n hx hb dX0_addTimes_22 rfl (lv_at hl 4 rfl) ?_
    refine lv_ladd hx hb dX0_addTimes_23 ?_
    refine wd_tl (x' := lN (t.1 (x * 32 + y) + V)) (lN_add _ _) ?_
    refine lv_lstore (lv' := [(6, .long (lN (t.1 (x * 32 + y) + V))), (5, .int (nI ((x * 32) + y))), (0, .ref q), (1, .int (nI x)), (2, .int (nI y)), (3, .long (lN V))]) hx hb dX0_addTimes_24 hl (by decide) rfl (fun ls hl => ?_)
    refine lv_aload_n hx hb dX0_addTimes_26 rfl (lv_at hl 2 rfl) ?_
    refine wd_get (ci := 1) (v := .ref (q + 1)) (C := RX0) (T := TX0) (N := 10) hx hb hts iwX0 hown hK.1 hP (pW_0) rfl 6 (by decide) (hts _ (tg_tail _ tw_129)) (fun _ h9 => h9) rfl dX0_addTimes_27 ?_
    refine lv_iload hx hb dX0_addTimes_30 (lv_at hl 1 rfl) ?_
    refine lv_lload hx hb dX0_addTimes_32 (lv_at hl 0 rfl) ?_
    refine lv_ldc2 hx hb hown (hts _ (tg_tail _ tw_216)) dX0_addTimes_34 ?_
    refine wd_tl (x' := lN 1000000) (by decide +kernel) ?_
    refine W.lcmp hx hb dX0_addTimes_37 ?_
    refine lv_if_le (tgt := 46) hx hb dX0_addTimes_38 (by decide) (fun c_38 => ?_) (fun c_38 => ?_)
    · have c_38 := lc_le.mp c_38
      refine lv_lload hx hb dX0_addTimes_46 (lv_at hl 0 rfl) ?_
      refine lv_l2i (v := nI (min (t.1 (x * 32 + y) + V) 1000000)) hx hb dX0_addTimes_48 (by rw [Nat.min_eq_left (by have h9 : t.1 (x * 32 + y) ≤ 1000000 := hB _; exact (pk_lLE (a := (t.1 (x * 32 + y) + V)) (b := 1000000) (by omega) (by decide)).mp c_38)]; exact lN_i _) ?_
      refine wd_istN hx hb hK.1 hP hS (by omega) 0 (k := ((x * 32) + y)) (pW_1) rfl (by omega) (by decide) dX0_addTimes_49 (fun H locs hP hS hz => ?_)
      have hP : gP g (pW g w q k kd li inn oth pa cs cg (upd (tN t.1) ((x * 32) + y) (nI (min (t.1 (x * 32 + y) + V) 1000000))) (t.2)) H := by have h9 : gP g (wd_up (pW g w q k kd li inn oth pa cs cg (tN t.1) (t.2)) (q + 1) (wd_iA (g.2 0) 1024 (upd (tN t.1) ((x * 32) + y) (nI (min (t.1 (x * 32 + y) + V) 1000000))))) H := hP; rw [pW_s1] at h9; exact h9
      refine lv_aload_n hx hb dX0_addTimes_50 rfl (lv_at hl 2 rfl) ?_
      refine wd_get (ci := 1) (v := .ref (q + 2)) (C := RX0) (T := TX0) (N := 10) hx hb hts iwX0 hown hK.1 hP (pW_0) rfl 7 (by decide) (hts _ (tg_tail _ tw_130)) (fun _ h9 => h9) rfl dX0_addTimes_51 ?_
      refine lv_iload_n hx hb dX0_addTimes_54 rfl (lv_at hl 3 rfl) ?_
      refine lv_dup2_11 hx hb dX0_addTimes_55 rfl rfl ?_
      refine wd_ildN hx hb hK.1 hP 0 (k := x) (pW_2) rfl (by omega) (by decide) dX0_addTimes_56 ?_
      refine lv_iconst (v := 1) hx hb dX0_addTimes_57 (by decide) ?_
      refine lv_iload_n hx hb dX0_addTimes_58 rfl (lv_at hl 4 rfl) ?_
      refine lv_ishl hx hb dX0_addTimes_59 ?_
      refine lv_ior hx hb dX0_addTimes_60 ?_
      refine wd_istN hx hb hK.1 hP hS (by omega) 0 (k := x) (pW_2) rfl (by omega) (by decide) dX0_addTimes_61 (fun H locs hP hS hz => ?_)
      have hP : gP g (pW g w q k kd li inn oth pa cs cg (upd (tN t.1) ((x * 32) + y) (nI (min (t.1 (x * 32 + y) + V) 1000000))) (upd (t.2) x (((t.2) x) ||| ((1) <<< ((nI y) &&& 31))))) H := by have h9 : gP g (wd_up (pW g w q k kd li inn oth pa cs cg (upd (tN t.1) ((x * 32) + y) (nI (min (t.1 (x * 32 + y) + V) 1000000))) (t.2)) (q + 2) (wd_iA (g.2 0) 32 (upd (t.2) x (((t.2) x) ||| ((1) <<< ((nI y) &&& 31)))))) H := hP; rw [pW_s2] at h9; exact h9
      exact W.vret hx hb hr (fun t9 ht hW => ⟨⟨(pW g w q k kd li inn oth pa cs cg (upd (tN t.1) ((x * 32) + y) (nI (min (t.1 (x * 32 + y) + V) 1000000))) (upd (t.2) x (((t.2) x) ||| ((1) <<< ((nI y) &&& 31))))), rfl, by rw [adT, if_neg (by have := mt (pk_lLE hV (by decide)).mpr c_3; omega), ← tN_up], cB_of ht hP⟩, hS.F ht⟩) hS.2.2 dX0_addTimes_62
    · have c_38 := mt lc_le.mpr c_38
      refine lv_ldc hx hb hown (hts _ (tg_tail _ tw_217)) dX0_addTimes_41 ?_
      refine wd_ti (x' := nI (min (t.1 (x * 32 + y) + V) 1000000)) (by rw [Nat.min_eq_right (by have h9 : t.1 (x * 32 + y) ≤ 1000000 := hB _; have := mt (pk_lLE (a := (t.1 (x * 32 + y) + V)) (b := 1000000) (by omega) (by decide)).mpr c_38; omega)]; decide +kernel) ?_
      refine lv_goto (tgt := 49) hx hb dX0_addTimes_43 (by decide) ?_
      refine wd_istN hx hb hK.1 hP hS (by omega) 0 (k := ((x * 32) + y)) (pW_1) rfl (by omega) (by decide) dX0_addTimes_49 (fun H locs hP hS hz => ?_)
      have hP : gP g (pW g w q k kd li inn oth pa cs cg (upd (tN t.1) ((x * 32) + y) (nI (min (t.1 (x * 32 + y) + V) 1000000))) (t.2)) H := by have h9 : gP g (wd_up (pW g w q k kd li inn oth pa cs cg (tN t.1) (t.2)) (q + 1) (wd_iA (g.2 0) 1024 (upd (tN t.1) ((x * 32) + y) (nI (min (t.1 (x * 32 + y) + V) 1000000))))) H := hP; rw [pW_s1] at h9; exact h9
      refine lv_aload_n hx hb dX0_addTimes_50 rfl (lv_at hl 2 rfl) ?_
      refine wd_get (ci := 1) (v := .ref (q + 2)) (C := RX0) (T := TX0) (N := 10) hx hb hts iwX0 hown hK.1 hP (pW_0) rfl 7 (by decide) (hts _ (tg_tail _ tw_130)) (fun _ h9 => h9) rfl dX0_addTimes_51 ?_
      refine lv_iload_n hx hb dX0_addTimes_54 rfl (lv_at hl 3 rfl) ?_
      refine lv_dup2_11 hx hb dX0_addTimes_55 rfl rfl ?_
      refine wd_ildN hx hb hK.1 hP 0 (k := x) (pW_2) rfl (by omega) (by decide) dX0_addTimes_56 ?_
      refine lv_iconst (v := 1) hx hb dX0_addTimes_57 (by decide) ?_
      refine lv_iload_n hx hb dX0_addTimes_58 rfl (lv_at hl 4 rfl) ?_
      refine lv_ishl hx hb dX0_addTimes_59 ?_
      refine lv_ior hx hb dX0_addTimes_60 ?_
      refine wd_istN hx hb hK.1 hP hS (by omega) 0 (k := x) (pW_2) rfl (by omega) (by decide) dX0_addTimes_61 (fun H locs hP hS hz => ?_)
      have hP : gP g (pW g w q k kd li inn oth pa cs cg (upd (tN t.1) ((x * 32) + y) (nI (min (t.1 (x * 32 + y) + V) 1000000))) (upd (t.2) x (((t.2) x) ||| ((1) <<< ((nI y) &&& 31))))) H := by have h9 : gP g (wd_up (pW g w q k kd li inn oth pa cs cg (upd (tN t.1) ((x * 32) + y) (nI (min (t.1 (x * 32 + y) + V) 1000000))) (t.2)) (q + 2) (wd_iA (g.2 0) 32 (upd (t.2) x (((t.2) x) ||| ((1) <<< ((nI y) &&& 31)))))) H := hP; rw [pW_s2] at h9; exact h9
      exact W.vret hx hb hr (fun t9 ht hW => ⟨⟨(pW g w q k kd li inn oth pa cs cg (upd (tN t.1) ((x * 32) + y) (nI (min (t.1 (x * 32 + y) + V) 1000000))) (upd (t.2) x (((t.2) x) ||| ((1) <<< ((nI y) &&& 31))))), rfl, by rw [adT, if_neg (by have := mt (pk_lLE hV (by decide)).mpr c_3; omega), ← tN_up], cB_of ht hP⟩, hS.F ht⟩) hS.2.2 dX0_addTimes_62

theorem lm_0 {a : Nat} : lN (a % 2) = 0 ↔ a % 2 = 0 := by
  have h : lN 0 = (0 : Int64) := rfl
  rw [← h, pk_lEQ (by omega) (by decide)]
theorem lm_shr {a k : Nat} (ha : a < 2 ^ 63) (hk : k < 64) : ((lN a).toUInt64 >>> ((nI k).toInt64.toUInt64 &&& Int64.toUInt64 63)).toInt64 = lN (a / 2 ^ k) := wb_shr (by omega) hk
theorem lm_and {a k : Nat} (ha : a < 2 ^ 63) : lN (a / 2 ^ k) &&& 1 = lN (a / 2 ^ k % 2) := wb_a1 (Nat.lt_of_le_of_lt (Nat.div_le_self _ _) (by omega))
set_option maxHeartbeats 4000000 in
set_option maxRecDepth 100000 in
theorem c_X0_isMadeOf (l : Launch) (g : gX) (s0 : Nat) (w : wd_M) (q : Nat) (hs0 : s0 ≤ q) (k : Int32) (kd : Int32) (li : Int32) (inn : Option Nat) (oth : Option Nat) (cs : Int32) (cg : Int32) (f : Nat → Int32) (j : Nat → Int32) (n9 : Nat) (hn9 : n9 < 64) (pm : Nat) (hpm : pm < 2 ^ 63) : Met l yX0_isMadeOf (Cond.code yX0_isMadeOf cX0_isMadeOf 2 (some .boolean) :: tg) ({ frames := 0, cells := 0, slots := 0, locals := 0 }) (cP g s0 (pW g w q k kd li inn oth (lN pm) cs cg f j) [.ref q, .int (nI n9)]) (cI g s0 (fun r w' => r = zB (pm / 2 ^ n9 % 2 = 1) ∧ w' = (pW g w q k kd li inn oth (lN pm) cs cg f j))) 0 0 (cA s0) := by
  refine Met.ofW (cc := cX0_isMadeOf) (maxL := 2) (ret := some .boolean) (by decide) rfl ?_
  intro p e s m args below meth c s₁ B9 hml hv
  obtain ⟨rfl, h0s, hP, hK⟩ := hv
  have hx := B9.exec
  have hb := B9.bytes
  have hr := B9.returns
  have hts := atoms_spec (ws := Cond.code yX0_isMadeOf cX0_isMadeOf 2 (some .boolean) :: tg) B9.pre
  have hown : s.vm.findClass RX0 = some m.cls := findClass_of_methodNamed B9.named
  have hlocks := B9.notSynchronized
  have hS : gS s0 s.heap s.heap [] := va_S.rf
  have hRm : 0 ≤ (headSpec (Cond.code yX0_isMadeOf cX0_isMadeOf 2 (some .boolean) :: tg) ({ frames := 0, cells := 0, slots := 0, locals := 0 })).room.frames ∧ 0 ≤ (headSpec (Cond.code yX0_isMadeOf cX0_isMadeOf 2 (some .boolean) :: tg) ({ frames := 0, cells := 0, slots := 0, locals := 0 })).room.locals := ⟨Nat.le_refl _, Nat.le_refl _⟩
  have hcs : 0 + 0 ≤ (headSpec (Cond.code yX0_isMadeOf cX0_isMadeOf 2 (some .boolean) :: tg) ({ frames := 0, cells := 0, slots := 0, locals := 0 })).room.cells ∧ 0 + 0 ≤ (headSpec (Cond.code yX0_isMadeOf cX0_isMadeOf 2 (some .boolean) :: tg) ({ frames := 0, cells := 0, slots := 0, locals := 0 })).room.slots := ⟨Nat.zero_le _, Nat.zero_le _⟩
  have hl := lv_entry ([.ref q, .int (nI n9)]) (n := 2) (Nat.le_of_ble_eq_true rfl)
  rw [lg_entry_eq]
  generalize (lg_sl ([.ref q, .int (nI n9)]) ++ List.replicate (2 - (lg_sl ([.ref q, .int (nI n9)])).length) Slot.unset).toArray = ls at hl ⊢
  have hl : lv_has ls 2 [(0, .ref q), (1, .int (nI n9))] := hl
  refine lv_aload_n hx hb dX0_isMadeOf_0 rfl (lv_at hl 0 rfl) ?_
  refine wd_get (ci := 1) (v := .long (lN pm)) (C := RX0) (T := TX0) (N := 10) hx hb hts iwX0 hown hK.1 hP (pW_0) rfl 5 (by decide) (hts _ (tg_tail _ tw_128)) (fun _ h9 => h9) rfl dX0_isMadeOf_1 ?_
  refine lv_iload_n hx hb dX0_isMadeOf_4 rfl (lv_at hl 1 rfl) ?_
  refine lv_lushr (v := lN (pm / 2 ^ n9)) hx hb dX0_isMadeOf_5 (lm_shr hpm hn9) ?_
  refine lv_lconst (v := 1) hx hb dX0_isMadeOf_6 (by decide) ?_
  refine lv_land hx hb dX0_isMadeOf_7 ?_
  refine wd_tl (x' := lN (pm / 2 ^ n9 % 2)) (lm_and hpm) ?_
  refine lv_lconst (v := 0) hx hb dX0_isMadeOf_8 (by decide) ?_
  refine W.lcmp hx hb dX0_isMadeOf_9 ?_
  refine lv_if_eq (tgt := 17) hx hb dX0_isMadeOf_10 (by decide) (fun c_10 => ?_) (fun c_10 => ?_)
  · have c_10 := lc_eq.mp c_10
    refine lv_iconst (v := nI 0) hx hb dX0_isMadeOf_17 (by decide) ?_
    exact W.zret (ty := .boolean) (v := nI 0) hx hb hr (by rfl) (fun t9 ht hW => ⟨⟨_, (pW g w q k kd li inn oth (lN pm) cs cg f j), rfl, ⟨(zB_f (by have h8 := lm_0.mp c_10; omega)).symm, rfl⟩, cB_of ht hP⟩, hS.F ht⟩) hS.2.2 dX0_isMadeOf_18
  · have c_10 := mt lc_eq.mpr c_10
    refine lv_iconst (v := nI 1) hx hb dX0_isMadeOf_13 (by decide) ?_
    refine lv_goto (tgt := 18) hx hb dX0_isMadeOf_14 (by decide) ?_
    exact W.zret (ty := .boolean) (v := nI 1) hx hb hr (by rfl) (fun t9 ht hW => ⟨⟨_, (pW g w q k kd li inn oth (lN pm) cs cg f j), rfl, ⟨(zB_t (by have h8 := mt lm_0.mpr c_10; omega)).symm, rfl⟩, cB_of ht hP⟩, hS.F ht⟩) hS.2.2 dX0_isMadeOf_18

set_option maxHeartbeats 4000000 in
set_option maxRecDepth 100000 in
theorem lp_fo1 {p : Program} {l : Launch} {e : Env} {R : Room} {s : State} {m : MethodId} {args : Array Value} {below : List Frame} {meth : Method} {c : Code} {Q : State → Prop} {H0 : Heap} {cells slots : Nat} (g : gX) (s0 : Nat) (w : wd_M) (q : Nat) (hs0 : s0 ≤ q) (k : Int32) (kd : Int32) (li : Int32) (inn : Option Nat) (oth : Option Nat) (pa : Int64) (cs : Int32) (cg : Int32) (f : Nat → Int32) (j : Nat → Int32) (hx : p.tables.exec = Jvm.exec) (hb : c.code = cX0_forget) (hml : c.maxLocals = 2) (hown : s.vm.findClass RX0 = some m.cls) (hts : ∀ w ∈ Cond.code yX0_forget cX0_forget 2 (none) :: tg, w.before args s = true) (hK : gK g s) (h0s : s0 ≤ H0.size) (hRm : 0 ≤ R.frames ∧ 0 ≤ R.locals) (hcs : cells + 0 ≤ R.cells ∧ slots + 0 ≤ R.slots)  (kx : ∀ (H : Heap) (locs : List Loc) (ls : Array Slot), gP g (pW g w q k kd li inn oth pa cs cg f (fo1 j 32)) H → gS s0 H0 H locs → lv_has ls 2 [(0, .ref q)] → W p l e R s m args below meth c H locs cells slots Q (F0 m 21 ls [])) :
    ∀ (n i : Nat), i ≤ 32 → 32 + 1 ≤ i + n → ∀ (H : Heap) (locs : List Loc) (ls : Array Slot), gP g (pW g w q k kd li inn oth pa cs cg f (fo1 j i)) H → gS s0 H0 H locs → lv_has ls 2 [(0, .ref q), (1, .int (nI i))] → W p l e R s m args below meth c H locs cells slots Q (F0 m 2 ls []) := by
  intro n
  induction n with
  | zero =>
    intro i h1 h2
    exact absurd h2 (by omega)
  | succ n ih =>
    intro i hi hin H locs ls hP hS hl
    refine lv_iload_n hx hb dX0_forget_2 rfl (lv_at hl 1 rfl) ?_
    refine lv_bipush (v := nI 32) hx hb dX0_forget_3 (by decide) ?_
    refine lv_icmp_ge (tgt := 21) hx hb dX0_forget_5 (by decide) (fun c_5 => ?_) (fun c_5 => ?_)
    · have c_5 := (nI_leI (a := 32) (b := i) (by omega) (by omega)).mp c_5
      have e9 : i = 32 := by omega
      try rw [e9] at hP
      try rw [e9] at hl
      exact kx H locs ls hP hS (lv_sub hl [0] rfl)
    · have c_5 := mt (nI_leI (a := 32) (b := i) (by omega) (by omega)).mpr c_5
      refine lv_aload_n hx hb dX0_forget_8 rfl (lv_at hl 0 rfl) ?_
      refine wd_get (ci := 1) (v := .ref (q + 2)) (C := RX0) (T := TX0) (N := 10) hx hb hts iwX0 hown hK.1 hP (pW_0) rfl 7 (by decide) (hts _ (tg_tail _ tw_130)) (fun _ h9 => h9) rfl dX0_forget_9 ?_
      refine lv_iload_n hx hb dX0_forget_12 rfl (lv_at hl 1 rfl) ?_
      refine lv_iconst (v := nI 0) hx hb dX0_forget_13 (by decide) ?_
      refine wd_istN hx hb hK.1 hP hS (by omega) 0 (k := i) (pW_2) rfl (by omega) (by decide) dX0_forget_14 (fun H locs hP hS hz => ?_)
      have hP : gP g (pW g w q k kd li inn oth pa cs cg f (upd (fo1 j i) i (nI 0))) H := by have h9 : gP g (wd_up (pW g w q k kd li inn oth pa cs cg f (fo1 j i)) (q + 2) (wd_iA (g.2 0) 32 (upd (fo1 j i) i (nI 0)))) H := hP; rw [pW_s2] at h9; exact h9
      refine lv_iinc (v := nI (i + 1)) (lv' := [(1, .int (nI (i + 1))), (0, .ref q)]) hx hb dX0_forget_15 hl (k := 1) rfl (nI_1 _) (by decide) rfl (fun ls hl => ?_)
      refine lv_goto (tgt := 2) hx hb dX0_forget_18 (by decide) ?_
      have e8 : (pW g w q k kd li inn oth pa cs cg f (upd (fo1 j i) i (nI 0))) = (pW g w q k kd li inn oth pa cs cg f (fo1 j (i + 1))) := by rw [fo1]
      rw [e8] at hP
      have hl : lv_has ls 2 [(0, .ref q), (1, .int (nI (i + 1)))] := lv_sub hl [1, 0] rfl
      exact ih (i + 1) (by omega) (by omega) _ _ ls hP hS hl

set_option maxHeartbeats 4000000 in
set_option maxRecDepth 100000 in
theorem lp_fo2 {p : Program} {l : Launch} {e : Env} {R : Room} {s : State} {m : MethodId} {args : Array Value} {below : List Frame} {meth : Method} {c : Code} {Q : State → Prop} {H0 : Heap} {cells slots : Nat} (g : gX) (s0 : Nat) (w : wd_M) (q : Nat) (hs0 : s0 ≤ q) (k : Int32) (kd : Int32) (li : Int32) (inn : Option Nat) (oth : Option Nat) (pa : Int64) (cs : Int32) (cg : Int32) (f : Nat → Int32) (j : Nat → Int32) (hx : p.tables.exec = Jvm.exec) (hb : c.code = cX0_forget) (hml : c.maxLocals = 2) (hown : s.vm.findClass RX0 = some m.cls) (hts : ∀ w ∈ Cond.code yX0_forget cX0_forget 2 (none) :: tg, w.before args s = true) (hK : gK g s) (h0s : s0 ≤ H0.size) (hRm : 0 ≤ R.frames ∧ 0 ≤ R.locals) (hcs : cells + 0 ≤ R.cells ∧ slots + 0 ≤ R.slots)  (kx : ∀ (H : Heap) (locs : List Loc) (ls : Array Slot), gP g (pW g w q k kd li inn oth pa cs cg (fo2 f 1024) j) H → gS s0 H0 H locs → lv_has ls 2 [(0, .ref q)] → W p l e R s m args below meth c H locs cells slots Q (F0 m 43 ls [])) :
    ∀ (n i : Nat), i ≤ 1024 → 1024 + 1 ≤ i + n → ∀ (H : Heap) (locs : List Loc) (ls : Array Slot), gP g (pW g w q k kd li inn oth pa cs cg (fo2 f i) j) H → gS s0 H0 H locs → lv_has ls 2 [(0, .ref q), (1, .int (nI i))] → W p l e R s m args below meth c H locs cells slots Q (F0 m 23 ls []) := by
  intro n
  induction n with
  | zero =>
    intro i h1 h2
    exact absurd h2 (by omega)
  | succ n ih =>
    intro i hi hin H locs ls hP hS hl
    refine lv_iload_n hx hb dX0_forget_23 rfl (lv_at hl 1 rfl) ?_
    refine lv_sipush (v := nI 1024) hx hb dX0_forget_24 (by decide +kernel) ?_
    refine lv_icmp_ge (tgt := 43) hx hb dX0_forget_27 (by decide) (fun c_27 => ?_) (fun c_27 => ?_)
    · have c_27 := (nI_leI (a := 1024) (b := i) (by omega) (by omega)).mp c_27
      have e9 : i = 1024 := by omega
      try rw [e9] at hP
      try rw [e9] at hl
      exact kx H locs ls hP hS (lv_sub hl [0] rfl)
    · have c_27 := mt (nI_leI (a := 1024) (b := i) (by omega) (by omega)).mpr c_27
      refine lv_aload_n hx hb dX0_forget_30 rfl (lv_at hl 0 rfl) ?_
      refine wd_get (ci := 1) (v := .ref (q + 1)) (C := RX0) (T := TX0) (N := 10) hx hb hts iwX0 hown hK.1 hP (pW_0) rfl 6 (by decide) (hts _ (tg_tail _ tw_129)) (fun _ h9 => h9) rfl dX0_forget_31 ?_
      refine lv_iload_n hx hb dX0_forget_34 rfl (lv_at hl 1 rfl) ?_
      refine lv_iconst (v := nI 0) hx hb dX0_forget_35 (by decide) ?_
      refine wd_istN hx hb hK.1 hP hS (by omega) 0 (k := i) (pW_1) rfl (by omega) (by decide) dX0_forget_36 (fun H locs hP hS hz => ?_)
      have hP : gP g (pW g w q k kd li inn oth pa cs cg (upd (fo2 f i) i (nI 0)) j) H := by have h9 : gP g (wd_up (pW g w q k kd li inn oth pa cs cg (fo2 f i) j) (q + 1) (wd_iA (g.2 0) 1024 (upd (fo2 f i) i (nI 0)))) H := hP; rw [pW_s1] at h9; exact h9
      refine lv_iinc (v := nI (i + 1)) (lv' := [(1, .int (nI (i + 1))), (0, .ref q)]) hx hb dX0_forget_37 hl (k := 1) rfl (nI_1 _) (by decide) rfl (fun ls hl => ?_)
      refine lv_goto (tgt := 23) hx hb dX0_forget_40 (by decide) ?_
      have e8 : (pW g w q k kd li inn oth pa cs cg (upd (fo2 f i) i (nI 0)) j) = (pW g w q k kd li inn oth pa cs cg (fo2 f (i + 1)) j) := by rw [fo2]
      rw [e8] at hP
      have hl : lv_has ls 2 [(0, .ref q), (1, .int (nI (i + 1)))] := lv_sub hl [1, 0] rfl
      exact ih (i + 1) (by omega) (by omega) _ _ ls hP hS hl

set_option maxHeartbeats 4000000 in
set_option maxRecDepth 100000 in
theorem c_X0_forget (l : Launch) (g : gX) (s0 : Nat) (w : wd_M) (q : Nat) (hs0 : s0 ≤ q) (k : Int32) (kd : Int32) (li : Int32) (inn : Option Nat) (oth : Option Nat) (pa : Int64) (cs : Int32) (cg : Int32) (f : Nat → Int32) (j : Nat → Int32)  : Met l yX0_forget (Cond.code yX0_forget cX0_forget 2 (none) :: tg) ({ frames := 0, cells := 0, slots := 0, locals := 0 }) (cP g s0 (pW g w q k kd li inn oth pa cs cg f j) [.ref q]) (cV g s0 (fun w' => w' = (pW g w q k kd li inn oth pa cs cg (fo2 f 1024) (fo1 j 32)))) 0 0 (cA s0) := by
  refine Met.ofW (cc := cX0_forget) (maxL := 2) (ret := none) (by decide) rfl ?_
  intro p e s m args below meth c s₁ B9 hml hv
  obtain ⟨rfl, h0s, hP, hK⟩ := hv
  have hx := B9.exec
  have hb := B9.bytes
  have hr := B9.returns
  have hts := atoms_spec (ws := Cond.code yX0_forget cX0_forget 2 (none) :: tg) B9.pre
  have hown : s.vm.findClass RX0 = some m.cls := findClass_of_methodNamed B9.named
  have hlocks := B9.notSynchronized
  have hS : gS s0 s.heap s.heap [] := va_S.rf
  have hRm : 0 ≤ (headSpec (Cond.code yX0_forget cX0_forget 2 (none) :: tg) ({ frames := 0, cells := 0, slots := 0, locals := 0 })).room.frames ∧ 0 ≤ (headSpec (Cond.code yX0_forget cX0_forget 2 (none) :: tg) ({ frames := 0, cells := 0, slots := 0, locals := 0 })).room.locals := ⟨Nat.le_refl _, Nat.le_refl _⟩
  have hcs : 0 + 0 ≤ (headSpec (Cond.code yX0_forget cX0_forget 2 (none) :: tg) ({ frames := 0, cells := 0, slots := 0, locals := 0 })).room.cells ∧ 0 + 0 ≤ (headSpec (Cond.code yX0_forget cX0_forget 2 (none) :: tg) ({ frames := 0, cells := 0, slots := 0, locals := 0 })).room.slots := ⟨Nat.zero_le _, Nat.zero_le _⟩
  have hl := lv_entry ([.ref q]) (n := 2) (Nat.le_of_ble_eq_true rfl)
  rw [lg_entry_eq]
  generalize (lg_sl ([.ref q]) ++ List.replicate (2 - (lg_sl ([.ref q])).length) Slot.unset).toArray = ls at hl ⊢
  have hl : lv_has ls 2 [(0, .ref q)] := hl
  refine lv_iconst (v := nI 0) hx hb dX0_forget_0 (by decide) ?_
  refine lv_istore_n (lv' := [(1, .int (nI 0)), (0, .ref q)]) hx hb dX0_forget_1 rfl hl (by decide) rfl (fun ls hl => ?_)
  have e8 : (pW g w q k kd li inn oth pa cs cg f j) = (pW g w q k kd li inn oth pa cs cg f (fo1 j 0)) := by rw [fo1]
  rw [e8] at hP
  have hl : lv_has ls 2 [(0, .ref q), (1, .int (nI 0))] := lv_sub hl [1, 0] rfl
  refine lp_fo1 g s0 w q hs0 k kd li inn oth pa cs cg f j hx hb hml hown hts hK h0s hRm hcs  ?_ (32 + 1) 0 (by omega) (by omega) _ _ ls hP hS hl
  intro H locs ls hP hS hl
  refine lv_iconst (v := nI 0) hx hb dX0_forget_21 (by decide) ?_
  refine lv_istore_n (lv' := [(1, .int (nI 0)), (0, .ref q)]) hx hb dX0_forget_22 rfl hl (by decide) rfl (fun ls hl => ?_)
  have e8 : (pW g w q k kd li inn oth pa cs cg f (fo1 j 32)) = (pW g w q k kd li inn oth pa cs cg (fo2 f 0) (fo1 j 32)) := by rw [fo2]
  rw [e8] at hP
  have hl : lv_has ls 2 [(0, .ref q), (1, .int (nI 0))] := lv_sub hl [1, 0] rfl
  refine lp_fo2 g s0 w q hs0 k kd li inn oth pa cs cg f (fo1 j 32) hx hb hml hown hts hK h0s hRm hcs  ?_ (1024 + 1) 0 (by omega) (by omega) _ _ ls hP hS hl
  intro H locs ls hP hS hl
  exact W.vret hx hb hr (fun t9 ht hW => ⟨⟨(pW g w q k kd li inn oth pa cs cg (fo2 f 1024) (fo1 j 32)), rfl, rfl, cB_of ht hP⟩, hS.F ht⟩) hS.2.2 dX0_forget_43

set_option maxHeartbeats 4000000 in
set_option maxRecDepth 100000 in
theorem lp_ca2 {p : Program} {l : Launch} {e : Env} {R : Room} {s : State} {m : MethodId} {args : Array Value} {below : List Frame} {meth : Method} {c : Code} {Q : State → Prop} {H0 : Heap} {cells slots : Nat} (g : gX) (s0 : Nat) (w : wd_M) (q : Nat) (hs0 : s0 ≤ q) (k : Int32) (kd : Int32) (li : Int32) (inn : Option Nat) (oth : Option Nat) (pa : Int64) (cs : Int32) (cg : Int32) (x : Nat) (hx1 : x < 32) (t : aT) (hB : mB t.1) (q2 : Nat) (k2 kd2 li2 : Int32) (inn2 oth2 : Option Nat) (pa2 : Int64) (cs2 cg2 : Int32) (G : Nat → Nat) (h29 : mB G) (L2 : w q2 = some (pO k2 kd2 li2 inn2 oth2 pa2 (q2 + 1) (q2 + 2) cs2 cg2)) (L2t : w (q2 + 1) = some (wd_iA (g.2 0) 1024 (tN G))) (hne2 : q2 + 3 ≤ q ∨ q + 3 ≤ q2) (hx : p.tables.exec = Jvm.exec) (hb : c.code = cX0_countAll) (hml : c.maxLocals = 4) (hown : s.vm.findClass RX0 = some m.cls) (hts : ∀ w ∈ Cond.code yX0_countAll cX0_countAll 4 (none) :: tg, w.before args s = true) (hK : gK g s) (h0s : s0 ≤ H0.size) (hRm : 2 ≤ R.frames ∧ 42 ≤ R.locals) (hcs : cells + 0 ≤ R.cells ∧ slots + 0 ≤ R.slots)  (kx : ∀ (H : Heap) (locs : List Loc) (ls : Array Slot), gP g (pW g w q k kd li inn oth pa cs cg (tN (ca2 G x t 32).1) ((ca2 G x t 32).2)) H → gS s0 H0 H locs → lv_has ls 4 [(0, .ref q), (1, .ref q2), (2, .int (nI x))] → W p l e R s m args below meth c H locs cells slots Q (F0 m 35 ls [])) :
    ∀ (n y : Nat), y ≤ 32 → 32 + 1 ≤ y + n → ∀ (H : Heap) (locs : List Loc) (ls : Array Slot), gP g (pW g w q k kd li inn oth pa cs cg (tN (ca2 G x t y).1) ((ca2 G x t y).2)) H → gS s0 H0 H locs → lv_has ls 4 [(0, .ref q), (1, .ref q2), (2, .int (nI x)), (3, .int (nI y))] → W p l e R s m args below meth c H locs cells slots Q (F0 m 10 ls []) := by
  intro n
  induction n with
  | zero =>
    intro y h1 h2
    exact absurd h2 (by omega)
  | succ n ih =>
    intro y hi hin H locs ls hP hS hl
    refine lv_iload_n hx hb dX0_countAll_10 rfl (lv_at hl 3 rfl) ?_
    refine lv_bipush (v := nI 32) hx hb dX0_countAll_11 (by decide) ?_
    refine lv_icmp_ge (tgt := 35) hx hb dX0_countAll_13 (by decide) (fun c_13 => ?_) (fun c_13 => ?_)
    · have c_13 := (nI_leI (a := 32) (b := y) (by omega) (by omega)).mp c_13
      have e9 : y = 32 := by omega
      try rw [e9] at hP
      try rw [e9] at hl
      exact kx H locs ls hP hS (lv_sub hl [0, 1, 2] rfl)
    · have c_13 := mt (nI_leI (a := 32) (b := y) (by omega) (by omega)).mpr c_13
      refine lv_aload_n hx hb dX0_countAll_16 rfl (lv_at hl 0 rfl) ?_
      refine lv_iload_n hx hb dX0_countAll_17 rfl (lv_at hl 2 rfl) ?_
      refine lv_iload_n hx hb dX0_countAll_18 rfl (lv_at hl 3 rfl) ?_
      refine lv_aload_n hx hb dX0_countAll_19 rfl (lv_at hl 1 rfl) ?_
      refine lv_iload_n hx hb dX0_countAll_20 rfl (lv_at hl 2 rfl) ?_
      refine lv_iload_n hx hb dX0_countAll_21 rfl (lv_at hl 3 rfl) ?_
      refine cr_Vi (As := [.int (nI x), .int (nI y)]) (rest := [.int (nI y), .int (nI x), .ref q]) ⟨hx, hb, hml, hown, hts⟩ (c_X0_timesOf l g s0 (pW g w q k kd li inn oth pa cs cg (tN (ca2 G x t y).1) ((ca2 G x t y).2)) q2 (q2 + 1) (q2 + 2) k2 kd2 li2 inn2 oth2 pa2 cs2 cg2 ((pW_out (by omega)).trans L2) (tN G) ((pW_out (by omega)).trans L2t) x y (by omega) (by omega)) (cw_V 2 hts tg_tail tw_226 tw_227 tw_228 tw_5 tw_229 rfl rfl (by decide +kernel) ⟨Nat.le_trans (by decide) hRm.1, Nat.le_trans (by decide) hRm.2⟩) hK hP h0s hS ((pW_out (by omega)).trans L2) rfl rfl rfl hl.1 rfl (Nat.le_of_ble_eq_true rfl) dX0_countAll_22 hcs (fun r9 w9 H locs hw hP hS => ?_)
      obtain ⟨e_r9, hw9⟩ := hw
      rw [hw9] at hP
      subst e_r9
      refine wd_ti (x' := nI (G (x * 32 + y))) (rfl) ?_
      refine lv_i2l (v := lN (G (x * 32 + y))) hx hb dX0_countAll_25 (nI_l (by have h9 : G (x * 32 + y) ≤ 1000000 := h29 _; omega)) ?_
      refine cr_Vv (As := [.int (nI x), .int (nI y), .long (lN (G (x * 32 + y)))]) (rest := []) ⟨hx, hb, hml, hown, hts⟩ (c_X0_addTimes l g s0  w q hs0 k kd li inn oth pa cs cg x y (G (x * 32 + y)) (by omega) (by omega) (by have h9 : G (x * 32 + y) ≤ 1000000 := h29 _; omega) (by have h9 : G (x * 32 + y) ≤ 1000000 := h29 _; omega) (ca2 G x t y) (ca2_B hB y)) (cw_V 3 hts tg_tail tw_212 tw_214 tp_7 tw_5 tw_215 rfl rfl (by decide +kernel) ⟨Nat.le_trans (by decide) hRm.1, Nat.le_trans (by decide) hRm.2⟩) hK hP h0s hS (pW_0) rfl rfl rfl hl.1 rfl (Nat.le_of_ble_eq_true rfl) dX0_countAll_26 hcs (fun w9 H locs hw hP hS => ?_)
      rw [hw] at hP
      refine lv_iinc (v := nI (y + 1)) (lv' := [(3, .int (nI (y + 1))), (0, .ref q), (1, .ref q2), (2, .int (nI x))]) hx hb dX0_countAll_29 hl (k := 3) rfl (nI_1 _) (by decide) rfl (fun ls hl => ?_)
      refine lv_goto (tgt := 10) hx hb dX0_countAll_32 (by decide) ?_
      have e8 : (pW g w q k kd li inn oth pa cs cg (tN (adT (ca2 G x t y) x y (G (x * 32 + y))).1) ((adT (ca2 G x t y) x y (G (x * 32 + y))).2)) = (pW g w q k kd li inn oth pa cs cg (tN (ca2 G x t (y + 1)).1) ((ca2 G x t (y + 1)).2)) := by rw [ca2]
      rw [e8] at hP
      have hl : lv_has ls 4 [(0, .ref q), (1, .ref q2), (2, .int (nI x)), (3, .int (nI (y + 1)))] := lv_sub hl [1, 2, 3, 0] rfl
      exact ih (y + 1) (by omega) (by omega) _ _ ls hP hS hl

set_option maxHeartbeats 4000000 in
set_option maxRecDepth 100000 in
theorem lp_ca1 {p : Program} {l : Launch} {e : Env} {R : Room} {s : State} {m : MethodId} {args : Array Value} {below : List Frame} {meth : Method} {c : Code} {Q : State → Prop} {H0 : Heap} {cells slots : Nat} (g : gX) (s0 : Nat) (w : wd_M) (q : Nat) (hs0 : s0 ≤ q) (k : Int32) (kd : Int32) (li : Int32) (inn : Option Nat) (oth : Option Nat) (pa : Int64) (cs : Int32) (cg : Int32) (t : aT) (hB : mB t.1) (q2 : Nat) (k2 kd2 li2 : Int32) (inn2 oth2 : Option Nat) (pa2 : Int64) (cs2 cg2 : Int32) (G : Nat → Nat) (h29 : mB G) (L2 : w q2 = some (pO k2 kd2 li2 inn2 oth2 pa2 (q2 + 1) (q2 + 2) cs2 cg2)) (L2t : w (q2 + 1) = some (wd_iA (g.2 0) 1024 (tN G))) (hne2 : q2 + 3 ≤ q ∨ q + 3 ≤ q2) (hx : p.tables.exec = Jvm.exec) (hb : c.code = cX0_countAll) (hml : c.maxLocals = 4) (hown : s.vm.findClass RX0 = some m.cls) (hts : ∀ w ∈ Cond.code yX0_countAll cX0_countAll 4 (none) :: tg, w.before args s = true) (hK : gK g s) (h0s : s0 ≤ H0.size) (hRm : 2 ≤ R.frames ∧ 42 ≤ R.locals) (hcs : cells + 0 ≤ R.cells ∧ slots + 0 ≤ R.slots)  (kx : ∀ (H : Heap) (locs : List Loc) (ls : Array Slot), gP g (pW g w q k kd li inn oth pa cs cg (tN (ca1 G t 32).1) ((ca1 G t 32).2)) H → gS s0 H0 H locs → lv_has ls 4 [(0, .ref q)] → W p l e R s m args below meth c H locs cells slots Q (F0 m 41 ls [])) :
    ∀ (n x : Nat), x ≤ 32 → 32 + 1 ≤ x + n → ∀ (H : Heap) (locs : List Loc) (ls : Array Slot), gP g (pW g w q k kd li inn oth pa cs cg (tN (ca1 G t x).1) ((ca1 G t x).2)) H → gS s0 H0 H locs → lv_has ls 4 [(0, .ref q), (1, .ref q2), (2, .int (nI x))] → W p l e R s m args below meth c H locs cells slots Q (F0 m 2 ls []) := by
  intro n
  induction n with
  | zero =>
    intro x h1 h2
    exact absurd h2 (by omega)
  | succ n ih =>
    intro x hi hin H locs ls hP hS hl
    refine lv_iload_n hx hb dX0_countAll_2 rfl (lv_at hl 2 rfl) ?_
    refine lv_bipush (v := nI 32) hx hb dX0_countAll_3 (by decide) ?_
    refine lv_icmp_ge (tgt := 41) hx hb dX0_countAll_5 (by decide) (fun c_5 => ?_) (fun c_5 => ?_)
    · have c_5 := (nI_leI (a := 32) (b := x) (by omega) (by omega)).mp c_5
      have e9 : x = 32 := by omega
      try rw [e9] at hP
      try rw [e9] at hl
      exact kx H locs ls hP hS (lv_sub hl [0] rfl)
    · have c_5 := mt (nI_leI (a := 32) (b := x) (by omega) (by omega)).mpr c_5
      refine lv_iconst (v := nI 0) hx hb dX0_countAll_8 (by decide) ?_
      refine lv_istore_n (lv' := [(3, .int (nI 0)), (0, .ref q), (1, .ref q2), (2, .int (nI x))]) hx hb dX0_countAll_9 rfl hl (by decide) rfl (fun ls hl => ?_)
      have e8 : (pW g w q k kd li inn oth pa cs cg (tN (ca1 G t x).1) ((ca1 G t x).2)) = (pW g w q k kd li inn oth pa cs cg (tN (ca2 G x ((ca1 G t x)) 0).1) ((ca2 G x ((ca1 G t x)) 0).2)) := by rw [ca2]
      rw [e8] at hP
      have hl : lv_has ls 4 [(0, .ref q), (1, .ref q2), (2, .int (nI x)), (3, .int (nI 0))] := lv_sub hl [1, 2, 3, 0] rfl
      refine lp_ca2 g s0 w q hs0 k kd li inn oth pa cs cg x (by omega) (ca1 G t x) (ca1_B hB x) q2 k2 kd2 li2 inn2 oth2 pa2 cs2 cg2 G h29 L2 L2t hne2 hx hb hml hown hts hK h0s hRm hcs  ?_ (32 + 1) 0 (by omega) (by omega) _ _ ls hP hS hl
      intro H locs ls hP hS hl
      refine lv_iinc (v := nI (x + 1)) (lv' := [(2, .int (nI (x + 1))), (0, .ref q), (1, .ref q2)]) hx hb dX0_countAll_35 hl (k := 2) rfl (nI_1 _) (by decide) rfl (fun ls hl => ?_)
      refine lv_goto (tgt := 2) hx hb dX0_countAll_38 (by decide) ?_
      have e8 : (pW g w q k kd li inn oth pa cs cg (tN (ca2 G x ((ca1 G t x)) 32).1) ((ca2 G x ((ca1 G t x)) 32).2)) = (pW g w q k kd li inn oth pa cs cg (tN (ca1 G t (x + 1)).1) ((ca1 G t (x + 1)).2)) := by rw [ca1]
      rw [e8] at hP
      have hl : lv_has ls 4 [(0, .ref q), (1, .ref q2), (2, .int (nI (x + 1)))] := lv_sub hl [1, 2, 0] rfl
      exact ih (x + 1) (by omega) (by omega) _ _ ls hP hS hl

set_option maxHeartbeats 4000000 in
set_option maxRecDepth 100000 in
theorem c_X0_countAll (l : Launch) (g : gX) (s0 : Nat) (w : wd_M) (q : Nat) (hs0 : s0 ≤ q) (k : Int32) (kd : Int32) (li : Int32) (inn : Option Nat) (oth : Option Nat) (pa : Int64) (cs : Int32) (cg : Int32) (t : aT) (hB : mB t.1) (q2 : Nat) (k2 kd2 li2 : Int32) (inn2 oth2 : Option Nat) (pa2 : Int64) (cs2 cg2 : Int32) (G : Nat → Nat) (h29 : mB G) (L2 : w q2 = some (pO k2 kd2 li2 inn2 oth2 pa2 (q2 + 1) (q2 + 2) cs2 cg2)) (L2t : w (q2 + 1) = some (wd_iA (g.2 0) 1024 (tN G))) (hne2 : q2 + 3 ≤ q ∨ q + 3 ≤ q2) : Met l yX0_countAll (Cond.code yX0_countAll cX0_countAll 4 (none) :: tg) ({ frames := 2, cells := 0, slots := 0, locals := 42 }) (cP g s0 (pW g w q k kd li inn oth pa cs cg (tN t.1) (t.2)) [.ref q, .ref q2]) (cV g s0 (fun w' => w' = (pW g w q k kd li inn oth pa cs cg (tN (ca1 G t 32).1) ((ca1 G t 32).2)))) 0 0 (cA s0) := by
  refine Met.ofW (cc := cX0_countAll) (maxL := 4) (ret := none) (by decide) rfl ?_
  intro p e s m args below meth c s₁ B9 hml hv
  obtain ⟨rfl, h0s, hP, hK⟩ := hv
  have hx := B9.exec
  have hb := B9.bytes
  have hr := B9.returns
  have hts := atoms_spec (ws := Cond.code yX0_countAll cX0_countAll 4 (none) :: tg) B9.pre
  have hown : s.vm.findClass RX0 = some m.cls := findClass_of_methodNamed B9.named
  have hlocks := B9.notSynchronized
  have hS : gS s0 s.heap s.heap [] := va_S.rf
  have hRm : 2 ≤ (headSpec (Cond.code yX0_countAll cX0_countAll 4 (none) :: tg) ({ frames := 2, cells := 0, slots := 0, locals := 42 })).room.frames ∧ 42 ≤ (headSpec (Cond.code yX0_countAll cX0_countAll 4 (none) :: tg) ({ frames := 2, cells := 0, slots := 0, locals := 42 })).room.locals := ⟨Nat.le_refl _, Nat.le_refl _⟩
  have hcs : 0 + 0 ≤ (headSpec (Cond.code yX0_countAll cX0_countAll 4 (none) :: tg) ({ frames := 2, cells := 0, slots := 0, locals := 42 })).room.cells ∧ 0 + 0 ≤ (headSpec (Cond.code yX0_countAll cX0_countAll 4 (none) :: tg) ({ frames := 2, cells := 0, slots := 0, locals := 42 })).room.slots := ⟨Nat.zero_le _, Nat.zero_le _⟩
  have hl := lv_entry ([.ref q, .ref q2]) (n := 4) (Nat.le_of_ble_eq_true rfl)
  rw [lg_entry_eq]
  generalize (lg_sl ([.ref q, .ref q2]) ++ List.replicate (4 - (lg_sl ([.ref q, .ref q2])).length) Slot.unset).toArray = ls at hl ⊢
  have hl : lv_has ls 4 [(0, .ref q), (1, .ref q2)] := hl
  refine lv_iconst (v := nI 0) hx hb dX0_countAll_0 (by decide) ?_
  refine lv_istore_n (lv' := [(2, .int (nI 0)), (0, .ref q), (1, .ref q2)]) hx hb dX0_countAll_1 rfl hl (by decide) rfl (fun ls hl => ?_)
  have e8 : (pW g w q k kd li inn oth pa cs cg (tN t.1) (t.2)) = (pW g w q k kd li inn oth pa cs cg (tN (ca1 G t 0).1) ((ca1 G t 0).2)) := by rw [ca1]
  rw [e8] at hP
  have hl : lv_has ls 4 [(0, .ref q), (1, .ref q2), (2, .int (nI 0))] := lv_sub hl [1, 2, 0] rfl
  refine lp_ca1 g s0 w q hs0 k kd li inn oth pa cs cg t hB q2 k2 kd2 li2 inn2 oth2 pa2 cs2 cg2 G h29 L2 L2t hne2 hx hb hml hown hts hK h0s hRm hcs  ?_ (32 + 1) 0 (by omega) (by omega) _ _ ls hP hS hl
  intro H locs ls hP hS hl
  exact W.vret hx hb hr (fun t9 ht hW => ⟨⟨(pW g w q k kd li inn oth pa cs cg (tN (ca1 G t 32).1) ((ca1 G t 32).2)), rfl, rfl, cB_of ht hP⟩, hS.F ht⟩) hS.2.2 dX0_countAll_41

set_option maxHeartbeats 4000000 in
set_option maxRecDepth 100000 in
theorem lp_ct2 {p : Program} {l : Launch} {e : Env} {R : Room} {s : State} {m : MethodId} {args : Array Value} {below : List Frame} {meth : Method} {c : Code} {Q : State → Prop} {H0 : Heap} {cells slots : Nat} (g : gX) (s0 : Nat) (w : wd_M) (q : Nat) (hs0 : s0 ≤ q) (k : Int32) (kd : Int32) (li : Int32) (inn : Option Nat) (oth : Option Nat) (pa : Int64) (cs : Int32) (cg : Int32) (x : Nat) (hx1 : x < 32) (t : aT) (hB : mB t.1) (q2 : Nat) (k2 kd2 li2 : Int32) (inn2 oth2 : Option Nat) (pa2 : Int64) (cs2 cg2 : Int32) (G : Nat → Nat) (h29 : mB G) (L2 : w q2 = some (pO k2 kd2 li2 inn2 oth2 pa2 (q2 + 1) (q2 + 2) cs2 cg2)) (L2t : w (q2 + 1) = some (wd_iA (g.2 0) 1024 (tN G))) (hne2 : q2 + 3 ≤ q ∨ q + 3 ≤ q2) (hx : p.tables.exec = Jvm.exec) (hb : c.code = cX0_countTurned) (hml : c.maxLocals = 4) (hown : s.vm.findClass RX0 = some m.cls) (hts : ∀ w ∈ Cond.code yX0_countTurned cX0_countTurned 4 (none) :: tg, w.before args s = true) (hK : gK g s) (h0s : s0 ≤ H0.size) (hRm : 2 ≤ R.frames ∧ 42 ≤ R.locals) (hcs : cells + 0 ≤ R.cells ∧ slots + 0 ≤ R.slots)  (kx : ∀ (H : Heap) (locs : List Loc) (ls : Array Slot), gP g (pW g w q k kd li inn oth pa cs cg (tN (ct2 G x t 32).1) ((ct2 G x t 32).2)) H → gS s0 H0 H locs → lv_has ls 4 [(0, .ref q), (1, .ref q2), (2, .int (nI x))] → W p l e R s m args below meth c H locs cells slots Q (F0 m 35 ls [])) :
    ∀ (n y : Nat), y ≤ 32 → 32 + 1 ≤ y + n → ∀ (H : Heap) (locs : List Loc) (ls : Array Slot), gP g (pW g w q k kd li inn oth pa cs cg (tN (ct2 G x t y).1) ((ct2 G x t y).2)) H → gS s0 H0 H locs → lv_has ls 4 [(0, .ref q), (1, .ref q2), (2, .int (nI x)), (3, .int (nI y))] → W p l e R s m args below meth c H locs cells slots Q (F0 m 10 ls []) := by
  intro n
  induction n with
  | zero =>
    intro y h1 h2
    exact absurd h2 (by omega)
  | succ n ih =>
    intro y hi hin H locs ls hP hS hl
    refine lv_iload_n hx hb dX0_countTurned_10 rfl (lv_at hl 3 rfl) ?_
    refine lv_bipush (v := nI 32) hx hb dX0_countTurned_11 (by decide) ?_
    refine lv_icmp_ge (tgt := 35) hx hb dX0_countTurned_13 (by decide) (fun c_13 => ?_) (fun c_13 => ?_)
    · have c_13 := (nI_leI (a := 32) (b := y) (by omega) (by omega)).mp c_13
      have e9 : y = 32 := by omega
      try rw [e9] at hP
      try rw [e9] at hl
      exact kx H locs ls hP hS (lv_sub hl [0, 1, 2] rfl)
    · have c_13 := mt (nI_leI (a := 32) (b := y) (by omega) (by omega)).mpr c_13
      refine lv_aload_n hx hb dX0_countTurned_16 rfl (lv_at hl 0 rfl) ?_
      refine lv_iload_n hx hb dX0_countTurned_17 rfl (lv_at hl 3 rfl) ?_
      refine lv_iload_n hx hb dX0_countTurned_18 rfl (lv_at hl 2 rfl) ?_
      refine lv_aload_n hx hb dX0_countTurned_19 rfl (lv_at hl 1 rfl) ?_
      refine lv_iload_n hx hb dX0_countTurned_20 rfl (lv_at hl 2 rfl) ?_
      refine lv_iload_n hx hb dX0_countTurned_21 rfl (lv_at hl 3 rfl) ?_
      refine cr_Vi (As := [.int (nI x), .int (nI y)]) (rest := [.int (nI x), .int (nI y), .ref q]) ⟨hx, hb, hml, hown, hts⟩ (c_X0_timesOf l g s0 (pW g w q k kd li inn oth pa cs cg (tN (ct2 G x t y).1) ((ct2 G x t y).2)) q2 (q2 + 1) (q2 + 2) k2 kd2 li2 inn2 oth2 pa2 cs2 cg2 ((pW_out (by omega)).trans L2) (tN G) ((pW_out (by omega)).trans L2t) x y (by omega) (by omega)) (cw_V 2 hts tg_tail tw_226 tw_227 tw_228 tw_5 tw_229 rfl rfl (by decide +kernel) ⟨Nat.le_trans (by decide) hRm.1, Nat.le_trans (by decide) hRm.2⟩) hK hP h0s hS ((pW_out (by omega)).trans L2) rfl rfl rfl hl.1 rfl (Nat.le_of_ble_eq_true rfl) dX0_countTurned_22 hcs (fun r9 w9 H locs hw hP hS => ?_)
      obtain ⟨e_r9, hw9⟩ := hw
      rw [hw9] at hP
      subst e_r9
      refine wd_ti (x' := nI (G (x * 32 + y))) (rfl) ?_
      refine lv_i2l (v := lN (G (x * 32 + y))) hx hb dX0_countTurned_25 (nI_l (by have h9 : G (x * 32 + y) ≤ 1000000 := h29 _; omega)) ?_
      refine cr_Vv (As := [.int (nI y), .int (nI x), .long (lN (G (x * 32 + y)))]) (rest := []) ⟨hx, hb, hml, hown, hts⟩ (c_X0_addTimes l g s0  w q hs0 k kd li inn oth pa cs cg y x (G (x * 32 + y)) (by omega) (by omega) (by have h9 : G (x * 32 + y) ≤ 1000000 := h29 _; omega) (by have h9 : G (x * 32 + y) ≤ 1000000 := h29 _; omega) (ct2 G x t y) (ct2_B hB y)) (cw_V 3 hts tg_tail tw_212 tw_214 tp_7 tw_5 tw_215 rfl rfl (by decide +kernel) ⟨Nat.le_trans (by decide) hRm.1, Nat.le_trans (by decide) hRm.2⟩) hK hP h0s hS (pW_0) rfl rfl rfl hl.1 rfl (Nat.le_of_ble_eq_true rfl) dX0_countTurned_26 hcs (fun w9 H locs hw hP hS => ?_)
      rw [hw] at hP
      refine lv_iinc (v := nI (y + 1)) (lv' := [(3, .int (nI (y + 1))), (0, .ref q), (1, .ref q2), (2, .int (nI x))]) hx hb dX0_countTurned_29 hl (k := 3) rfl (nI_1 _) (by decide) rfl (fun ls hl => ?_)
      refine lv_goto (tgt := 10) hx hb dX0_countTurned_32 (by decide) ?_
      have e8 : (pW g w q k kd li inn oth pa cs cg (tN (adT (ct2 G x t y) y x (G (x * 32 + y))).1) ((adT (ct2 G x t y) y x (G (x * 32 + y))).2)) = (pW g w q k kd li inn oth pa cs cg (tN (ct2 G x t (y + 1)).1) ((ct2 G x t (y + 1)).2)) := by rw [ct2]
      rw [e8] at hP
      have hl : lv_has ls 4 [(0, .ref q), (1, .ref q2), (2, .int (nI x)), (3, .int (nI (y + 1)))] := lv_sub hl [1, 2, 3, 0] rfl
      exact ih (y + 1) (by omega) (by omega) _ _ ls hP hS hl

set_option maxHeartbeats 4000000 in
set_option maxRecDepth 100000 in
theorem lp_ct1 {p : Program} {l : Launch} {e : Env} {R : Room} {s : State} {m : MethodId} {args : Array Value} {below : List Frame} {meth : Method} {c : Code} {Q : State → Prop} {H0 : Heap} {cells slots : Nat} (g : gX) (s0 : Nat) (w : wd_M) (q : Nat) (hs0 : s0 ≤ q) (k : Int32) (kd : Int32) (li : Int32) (inn : Option Nat) (oth : Option Nat) (pa : Int64) (cs : Int32) (cg : Int32) (t : aT) (hB : mB t.1) (q2 : Nat) (k2 kd2 li2 : Int32) (inn2 oth2 : Option Nat) (pa2 : Int64) (cs2 cg2 : Int32) (G : Nat → Nat) (h29 : mB G) (L2 : w q2 = some (pO k2 kd2 li2 inn2 oth2 pa2 (q2 + 1) (q2 + 2) cs2 cg2)) (L2t : w (q2 + 1) = some (wd_iA (g.2 0) 1024 (tN G))) (hne2 : q2 + 3 ≤ q ∨ q + 3 ≤ q2) (hx : p.tables.exec = Jvm.exec) (hb : c.code = cX0_countTurned) (hml : c.maxLocals = 4) (hown : s.vm.findClass RX0 = some m.cls) (hts : ∀ w ∈ Cond.code yX0_countTurned cX0_countTurned 4 (none) :: tg, w.before args s = true) (hK : gK g s) (h0s : s0 ≤ H0.size) (hRm : 2 ≤ R.frames ∧ 42 ≤ R.locals) (hcs : cells + 0 ≤ R.cells ∧ slots + 0 ≤ R.slots)  (kx : ∀ (H : Heap) (locs : List Loc) (ls : Array Slot), gP g (pW g w q k kd li inn oth pa cs cg (tN (ct1 G t 32).1) ((ct1 G t 32).2)) H → gS s0 H0 H locs → lv_has ls 4 [(0, .ref q)] → W p l e R s m args below meth c H locs cells slots Q (F0 m 41 ls [])) :
    ∀ (n x : Nat), x ≤ 32 → 32 + 1 ≤ x + n → ∀ (H : Heap) (locs : List Loc) (ls : Array Slot), gP g (pW g w q k kd li inn oth pa cs cg (tN (ct1 G t x).1) ((ct1 G t x).2)) H → gS s0 H0 H locs → lv_has ls 4 [(0, .ref q), (1, .ref q2), (2, .int (nI x))] → W p l e R s m args below meth c H locs cells slots Q (F0 m 2 ls []) := by
  intro n
  induction n with
  | zero =>
    intro x h1 h2
    exact absurd h2 (by omega)
  | succ n ih =>
    intro x hi hin H locs ls hP hS hl
    refine lv_iload_n hx hb dX0_countTurned_2 rfl (lv_at hl 2 rfl) ?_
    refine lv_bipush (v := nI 32) hx hb dX0_countTurned_3 (by decide) ?_
    refine lv_icmp_ge (tgt := 41) hx hb dX0_countTurned_5 (by decide) (fun c_5 => ?_) (fun c_5 => ?_)
    · have c_5 := (nI_leI (a := 32) (b := x) (by omega) (by omega)).mp c_5
      have e9 : x = 32 := by omega
      try rw [e9] at hP
      try rw [e9] at hl
      exact kx H locs ls hP hS (lv_sub hl [0] rfl)
    · have c_5 := mt (nI_leI (a := 32) (b := x) (by omega) (by omega)).mpr c_5
      refine lv_iconst (v := nI 0) hx hb dX0_countTurned_8 (by decide) ?_
      refine lv_istore_n (lv' := [(3, .int (nI 0)), (0, .ref q), (1, .ref q2), (2, .int (nI x))]) hx hb dX0_countTurned_9 rfl hl (by decide) rfl (fun ls hl => ?_)
      have e8 : (pW g w q k kd li inn oth pa cs cg (tN (ct1 G t x).1) ((ct1 G t x).2)) = (pW g w q k kd li inn oth pa cs cg (tN (ct2 G x ((ct1 G t x)) 0).1) ((ct2 G x ((ct1 G t x)) 0).2)) := by rw [ct2]
      rw [e8] at hP
      have hl : lv_has ls 4 [(0, .ref q), (1, .ref q2), (2, .int (nI x)), (3, .int (nI 0))] := lv_sub hl [1, 2, 3, 0] rfl
      refine lp_ct2 g s0 w q hs0 k kd li inn oth pa cs cg x (by omega) (ct1 G t x) (ct1_B hB x) q2 k2 kd2 li2 inn2 oth2 pa2 cs2 cg2 G h29 L2 L2t hne2 hx hb hml hown hts hK h0s hRm hcs  ?_ (32 + 1) 0 (by omega) (by omega) _ _ ls hP hS hl
      intro H locs ls hP hS hl
      refine lv_iinc (v := nI (x + 1)) (lv' := [(2, .int (nI (x + 1))), (0, .ref q), (1, .ref q2)]) hx hb dX0_countTurned_35 hl (k := 2) rfl (nI_1 _) (by decide) rfl (fun ls hl => ?_)
      refine lv_goto (tgt := 2) hx hb dX0_countTurned_38 (by decide) ?_
      have e8 : (pW g w q k kd li inn oth pa cs cg (tN (ct2 G x ((ct1 G t x)) 32).1) ((ct2 G x ((ct1 G t x)) 32).2)) = (pW g w q k kd li inn oth pa cs cg (tN (ct1 G t (x + 1)).1) ((ct1 G t (x + 1)).2)) := by rw [ct1]
      rw [e8] at hP
      have hl : lv_has ls 4 [(0, .ref q), (1, .ref q2), (2, .int (nI (x + 1)))] := lv_sub hl [1, 2, 0] rfl
      exact ih (x + 1) (by omega) (by omega) _ _ ls hP hS hl

set_option maxHeartbeats 4000000 in
set_option maxRecDepth 100000 in
theorem c_X0_countTurned (l : Launch) (g : gX) (s0 : Nat) (w : wd_M) (q : Nat) (hs0 : s0 ≤ q) (k : Int32) (kd : Int32) (li : Int32) (inn : Option Nat) (oth : Option Nat) (pa : Int64) (cs : Int32) (cg : Int32) (t : aT) (hB : mB t.1) (q2 : Nat) (k2 kd2 li2 : Int32) (inn2 oth2 : Option Nat) (pa2 : Int64) (cs2 cg2 : Int32) (G : Nat → Nat) (h29 : mB G) (L2 : w q2 = some (pO k2 kd2 li2 inn2 oth2 pa2 (q2 + 1) (q2 + 2) cs2 cg2)) (L2t : w (q2 + 1) = some (wd_iA (g.2 0) 1024 (tN G))) (hne2 : q2 + 3 ≤ q ∨ q + 3 ≤ q2) : Met l yX0_countTurned (Cond.code yX0_countTurned cX0_countTurned 4 (none) :: tg) ({ frames := 2, cells := 0, slots := 0, locals := 42 }) (cP g s0 (pW g w q k kd li inn oth pa cs cg (tN t.1) (t.2)) [.ref q, .ref q2]) (cV g s0 (fun w' => w' = (pW g w q k kd li inn oth pa cs cg (tN (ct1 G t 32).1) ((ct1 G t 32).2)))) 0 0 (cA s0) := by
  refine Met.ofW (cc := cX0_countTurned) (maxL := 4) (ret := none) (by decide) rfl ?_
  intro p e s m args below meth c s₁ B9 hml hv
  obtain ⟨rfl, h0s, hP, hK⟩ := hv
  have hx := B9.exec
  have hb := B9.bytes
  have hr := B9.returns
  have hts := atoms_spec (ws := Cond.code yX0_countTurned cX0_countTurned 4 (none) :: tg) B9.pre
  have hown : s.vm.findClass RX0 = some m.cls := findClass_of_methodNamed B9.named
  have hlocks := B9.notSynchronized
  have hS : gS s0 s.heap s.heap [] := va_S.rf
  have hRm : 2 ≤ (headSpec (Cond.code yX0_countTurned cX0_countTurned 4 (none) :: tg) ({ frames := 2, cells := 0, slots := 0, locals := 42 })).room.frames ∧ 42 ≤ (headSpec (Cond.code yX0_countTurned cX0_countTurned 4 (none) :: tg) ({ frames := 2, cells := 0, slots := 0, locals := 42 })).room.locals := ⟨Nat.le_refl _, Nat.le_refl _⟩
  have hcs : 0 + 0 ≤ (headSpec (Cond.code yX0_countTurned cX0_countTurned 4 (none) :: tg) ({ frames := 2, cells := 0, slots := 0, locals := 42 })).room.cells ∧ 0 + 0 ≤ (headSpec (Cond.code yX0_countTurned cX0_countTurned 4 (none) :: tg) ({ frames := 2, cells := 0, slots := 0, locals := 42 })).room.slots := ⟨Nat.zero_le _, Nat.zero_le _⟩
  have hl := lv_entry ([.ref q, .ref q2]) (n := 4) (Nat.le_of_ble_eq_true rfl)
  rw [lg_entry_eq]
  generalize (lg_sl ([.ref q, .ref q2]) ++ List.replicate (4 - (lg_sl ([.ref q, .ref q2])).length) Slot.unset).toArray = ls at hl ⊢
  have hl : lv_has ls 4 [(0, .ref q), (1, .ref q2)] := hl
  refine lv_iconst (v := nI 0) hx hb dX0_countTurned_0 (by decide) ?_
  refine lv_istore_n (lv' := [(2, .int (nI 0)), (0, .ref q), (1, .ref q2)]) hx hb dX0_countTurned_1 rfl hl (by decide) rfl (fun ls hl => ?_)
  have e8 : (pW g w q k kd li inn oth pa cs cg (tN t.1) (t.2)) = (pW g w q k kd li inn oth pa cs cg (tN (ct1 G t 0).1) ((ct1 G t 0).2)) := by rw [ct1]
  rw [e8] at hP
  have hl : lv_has ls 4 [(0, .ref q), (1, .ref q2), (2, .int (nI 0))] := lv_sub hl [1, 2, 0] rfl
  refine lp_ct1 g s0 w q hs0 k kd li inn oth pa cs cg t hB q2 k2 kd2 li2 inn2 oth2 pa2 cs2 cg2 G h29 L2 L2t hne2 hx hb hml hown hts hK h0s hRm hcs  ?_ (32 + 1) 0 (by omega) (by omega) _ _ ls hP hS hl
  intro H locs ls hP hS hl
  exact W.vret hx hb hr (fun t9 ht hW => ⟨⟨(pW g w q k kd li inn oth pa cs cg (tN (ct1 G t 32).1) ((ct1 G t 32).2)), rfl, rfl, cB_of ht hP⟩, hS.F ht⟩) hS.2.2 dX0_countTurned_41

