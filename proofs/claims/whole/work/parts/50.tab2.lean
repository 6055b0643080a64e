/-! PURE: what the reference's table holds, region by region -/
theorem ix3 {u x y v a b : Nat} (hx : x < 32) (hy : y < 32) (ha : a < 32) (hb : b < 32) : 1024 * u + 32 * x + y = 1024 * v + 32 * a + b ↔ u = v ∧ x = a ∧ y = b := by omega
/-- same outside region u -/
def outU (u : Nat) (M M' : Nat → Nat) : Prop := ∀ j, ¬ (1024 * u ≤ j ∧ j < 1024 * u + 1024) → M' j = M j
theorem outU.refl {u : Nat} {M : Nat → Nat} : outU u M M := fun _ _ => rfl
theorem outU.trans {u : Nat} {M M' M'' : Nat → Nat} (h1 : outU u M M') (h2 : outU u M' M'') : outU u M M'' := fun j hj => (h2 j hj).trans (h1 j hj)
theorem outU.up {u x y v : Nat} {M : Nat → Nat} (hx : x < 32) (hy : y < 32) : outU u M (va_up M (1024 * u + 32 * x + y) v) := fun j hj => up_n (by omega)
theorem outU.at {u v x y : Nat} {M M' : Nat → Nat} (h : outU u M M') (hv : ¬ v = u) (hx : x < 32) (hy : y < 32) : M' (1024 * v + 32 * x + y) = M (1024 * v + 32 * x + y) := h _ (by omega)
theorem mt0_at {M : Nat → Nat} {u : Nat} : ∀ k j, mt0 M u k j = if 1024 * u ≤ j ∧ j < 1024 * u + k then 0 else M j := by
  intro k
  induction k with
  | zero => intro j; rw [mt0, if_neg (by omega)]
  | succ k ih =>
    intro j
    rw [mt0]
    by_cases c : j = 1024 * u + k
    · rw [c, up_s, if_pos (by omega)]
    · rw [up_n c, ih j]
      by_cases c2 : 1024 * u ≤ j ∧ j < 1024 * u + k
      · rw [if_pos c2, if_pos (by omega)]
      · rw [if_neg c2, if_neg (by omega)]
theorem mt0_out {M : Nat → Nat} {u : Nat} : outU u M (mt0 M u 1024) := fun j hj => by rw [mt0_at, if_neg hj]
theorem mt0_in {M : Nat → Nat} {u x y : Nat} (hx : x < 32) (hy : y < 32) : mt0 M u 1024 (1024 * u + 32 * x + y) = 0 := by rw [mt0_at, if_pos (by omega)]
/-- how many links of the list join x to y -/
def cnl (gd : Nat → Prop) [DecidablePred gd] (S O : Nat → Nat) (x y : Nat) : Nat → Nat
  | 0 => 0
  | k + 1 => cnl gd S O x y k + if gd k ∧ S k = x ∧ O k = y then 1 else 0
theorem cnl_le {gd : Nat → Prop} [DecidablePred gd] {S O : Nat → Nat} {x y : Nat} : ∀ k, cnl gd S O x y k ≤ k := by
  intro k
  induction k with
  | zero => exact Nat.le_refl _
  | succ k ih =>
    show cnl gd S O x y k + _ ≤ _
    split <;> omega
abbrev gdk (ki fi se pr : Nat → Int32) (u : Nat) : Nat → Prop := fun k => if ki u = 0 then pr k = fi u else ¬ pr k = fi u ∧ ¬ pr k = se u
theorem ml_at {ki fi se pr : Nat → Int32} {S O : Nat → Nat} {u : Nat} {M : Nat → Nat} (h0 : ∀ x y, x < 32 → y < 32 → M (1024 * u + 32 * x + y) = 0) : ∀ T, T ≤ 150 → (∀ k, k < T → S k < 32 ∧ O k < 32) → outU u M (ml ki fi se pr S O u M T) ∧ ∀ x y, x < 32 → y < 32 → ml ki fi se pr S O u M T (1024 * u + 32 * x + y) = cnl (gdk ki fi se pr u) S O x y T := by
  intro T
  induction T with
  | zero => intro _ _; exact ⟨by rw [ml]; exact outU.refl, fun x y hx hy => by rw [ml]; exact h0 x y hx hy⟩
  | succ T ih =>
    intro hT hb
    obtain ⟨h1, h2⟩ := ih (by omega) (fun k hk => hb k (by omega))
    obtain ⟨hs, ho⟩ := hb T (by omega)
    rw [ml]
    by_cases c : gdk ki fi se pr u T
    · rw [if_pos c]
      refine ⟨h1.trans (outU.up hs ho), fun x y hx hy => ?_⟩
      show _ = cnl (gdk ki fi se pr u) S O x y T + _
      have hle := cnl_le (gd := gdk ki fi se pr u) (S := S) (O := O) (x := x) (y := y) T
      by_cases c2 : S T = x ∧ O T = y
      · rw [if_pos ⟨c, c2⟩, ← c2.1, ← c2.2, up_s, h2 _ _ hs ho]
        rw [← c2.1, ← c2.2] at hle
        omega
      · rw [if_neg (fun q => c2 q.2), up_n (fun q => c2 (by
          have := (ix3 hx hy hs ho).mp q
          exact ⟨this.2.1.symm, this.2.2.symm⟩)), h2 x y hx hy, Nat.add_zero]
    · rw [if_neg c]
      refine ⟨h1, fun x y hx hy => ?_⟩
      show _ = cnl (gdk ki fi se pr u) S O x y T + _
      rw [if_neg (fun q => c q.1), h2 x y hx hy, Nat.add_zero]
noncomputable def pn (P : Prop) : Nat := @ite Nat P (Classical.propDecidable P) 1 0
theorem pn_t {P : Prop} (h : P) : pn P = 1 := by unfold pn; exact if_pos h
theorem pn_f {P : Prop} (h : ¬ P) : pn P = 0 := by unfold pn; exact if_neg h
theorem pn_c {P Q : Prop} (h : P ↔ Q) : pn P = pn Q := by rw [propext h]
theorem mw2_at {ki ii sp : Nat → Int32} {u x : Nat} {t : (Nat → Nat) × Nat} (hx : x < 32) {R : Nat → Prop} (hR : ∀ y, y < 32 → (R y ↔ 0 < sp y ∨ (ki u = nI 4 ∧ x = y ∧ ¬ ii x = 0))) : ∀ n, n ≤ 32 → outU u t.1 (mw2 ki ii sp u x t n).1 ∧ (∀ x' y', x' < 32 → y' < 32 → (mw2 ki ii sp u x t n).1 (1024 * u + 32 * x' + y') = if x' = x ∧ y' < n then pn (R y') else t.1 (1024 * u + 32 * x' + y')) ∧ (mw2 ki ii sp u x t n).2 = t.2 + pcb (pdc R) n := by
  intro n
  induction n with
  | zero => intro _; rw [mw2]; exact ⟨outU.refl, fun x' y' _ _ => by rw [if_neg (by omega)], rfl⟩
  | succ n ih =>
    intro hn
    obtain ⟨h1, h2, h3⟩ := ih (by omega)
    have hRn := hR n (by omega)
    rw [mw2]
    generalize mw2 ki ii sp u x t n = s at h1 h2 h3 ⊢
    have key : ∀ v, v = pn (R n) → outU u t.1 (va_up s.1 (1024 * u + 32 * x + n) v) ∧ ∀ x' y', x' < 32 → y' < 32 → va_up s.1 (1024 * u + 32 * x + n) v (1024 * u + 32 * x' + y') = if x' = x ∧ y' < n + 1 then pn (R y') else t.1 (1024 * u + 32 * x' + y') := by
      intro v hv
      refine ⟨h1.trans (outU.up hx (by omega)), fun x' y' hx' hy' => ?_⟩
      by_cases c : x' = x ∧ y' = n
      · rw [c.1, c.2, up_s, if_pos ⟨rfl, by omega⟩, hv]
      · rw [up_n (fun q => c ((ix3 hx' hy' hx (by omega)).mp q).2), h2 x' y' hx' hy']
        by_cases c2 : x' = x ∧ y' < n
        · rw [if_pos c2, if_pos ⟨c2.1, by omega⟩]
        · rw [if_neg c2, if_neg (by omega)]
    show _ ∧ _ ∧ _ = t.2 + (pcb (pdc R) n + _)
    by_cases c : 0 < sp n ∨ (ki u = nI 4 ∧ x = n ∧ ¬ ii x = 0)
    · rw [if_pos c]
      obtain ⟨k1, k2⟩ := key (min 1 1000000) (by rw [pn_t (hRn.mpr c)]; omega)
      refine ⟨k1, k2, ?_⟩
      show s.2 + 1 = _
      rw [h3, if_pos (pdc_t.mpr (hRn.mpr c)), Nat.add_assoc]
    · rw [if_neg c]
      obtain ⟨k1, k2⟩ := key (min 0 1000000) (by rw [pn_f (fun q => c (hRn.mp q))]; omega)
      refine ⟨k1, k2, ?_⟩
      show s.2 = _
      rw [h3, if_neg (fun q => c (hRn.mp (pdc_t.mp q))), Nat.add_zero]
noncomputable def prs (R : Nat → Nat → Prop) : Nat → Nat
  | 0 => 0
  | x + 1 => prs R x + pcb (pdc (R x)) 32
theorem mw1_at {ki ii sp qu : Nat → Int32} {u a : Nat} {M : Nat → Nat} (ha : ¬ a = u) {R : Nat → Nat → Prop} (hR : ∀ x y, x < 32 → y < 32 → (R x y ↔ rch (eM M a) x y ∨ (ki u = nI 4 ∧ x = y ∧ ¬ ii x = 0))) : ∀ n, n ≤ 32 → outU u M (mw1 ki ii u a M sp qu n).1 ∧ (∀ x y, x < 32 → y < 32 → (mw1 ki ii u a M sp qu n).1 (1024 * u + 32 * x + y) = if x < n then pn (R x y) else M (1024 * u + 32 * x + y)) ∧ (mw1 ki ii u a M sp qu n).2.2.2 = prs R n := by
  intro n
  induction n with
  | zero => intro _; rw [mw1]; exact ⟨outU.refl, fun x' y' _ _ => by rw [if_neg (by omega)], rfl⟩
  | succ n ih =>
    intro hn
    obtain ⟨h1, h2, h3⟩ := ih (by omega)
    rw [mw1]
    generalize mw1 ki ii u a M sp qu n = t at h1 h2 h3 ⊢
    unfold mwS
    have hE : ∀ i j, i < 32 → j < 32 → (eM t.1 a i j ↔ eM M a i j) := fun i j hi hj => by
      show 0 < _ ↔ 0 < _
      rw [h1.at ha hi hj]
    obtain ⟨k1, k2, k3⟩ := mw2_at (ki := ki) (ii := ii) (sp := (wkF t.1 a n t.2.1 t.2.2.1).1) (u := u) (x := n) (t := (t.1, t.2.2.2)) (by omega) (R := R n) (fun y hy => by
      rw [hR n y (by omega) hy, wk_pos hy, rch_congr (by omega) hy hE]) 32 (Nat.le_refl _)
    refine ⟨h1.trans k1, fun x y hx hy => ?_, ?_⟩
    · show (mw2 ki ii _ u n (t.1, t.2.2.2) 32).1 _ = _
      rw [k2 x y hx hy]
      by_cases c : x = n
      · rw [if_pos ⟨c, hy⟩, if_pos (by omega), c]
      · rw [if_neg (by omega)]
        show t.1 _ = _
        rw [h2 x y hx hy]
        by_cases c2 : x < n
        · rw [if_pos c2, if_pos (by omega)]
        · rw [if_neg c2, if_neg (by omega)]
    · show (mw2 ki ii _ u n (t.1, t.2.2.2) 32).2 = _
      rw [k3]
      show t.2.2.2 + _ = prs R n + _
      rw [h3]
theorem jn2_cg {M M' : Nat → Nat} {a b x y : Nat} (hx : x < 32) (hy : y < 32) (h : ∀ z, z < 32 → M' (1024 * a + 32 * x + z) = M (1024 * a + 32 * x + z) ∧ M' (1024 * b + 32 * z + y) = M (1024 * b + 32 * z + y)) : ∀ n, n ≤ 32 → jn2 M' a b x y n = jn2 M a b x y n := by
  intro n
  induction n with
  | zero => intro _; rfl
  | succ n ih =>
    intro hn
    show jn2 M' a b x y n + _ = jn2 M a b x y n + _
    rw [ih (by omega), (h n (by omega)).1, (h n (by omega)).2]
theorem jn_cg {kd : Nat} {M M' : Nat → Nat} {ii : Nat → Int32} {a b u x y : Nat} (ho : outU u M M') (ha : ¬ a = u) (hb : ¬ b = u) (hx : x < 32) (hy : y < 32) : jn kd M' ii a b x y = jn kd M ii a b x y := by
  unfold jn
  rw [ho.at ha hy hx, ho.at ha hx hy, ho.at hb hx hy, jn2_cg hx hy (fun z hz => ⟨ho.at ha hx hz, ho.at hb hz hy⟩) 32 (Nat.le_refl _)]
theorem jf1_at {kd : Nat} {ii : Nat → Int32} {a b u : Nat} {M : Nat → Nat} (ha : ¬ a = u) (hb : ¬ b = u) : outU u M (jf1 kd ii a b u M 32) ∧ ∀ x y, x < 32 → y < 32 → jf1 kd ii a b u M 32 (1024 * u + 32 * x + y) = min (jn kd M ii a b x y) 1000000 := by
  have row : ∀ (x : Nat) (hx : x < 32) (M1 : Nat → Nat) (ho : outU u M M1) (n : Nat), n ≤ 32 → outU u M (jf2 kd ii a b u x M1 n) ∧ ∀ x' y', x' < 32 → y' < 32 → jf2 kd ii a b u x M1 n (1024 * u + 32 * x' + y') = if x' = x ∧ y' < n then min (jn kd M ii a b x' y') 1000000 else M1 (1024 * u + 32 * x' + y') := by
    intro x hx M1 ho n
    induction n with
    | zero => intro _; rw [jf2]; exact ⟨ho, fun x' y' _ _ => by rw [if_neg (by omega)]⟩
    | succ n ih =>
      intro hn
      obtain ⟨h1, h2⟩ := ih (by omega)
      rw [jf2, jn_cg h1 ha hb hx (by omega)]
      refine ⟨h1.trans (outU.up hx (by omega)), fun x' y' hx' hy' => ?_⟩
      by_cases c : x' = x ∧ y' = n
      · rw [c.1, c.2, up_s, if_pos ⟨rfl, by omega⟩]
      · rw [up_n (fun q => c ((ix3 hx' hy' hx (by omega)).mp q).2), h2 x' y' hx' hy']
        by_cases c2 : x' = x ∧ y' < n
        · rw [if_pos c2, if_pos ⟨c2.1, by omega⟩]
        · rw [if_neg c2, if_neg (by omega)]
  have all : ∀ n, n ≤ 32 → outU u M (jf1 kd ii a b u M n) ∧ ∀ x y, x < 32 → y < 32 → jf1 kd ii a b u M n (1024 * u + 32 * x + y) = if x < n then min (jn kd M ii a b x y) 1000000 else M (1024 * u + 32 * x + y) := by
    intro n
    induction n with
    | zero => intro _; rw [jf1]; exact ⟨outU.refl, fun x' y' _ _ => by rw [if_neg (by omega)]⟩
    | succ n ih =>
      intro hn
      obtain ⟨h1, h2⟩ := ih (by omega)
      obtain ⟨k1, k2⟩ := row n (by omega) _ h1 32 (Nat.le_refl _)
      rw [jf1]
      refine ⟨k1, fun x y hx hy => ?_⟩
      rw [k2 x y hx hy, h2 x y hx hy]
      by_cases c : x = n
      · rw [if_pos ⟨c, hy⟩, if_pos (by omega)]
      · rw [if_neg (by omega)]
        by_cases c2 : x < n
        · rw [if_pos c2, if_pos (by omega)]
        · rw [if_neg c2, if_neg (by omega)]
  obtain ⟨k1, k2⟩ := all 32 (Nat.le_refl _)
  exact ⟨k1, fun x y hx hy => by rw [k2 x y hx hy, if_pos hx]⟩
