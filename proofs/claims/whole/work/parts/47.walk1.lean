/-! PURE: walks, Warshall's closure, levels -/
abbrev eT : Type := Nat → Nat → Prop
/-- a walk of n + 1 steps from x to y -/
def wl (E : eT) (x : Nat) : Nat → Nat → Prop
  | 0 => fun y => E x y
  | n + 1 => fun y => ∃ z, z < 32 ∧ wl E x n z ∧ E z y
def rch (E : eT) (x y : Nat) : Prop := ∃ n, wl E x n y
/-- n + 1 is the least number of steps -/
def fst1 (E : eT) (x n y : Nat) : Prop := wl E x n y ∧ ∀ m, m < n → ¬ wl E x m y
theorem wl_tr {E : eT} {x z n : Nat} (hz : z < 32) (h : wl E x n z) : ∀ m y, wl E z m y → wl E x (n + m + 1) y := by
  intro m
  induction m with
  | zero => intro y hy; exact ⟨z, hz, h, hy⟩
  | succ m ih =>
    intro y hy
    obtain ⟨v, hv, h1, h2⟩ := hy
    exact ⟨v, hv, ih v h1, h2⟩
theorem rch_tr {E : eT} {x y z : Nat} (hz : z < 32) (h1 : rch E x z) (h2 : rch E z y) : rch E x y := by
  obtain ⟨n, h1⟩ := h1
  obtain ⟨m, h2⟩ := h2
  exact ⟨_, wl_tr hz h1 m y h2⟩
theorem wl_fst {E : eT} {x y : Nat} : ∀ n, wl E x n y → ∃ m, m ≤ n ∧ fst1 E x m y := by
  intro n
  induction n using Nat.strongRecOn with
  | _ n ih =>
    intro h
    by_cases c : ∃ m, m < n ∧ wl E x m y
    · obtain ⟨m, hm, h1⟩ := c
      obtain ⟨k, hk, h2⟩ := ih m hm h1
      exact ⟨k, by omega, h2⟩
    · exact ⟨n, Nat.le_refl _, h, fun m hm hw => c ⟨m, hm, hw⟩⟩
theorem fst_uniq {E : eT} {x y n m : Nat} (h1 : fst1 E x n y) (h2 : fst1 E x m y) : n = m := by
  rcases Nat.lt_trichotomy n m with h | h | h
  · exact absurd h1.1 (h2.2 n h)
  · exact h
  · exact absurd h2.1 (h1.2 m h)
theorem fst_prev {E : eT} {x y n : Nat} (h : fst1 E x (n + 1) y) : ∃ z, z < 32 ∧ fst1 E x n z ∧ E z y := by
  obtain ⟨z, hz, h1, h2⟩ := h.1
  refine ⟨z, hz, ⟨h1, fun m hm hw => ?_⟩, h2⟩
  exact h.2 (m + 1) (by omega) ⟨z, hz, hw, h2⟩
theorem pcb_mono {f f' : Nat → Bool} (h : ∀ y, f y = true → f' y = true) : ∀ k, pcb f k ≤ pcb f' k := by
  intro k
  induction k with
  | zero => exact Nat.le_refl _
  | succ k ih =>
    show pcb f k + _ ≤ pcb f' k + _
    have := h k
    split
    · rw [if_pos (h k (by assumption))]; omega
    · omega
theorem pcb_lt {f f' : Nat → Bool} (h : ∀ y, f y = true → f' y = true) {y : Nat} (h1 : f y = false) (h2 : f' y = true) : ∀ k, y < k → pcb f k < pcb f' k := by
  intro k
  induction k with
  | zero => intro h3; omega
  | succ k ih =>
    intro h3
    show pcb f k + _ < pcb f' k + _
    by_cases c : y = k
    · subst c
      rw [h1, h2]
      have := pcb_mono h y
      simp
      omega
    · have := ih (by omega)
      have := h k
      split
      · rw [if_pos (h k (by assumption))]; omega
      · omega
theorem pcb_ext {f f' : Nat → Bool} : ∀ k, (∀ y, y < k → f y = f' y) → pcb f k = pcb f' k := by
  intro k
  induction k with
  | zero => intro _; rfl
  | succ k ih =>
    intro h
    show pcb f k + _ = pcb f' k + _
    rw [ih (fun y hy => h y (by omega)), h k (by omega)]
noncomputable def pdc (P : Nat → Prop) : Nat → Bool := fun y => @decide (P y) (Classical.propDecidable _)
theorem pdc_t {P : Nat → Prop} {y : Nat} : pdc P y = true ↔ P y := by unfold pdc; simp
theorem pdc_f {P : Nat → Prop} {y : Nat} : pdc P y = false ↔ ¬ P y := by unfold pdc; simp
theorem fst_many {E : eT} {x : Nat} : ∀ n y, y < 32 → fst1 E x n y → n + 1 ≤ pcb (pdc (fun v => ∃ i, i < n + 1 ∧ wl E x i v)) 32 := by
  intro n
  induction n with
  | zero =>
    intro y hy h
    have h1 := pcb_lt (f := fun _ => false) (f' := pdc (fun v => ∃ i, i < 0 + 1 ∧ wl E x i v)) (fun _ q => by simp at q) (y := y) rfl (pdc_t.mpr ⟨0, by omega, h.1⟩) 32 hy
    omega
  | succ n ih =>
    intro y hy h
    obtain ⟨z, hz, h1, h2⟩ := fst_prev h
    have h3 := ih z hz h1
    have h4 := pcb_lt (f := pdc (fun v => ∃ i, i < n + 1 ∧ wl E x i v)) (f' := pdc (fun v => ∃ i, i < n + 1 + 1 ∧ wl E x i v)) (fun v q => by
      obtain ⟨i, hi, hw⟩ := pdc_t.mp q
      exact pdc_t.mpr ⟨i, by omega, hw⟩) (y := y) (pdc_f.mpr (fun ⟨i, hi, hw⟩ => h.2 i hi hw)) (pdc_t.mpr ⟨n + 1, by omega, h.1⟩) 32 hy
    omega
theorem fst_lt {E : eT} {x n y : Nat} (hy : y < 32) (h : fst1 E x n y) : n < 32 := by
  have h1 := fst_many n y hy h
  have h2 := pcb_le (pdc (fun v => ∃ i, i < n + 1 ∧ wl E x i v)) 32
  omega
/-- the links that a table of bits has -/
abbrev eJ (J : Nat → Int32) : eT := fun i j => bt (J i) j = true
theorem i_or (v : Int32) : v ||| v = v := b_ext (fun i _ => by rw [b_or, Bool.or_self])
theorem jo2_at {z : Nat} {j : Nat → Int32} : ∀ n x, jo2 z j n x = if x < n ∧ bt (j x) z = true then j x ||| j z else j x := by
  intro n
  induction n with
  | zero => intro x; rw [jo2, if_neg (by omega)]
  | succ n ih =>
    intro x
    have hzz : jo2 z j n z = j z := by
      rw [ih z]
      split
      · exact i_or _
      · rfl
    have hnn : jo2 z j n n = j n := by rw [ih n, if_neg (by omega)]
    rw [jo2, hnn, hzz]
    by_cases c : bt (j n) z = true
    · rw [if_pos c]
      by_cases cx : x = n
      · subst cx
        rw [ud_s, if_pos ⟨by omega, c⟩]
      · rw [ud_n cx, ih x]
        by_cases c2 : x < n ∧ bt (j x) z = true
        · rw [if_pos c2, if_pos ⟨by omega, c2.2⟩]
        · rw [if_neg c2, if_neg (fun q => c2 ⟨by omega, q.2⟩)]
    · rw [if_neg c, ih x]
      by_cases c2 : x < n ∧ bt (j x) z = true
      · rw [if_pos c2, if_pos ⟨by omega, c2.2⟩]
      · rw [if_neg c2, if_neg (fun q => c2 ⟨by
          rcases Nat.lt_or_ge x n with h | h
          · exact h
          · have : x = n := by omega
            subst this
            exact absurd q.2 c, q.2⟩)]
theorem jo2_bt {z : Nat} {j : Nat → Int32} {x y : Nat} (hx : x < 32) : bt (jo2 z j 32 x) y = true ↔ bt (j x) y = true ∨ (bt (j x) z = true ∧ bt (j z) y = true) := by
  rw [jo2_at]
  by_cases c : bt (j x) z = true
  · rw [if_pos ⟨hx, c⟩, b_or, Bool.or_eq_true]
    simp [c]
  · rw [if_neg (fun q => c q.2)]
    simp [c]
theorem jo1_inv {j : Nat → Int32} : ∀ n, n ≤ 32 → (∀ x y, x < 32 → y < 32 → bt (jo1 j n x) y = true → rch (eJ j) x y) ∧ (∀ x y, x < 32 → bt (j x) y = true → bt (jo1 j n x) y = true) ∧ (∀ p, p < n → ∀ x y, x < 32 → bt (jo1 j n x) p = true → bt (jo1 j n p) y = true → bt (jo1 j n x) y = true) := by
  intro n
  induction n with
  | zero =>
    intro _
    rw [jo1]
    exact ⟨fun x y _ _ h => ⟨0, h⟩, fun x y _ h => h, fun p hp => absurd hp (by omega)⟩
  | succ n ih =>
    intro hn
    obtain ⟨h1, h2, h3⟩ := ih (by omega)
    rw [jo1]
    refine ⟨fun x y hx hy h => ?_, fun x y hx h => (jo2_bt hx).mpr (Or.inl (h2 x y hx h)), fun p hp x y hx ha hb => ?_⟩
    · rcases (jo2_bt hx).mp h with h | ⟨h, h'⟩
      · exact h1 x y hx hy h
      · exact rch_tr (z := n) (by omega) (h1 x n hx (by omega) h) (h1 n y (by omega) hy h')
    · have ha := (jo2_bt hx).mp ha
      have hb := (jo2_bt (by omega)).mp hb
      refine (jo2_bt hx).mpr ?_
      by_cases c : p = n
      · subst c
        have ha' : bt (jo1 j p x) p = true := by rcases ha with h | h; exact h; exact h.1
        have hb' : bt (jo1 j p p) y = true := by rcases hb with h | h; exact h; exact h.2
        exact Or.inr ⟨ha', hb'⟩
      · have hp' : p < n := by omega
        rcases ha with ha | ⟨ha, ha'⟩
        · rcases hb with hb | ⟨hb, hb'⟩
          · exact Or.inl (h3 p hp' x y hx ha hb)
          · exact Or.inr ⟨h3 p hp' x n hx ha hb, hb'⟩
        · rcases hb with hb | ⟨hb, hb'⟩
          · exact Or.inr ⟨ha, h3 p hp' n y (by omega) ha' hb⟩
          · exact Or.inr ⟨ha, hb'⟩
theorem jo1_rch {j : Nat → Int32} {x y : Nat} (hx : x < 32) (hy : y < 32) : bt (jo1 j 32 x) y = true ↔ rch (eJ j) x y := by
  obtain ⟨h1, h2, h3⟩ := jo1_inv (j := j) 32 (Nat.le_refl _)
  have key : ∀ n v, v < 32 → wl (eJ j) x n v → bt (jo1 j 32 x) v = true := by
    intro n
    induction n with
    | zero => intro v hv h; exact h2 x v hx h
    | succ n ih =>
      intro v hv h
      obtain ⟨z, hz, h4, h5⟩ := h
      exact h3 z hz x v hx (ih z hz h4) (h2 z v hz h5)
  exact ⟨h1 x y hx hy, fun h => by
    obtain ⟨n, h⟩ := h
    exact key n y hy h⟩
theorem jb1_at {J2 j : Nat → Int32} : ∀ n x, jb1 J2 j n x = if x < n then J2 x else j x := by
  intro n
  induction n with
  | zero => intro x; rw [jb1, if_neg (by omega)]
  | succ n ih =>
    intro x
    rw [jb1]
    by_cases c : x = n
    · subst c; rw [ud_s, if_pos (by omega)]
    · rw [ud_n c, ih x]
      by_cases c2 : x < n
      · rw [if_pos c2, if_pos (by omega)]
      · rw [if_neg c2, if_neg (by omega)]
theorem js1_at {gr : Int32} {j : Nat → Int32} : ∀ n x, js1 gr j n x = if x < n then j x ||| (gr &&& sh1 x) else j x := by
  intro n
  induction n with
  | zero => intro x; rw [js1, if_neg (by omega)]
  | succ n ih =>
    intro x
    rw [js1]
    by_cases c : x = n
    · subst c; rw [ud_s, ih x, if_neg (by omega), if_pos (by omega)]
    · rw [ud_n c, ih x]
      by_cases c2 : x < n
      · rw [if_pos c2, if_pos (by omega)]
      · rw [if_neg c2, if_neg (by omega)]
theorem js1_bt {gr : Int32} {j : Nat → Int32} {x y : Nat} (hx : x < 32) (hy : y < 32) : bt (js1 gr j 32 x) y = true ↔ bt (j x) y = true ∨ (x = y ∧ bt gr x = true) := by
  rw [js1_at, if_pos hx, b_or, b_and, b_sh x y hx hy]
  by_cases c : y = x
  · subst c; simp
  · have : ¬ x = y := fun q => c q.symm
    simp [c, this]
theorem cj1_at {j : Nat → Int32} {F : Nat → Nat} : ∀ n, n ≤ 32 → ∀ x y, y < 32 → cj1 j F n (x * 32 + y) = if x < n then bn (j x) y else F (x * 32 + y) := by
  have row : ∀ (x : Nat) (F : Nat → Nat) (n : Nat), n ≤ 32 → ∀ x' y', y' < 32 → cj2 j x F n (x' * 32 + y') = if x' = x ∧ y' < n then bn (j x) y' else F (x' * 32 + y') := by
    intro x F n
    induction n with
    | zero => intro _ x' y' _; rw [cj2, if_neg (by omega)]
    | succ n ih =>
      intro hn x' y' hy'
      rw [cj2]
      by_cases c : x' = x ∧ y' = n
      · rw [c.1, c.2, up_s, if_pos ⟨rfl, by omega⟩]
      · rw [up_n (fun q => c ((ix2 hy' (by omega)).mp q)), ih (by omega) x' y' hy']
        by_cases c2 : x' = x ∧ y' < n
        · rw [if_pos c2, if_pos ⟨c2.1, by omega⟩]
        · rw [if_neg c2, if_neg (by omega)]
  intro n
  induction n with
  | zero => intro _ x y _; rw [cj1, if_neg (by omega)]
  | succ n ih =>
    intro hn x y hy
    rw [cj1, row n _ 32 (Nat.le_refl _) x y hy]
    by_cases c : x = n
    · subst c
      rw [if_pos ⟨rfl, hy⟩, if_pos (by omega)]
    · rw [if_neg (by omega), ih (by omega) x y hy]
      by_cases c2 : x < n
      · rw [if_pos c2, if_pos (by omega)]
      · rw [if_neg c2, if_neg (by omega)]
theorem bn_0 {v : Int32} {y : Nat} : ¬ bn v y = 0 ↔ bt v y = true := by
  unfold bn
  split <;> simp_all
theorem bn_1 {v : Int32} {y : Nat} : bn v y ≤ 1 := by
  unfold bn
  split <;> omega
theorem coO_coh {kd : Int32} {G : Nat → Nat} {J2 : Nat → Int32} {gr : Int32} (hk : ¬ kd = nI 1) : coh (coO kd G J2 gr z0) ∧ ∀ x y, x < 32 → y < 32 → (coO kd G J2 gr z0).1 (x * 32 + y) = bn ((coO kd G J2 gr z0).2 x) y := by
  have e : coO kd G J2 gr z0 = (cj1 (jbF kd J2 gr z0.2) z0.1 32, jbF kd J2 gr z0.2) := by rw [coO, if_neg hk]
  have h : ∀ x y, x < 32 → y < 32 → (coO kd G J2 gr z0).1 (x * 32 + y) = bn ((coO kd G J2 gr z0).2 x) y := fun x y hx hy => by
    rw [e]
    show cj1 _ _ 32 _ = bn (jbF kd J2 gr z0.2 x) y
    rw [cj1_at 32 (Nat.le_refl _) x y hy, if_pos hx]
  refine ⟨⟨coO_B z0_B, fun x y hx hy => ?_⟩, h⟩
  rw [h x y hx hy]
  exact bn_0.symm
