/-! PURE: what the class's tables hold, cell by cell -/
theorem up_s {α : Type} {f : Nat → α} {k : Nat} {v : α} : va_up f k v k = v := if_pos rfl
theorem up_n {α : Type} {f : Nat → α} {k j : Nat} {v : α} (h : ¬ j = k) : va_up f k v j = f j := if_neg h
theorem ud_s {f : Nat → Int32} {k : Nat} {v : Int32} : upd f k v k = v := if_pos rfl
theorem ud_n {f : Nat → Int32} {k j : Nat} {v : Int32} (h : ¬ j = k) : upd f k v j = f j := if_neg h
theorem ix2 {x y a b : Nat} (hy : y < 32) (hb : b < 32) : x * 32 + y = a * 32 + b ↔ x = a ∧ y = b := by omega
/-- joined says what times says -/
def coh (t : aT) : Prop := mB t.1 ∧ ∀ x y, x < 32 → y < 32 → (bt (t.2 x) y = true ↔ ¬ t.1 (x * 32 + y) = 0)
theorem z0_coh : coh z0 := ⟨z0_B, fun x y _ _ => by
  have h1 : z0.2 x = 0 := rfl
  have h2 : z0.1 (x * 32 + y) = 0 := rfl
  rw [h1, h2, b_0]
  simp⟩
theorem adT_at {t : aT} {x y V x' y' : Nat} (hm : mB t.1) (hy : y < 32) (hy' : y' < 32) : (adT t x y V).1 (x' * 32 + y') = if x' = x ∧ y' = y then min (t.1 (x' * 32 + y') + V) 1000000 else t.1 (x' * 32 + y') := by
  unfold adT
  have h1 := hm (x' * 32 + y')
  by_cases hV : V = 0
  · rw [if_pos hV]
    split
    · omega
    · rfl
  · rw [if_neg hV]
    show va_up _ _ _ _ = _
    by_cases h : x' = x ∧ y' = y
    · rw [if_pos h, h.1, h.2, up_s]
    · rw [if_neg h, up_n (fun q => h ((ix2 hy' hy).mp q))]
theorem adT_bt {t : aT} {x y V x' y' : Nat} (hy : y < 32) (hy' : y' < 32) : bt ((adT t x y V).2 x') y' = (bt (t.2 x') y' || decide (x' = x ∧ y' = y ∧ ¬ V = 0)) := by
  unfold adT
  by_cases hV : V = 0
  · rw [if_pos hV]
    simp [hV]
  · rw [if_neg hV]
    show bt (upd t.2 x _ x') y' = _
    by_cases hx : x' = x
    · subst hx
      rw [ud_s, b_or, b_sh y y' hy hy']
      simp [hV]
    · rw [ud_n hx]
      simp [hx]
theorem adT_coh {t : aT} {x y V : Nat} (h : coh t) (hy : y < 32) : coh (adT t x y V) := by
  refine ⟨adT_B h.1, fun a b ha hb => ?_⟩
  rw [adT_at h.1 hy hb, adT_bt hy hb]
  have h1 := h.2 a b ha hb
  by_cases hc : a = x ∧ b = y
  · rw [if_pos hc, Bool.or_eq_true, h1, decide_eq_true_eq]
    constructor
    · rintro (h2 | h2) <;> omega
    · intro h2
      by_cases hV : V = 0
      · left; omega
      · right; exact ⟨hc.1, hc.2, hV⟩
  · rw [if_neg hc, Bool.or_eq_true, h1, decide_eq_true_eq]
    constructor
    · rintro (h2 | h2)
      · exact h2
      · exact absurd ⟨h2.1, h2.2.1⟩ hc
    · exact Or.inl
theorem rowL {f : Nat → aT} {x : Nat} {V : Nat → Nat} (hf : ∀ y, f (y + 1) = adT (f y) x y (V y)) (h0 : coh (f 0)) : ∀ n, n ≤ 32 → coh (f n) ∧ ∀ x' y', y' < 32 → (f n).1 (x' * 32 + y') = if x' = x ∧ y' < n then min ((f 0).1 (x' * 32 + y') + V y') 1000000 else (f 0).1 (x' * 32 + y') := by
  intro n
  induction n with
  | zero => exact fun _ => ⟨h0, fun x' y' _ => by rw [if_neg (by omega)]⟩
  | succ n ih =>
    intro hn
    obtain ⟨h1, h2⟩ := ih (by omega)
    rw [hf]
    refine ⟨adT_coh h1 (by omega), fun x' y' hy' => ?_⟩
    rw [adT_at h1.1 (by omega) hy', h2 x' y' hy']
    by_cases c1 : x' = x
    · by_cases c2 : y' = n
      · subst c2
        rw [if_pos ⟨c1, rfl⟩, if_neg (by omega), if_pos ⟨c1, by omega⟩]
      · rw [if_neg (by omega)]
        by_cases c3 : y' < n
        · rw [if_pos ⟨c1, c3⟩, if_pos ⟨c1, by omega⟩]
        · rw [if_neg (by omega), if_neg (by omega)]
    · rw [if_neg (by omega), if_neg (by omega), if_neg (by omega)]
theorem colL {f : Nat → aT} {x : Nat} {V : Nat → Nat} (hx : x < 32) (hf : ∀ y, f (y + 1) = adT (f y) y x (V y)) (h0 : coh (f 0)) : ∀ n, n ≤ 32 → coh (f n) ∧ ∀ x' y', y' < 32 → (f n).1 (x' * 32 + y') = if y' = x ∧ x' < n then min ((f 0).1 (x' * 32 + y') + V x') 1000000 else (f 0).1 (x' * 32 + y') := by
  intro n
  induction n with
  | zero => exact fun _ => ⟨h0, fun x' y' _ => by rw [if_neg (by omega)]⟩
  | succ n ih =>
    intro hn
    obtain ⟨h1, h2⟩ := ih (by omega)
    rw [hf]
    refine ⟨adT_coh h1 hx, fun x' y' hy' => ?_⟩
    rw [adT_at h1.1 hx hy', h2 x' y' hy']
    by_cases c1 : y' = x
    · by_cases c2 : x' = n
      · subst c2
        rw [if_pos ⟨rfl, c1⟩, if_neg (by omega), if_pos ⟨c1, by omega⟩]
      · rw [if_neg (by omega)]
        by_cases c3 : x' < n
        · rw [if_pos ⟨c1, c3⟩, if_pos ⟨c1, by omega⟩]
        · rw [if_neg (by omega), if_neg (by omega)]
    · rw [if_neg (by omega), if_neg (by omega), if_neg (by omega)]
/-- rows one after the other -/
theorem rowsL {f : Nat → aT} {V : Nat → Nat → Nat} (hf : ∀ x, x < 32 → coh (f x) → coh (f (x + 1)) ∧ ∀ x' y', y' < 32 → (f (x + 1)).1 (x' * 32 + y') = if x' = x then min ((f x).1 (x' * 32 + y') + V x' y') 1000000 else (f x).1 (x' * 32 + y')) (h0 : coh (f 0)) : ∀ n, n ≤ 32 → coh (f n) ∧ ∀ x' y', y' < 32 → (f n).1 (x' * 32 + y') = if x' < n then min ((f 0).1 (x' * 32 + y') + V x' y') 1000000 else (f 0).1 (x' * 32 + y') := by
  intro n
  induction n with
  | zero => exact fun _ => ⟨h0, fun x' y' _ => by rw [if_neg (by omega)]⟩
  | succ n ih =>
    intro hn
    obtain ⟨h1, h2⟩ := ih (by omega)
    obtain ⟨h3, h4⟩ := hf n (by omega) h1
    refine ⟨h3, fun x' y' hy' => ?_⟩
    rw [h4 x' y' hy', h2 x' y' hy']
    by_cases c1 : x' = n
    · rw [if_pos c1, if_neg (by omega), if_pos (by omega)]
    · rw [if_neg c1]
      by_cases c2 : x' < n
      · rw [if_pos c2, if_pos (by omega)]
      · rw [if_neg c2, if_neg (by omega)]
theorem ca1_at {G : Nat → Nat} {t : aT} (h : coh t) : coh (ca1 G t 32) ∧ ∀ x y, x < 32 → y < 32 → (ca1 G t 32).1 (x * 32 + y) = min (t.1 (x * 32 + y) + G (x * 32 + y)) 1000000 := by
  have e0 : ca1 G t 0 = t := by rw [ca1]
  have h1 := rowsL (f := ca1 G t) (V := fun x y => G (x * 32 + y)) (fun x hx hc => by
    have e1 : ca2 G x (ca1 G t x) 0 = ca1 G t x := by rw [ca2]
    have h2 := rowL (f := ca2 G x (ca1 G t x)) (x := x) (V := fun y => G (x * 32 + y)) (fun y => by rw [ca2]) (by rw [e1]; exact hc) 32 (Nat.le_refl _)
    rw [e1] at h2
    rw [ca1]
    refine ⟨h2.1, fun x' y' hy' => ?_⟩
    rw [h2.2 x' y' hy']
    by_cases c : x' = x
    · subst c
      rw [if_pos ⟨rfl, hy'⟩, if_pos rfl]
    · rw [if_neg (by omega), if_neg c]) (by rw [e0]; exact h) 32 (Nat.le_refl _)
  rw [e0] at h1
  exact ⟨h1.1, fun x y hx hy => by rw [h1.2 x y hy, if_pos hx]⟩
theorem cl1_at {lk : Nat → Int32} {li : Int32} {t : aT} (h : coh t) : coh (cl1 lk li t 32) ∧ ∀ x y, x < 32 → y < 32 → (cl1 lk li t 32).1 (x * 32 + y) = min (t.1 (x * 32 + y) + pcb (bt (lk (x * 32 + y) &&& li)) 32) 1000000 := by
  have e0 : cl1 lk li t 0 = t := by rw [cl1]
  have h1 := rowsL (f := cl1 lk li t) (V := fun x y => pcb (bt (lk (x * 32 + y) &&& li)) 32) (fun x hx hc => by
    have e1 : cl2 lk li x (cl1 lk li t x) 0 = cl1 lk li t x := by rw [cl2]
    have h2 := rowL (f := cl2 lk li x (cl1 lk li t x)) (x := x) (V := fun y => pcb (bt (lk (x * 32 + y) &&& li)) 32) (fun y => by rw [cl2]) (by rw [e1]; exact hc) 32 (Nat.le_refl _)
    rw [e1] at h2
    rw [cl1]
    refine ⟨h2.1, fun x' y' hy' => ?_⟩
    rw [h2.2 x' y' hy']
    by_cases c : x' = x
    · subst c
      rw [if_pos ⟨rfl, hy'⟩, if_pos rfl]
    · rw [if_neg (by omega), if_neg c]) (by rw [e0]; exact h) 32 (Nat.le_refl _)
  rw [e0] at h1
  exact ⟨h1.1, fun x y hx hy => by rw [h1.2 x y hy, if_pos hx]⟩
theorem ct1_at {G : Nat → Nat} {t : aT} (h : coh t) : ∀ n, n ≤ 32 → coh (ct1 G t n) ∧ ∀ x y, x < 32 → y < 32 → (ct1 G t n).1 (x * 32 + y) = if y < n then min (t.1 (x * 32 + y) + G (y * 32 + x)) 1000000 else t.1 (x * 32 + y) := by
  intro n
  induction n with
  | zero => exact fun _ => ⟨by rw [ct1]; exact h, fun x' y' _ _ => by rw [ct1, if_neg (by omega)]⟩
  | succ n ih =>
    intro hn
    obtain ⟨h1, h2⟩ := ih (by omega)
    have e1 : ct2 G n (ct1 G t n) 0 = ct1 G t n := by rw [ct2]
    have h3 := colL (f := ct2 G n (ct1 G t n)) (x := n) (V := fun y => G (n * 32 + y)) (by omega) (fun y => by rw [ct2]) (by rw [e1]; exact h1) 32 (Nat.le_refl _)
    rw [e1] at h3
    rw [ct1]
    refine ⟨h3.1, fun x' y' hx' hy' => ?_⟩
    rw [h3.2 x' y' hy', h2 x' y' hx' hy']
    by_cases c : y' = n
    · subst c
      rw [if_pos ⟨rfl, hx'⟩, if_neg (by omega), if_pos (by omega)]
    · rw [if_neg (by omega)]
      by_cases c2 : y' < n
      · rw [if_pos c2, if_pos (by omega)]
      · rw [if_neg c2, if_neg (by omega)]
/-- the sum over what lies between -/
def sgz (G G3 : Nat → Nat) (x y : Nat) : Nat → Nat
  | 0 => 0
  | z + 1 => sgz G G3 x y z + G (x * 32 + z) * G3 (z * 32 + y)
termination_by z => z
theorem cb2_at {G G3 : Nat → Nat} {J3 : Nat → Int32} {x : Nat} {t : aT} (hc3 : coh (G3, J3)) (h : coh t) : ∀ n, n ≤ 32 → coh (cb2 G G3 J3 x t n) ∧ ∀ x' y', y' < 32 → (cb2 G G3 J3 x t n).1 (x' * 32 + y') = if x' = x then min (t.1 (x' * 32 + y') + sgz G G3 x y' n) 1000000 else t.1 (x' * 32 + y') := by
  intro n
  induction n with
  | zero =>
    refine fun _ => ⟨by rw [cb2]; exact h, fun x' y' _ => ?_⟩
    rw [cb2, sgz]
    have := h.1 (x' * 32 + y')
    split
    · omega
    · rfl
  | succ n ih =>
    intro hn
    obtain ⟨h1, h2⟩ := ih (by omega)
    rw [cb2]
    by_cases c : G (x * 32 + n) = 0 ∨ J3 n = 0
    · rw [if_pos c]
      refine ⟨h1, fun x' y' hy' => ?_⟩
      rw [h2 x' y' hy', sgz]
      have e : G (x * 32 + n) * G3 (n * 32 + y') = 0 := by
        rcases c with c | c
        · rw [c, Nat.zero_mul]
        · have h9 := hc3.2 n y' (by omega) hy'
          rw [show ((G3, J3) : aT).2 n = J3 n from rfl, c, b_0] at h9
          have : G3 (n * 32 + y') = 0 := by
            rcases Nat.eq_zero_or_pos (G3 (n * 32 + y')) with h8 | h8
            · exact h8
            · exact absurd (h9.mpr (by show ¬ G3 _ = 0; omega)) (by simp)
          rw [this, Nat.mul_zero]
      rw [e, Nat.add_zero]
    · rw [if_neg c]
      have e1 : ab1 G3 x (G (x * 32 + n)) n (cb2 G G3 J3 x t n) 0 = cb2 G G3 J3 x t n := by rw [ab1]
      have h3 := rowL (f := ab1 G3 x (G (x * 32 + n)) n (cb2 G G3 J3 x t n)) (x := x) (V := fun y => G (x * 32 + n) * G3 (n * 32 + y)) (fun y => by rw [ab1]) (by rw [e1]; exact h1) 32 (Nat.le_refl _)
      rw [e1] at h3
      refine ⟨h3.1, fun x' y' hy' => ?_⟩
      rw [h3.2 x' y' hy', h2 x' y' hy', sgz]
      by_cases c1 : x' = x
      · rw [if_pos ⟨c1, hy'⟩, if_pos c1, if_pos c1]
        generalize G (x * 32 + n) * G3 (n * 32 + y') = v
        omega
      · rw [if_neg (by omega), if_neg c1, if_neg c1]
theorem cb1_at {G G3 : Nat → Nat} {J3 : Nat → Int32} {t : aT} (hc3 : coh (G3, J3)) (h : coh t) : coh (cb1 G G3 J3 t 32) ∧ ∀ x y, x < 32 → y < 32 → (cb1 G G3 J3 t 32).1 (x * 32 + y) = min (t.1 (x * 32 + y) + sgz G G3 x y 32) 1000000 := by
  have e0 : cb1 G G3 J3 t 0 = t := by rw [cb1]
  have h1 := rowsL (f := cb1 G G3 J3 t) (V := fun x y => sgz G G3 x y 32) (fun x hx hc => by
    have h2 := cb2_at (x := x) (G := G) hc3 hc 32 (Nat.le_refl _)
    rw [cb1]
    refine ⟨h2.1, fun x' y' hy' => ?_⟩
    rw [h2.2 x' y' hy']
    by_cases c : x' = x
    · subst c
      rw [if_pos rfl]
    · rw [if_neg c, if_neg c]) (by rw [e0]; exact h) 32 (Nat.le_refl _)
  rw [e0] at h1
  exact ⟨h1.1, fun x y hx hy => by rw [h1.2 x y hy, if_pos hx]⟩
