/-! PURE: levels, on both sides -/
theorem mi_at {J : Nat → Int32} {edge lvl : Int32} {t : (Nat → Int32) × Int32} : ∀ n, n ≤ 32 → (∀ y, (mi J edge lvl t n).1 y = if y < n ∧ bt edge y = true then lvl else t.1 y) ∧ ∀ y, (bt (mi J edge lvl t n).2 y = true ↔ bt t.2 y = true ∨ ∃ z, z < n ∧ bt edge z = true ∧ bt (J z) y = true) := by
  intro n
  induction n with
  | zero =>
    intro _
    rw [mi]
    exact ⟨fun y => by rw [if_neg (by omega)], fun y => ⟨Or.inl, fun h => by
      rcases h with h | ⟨z, hz, -⟩
      · exact h
      · omega⟩⟩
  | succ n ih =>
    intro hn
    obtain ⟨h1, h2⟩ := ih (by omega)
    rw [mi]
    by_cases c : bt edge n = true
    · rw [if_pos c]
      refine ⟨fun y => ?_, fun y => ?_⟩
      · show upd _ _ _ _ = _
        by_cases cy : y = n
        · subst cy; rw [ud_s, if_pos ⟨by omega, c⟩]
        · rw [ud_n cy, h1 y]
          by_cases c2 : y < n ∧ bt edge y = true
          · rw [if_pos c2, if_pos ⟨by omega, c2.2⟩]
          · rw [if_neg c2, if_neg (fun q => c2 ⟨by omega, q.2⟩)]
      · show bt (_ ||| _) y = true ↔ _
        rw [b_or, Bool.or_eq_true, h2 y]
        constructor
        · rintro ((h | ⟨z, hz, h⟩) | h)
          · exact Or.inl h
          · exact Or.inr ⟨z, by omega, h⟩
          · exact Or.inr ⟨n, by omega, c, h⟩
        · rintro (h | ⟨z, hz, h3, h4⟩)
          · exact Or.inl (Or.inl h)
          · by_cases cz : z = n
            · subst cz; exact Or.inr h4
            · exact Or.inl (Or.inr ⟨z, by omega, h3, h4⟩)
    · rw [if_neg c]
      refine ⟨fun y => ?_, fun y => ?_⟩
      · rw [h1 y]
        by_cases c2 : y < n ∧ bt edge y = true
        · rw [if_pos c2, if_pos ⟨by omega, c2.2⟩]
        · rw [if_neg c2, if_neg (fun q => c2 ⟨by
            rcases Nat.lt_or_ge y n with h | h
            · exact h
            · have : y = n := by omega
              subst this
              exact absurd q.2 c, q.2⟩)]
      · rw [h2 y]
        constructor
        · rintro (h | ⟨z, hz, h⟩)
          · exact Or.inl h
          · exact Or.inr ⟨z, by omega, h⟩
        · rintro (h | ⟨z, hz, h3, h4⟩)
          · exact Or.inl h
          · by_cases cz : z = n
            · subst cz; exact absurd h3 c
            · exact Or.inr ⟨z, by omega, h3, h4⟩
theorem mo1_inv {J : Nat → Int32} {x : Nat} {lv : Nat → Int32} : ∀ k, (∀ y, y < 32 → (bt (mo1 J (nI 0, J x, lv) k).2.1 y = true ↔ fst1 (eJ J) x k y)) ∧ (∀ y, y < 32 → (bt (mo1 J (nI 0, J x, lv) k).1 y = true ↔ ∃ m, m < k ∧ wl (eJ J) x m y)) ∧ (∀ y, y < 32 → ∀ m, m < k → fst1 (eJ J) x m y → (mo1 J (nI 0, J x, lv) k).2.2 y = nI (m + 1)) ∧ (∀ y, y < 32 → (∀ m, m < k → ¬ wl (eJ J) x m y) → (mo1 J (nI 0, J x, lv) k).2.2 y = lv y) := by
  intro k
  induction k with
  | zero =>
    rw [mo1]
    refine ⟨fun y hy => ⟨fun h => ⟨h, fun m hm => absurd hm (by omega)⟩, fun h => h.1⟩, fun y hy => ⟨fun h => ?_, fun ⟨m, hm, _⟩ => absurd hm (by omega)⟩, fun y hy m hm => absurd hm (by omega), fun y hy _ => rfl⟩
    rw [show ((nI 0, J x, lv) : oT).1 = 0 from nI_0, b_0] at h
    exact absurd h (by simp)
  | succ k ih =>
    obtain ⟨h1, h2, h3, h4⟩ := ih
    rw [mo1]
    generalize mo1 J (nI 0, J x, lv) k = t at h1 h2 h3 h4
    unfold moS
    have hsplit : ∀ y, (∃ m, m < k + 1 ∧ wl (eJ J) x m y) ↔ (∃ m, m < k ∧ wl (eJ J) x m y) ∨ fst1 (eJ J) x k y := by
      intro y
      constructor
      · rintro ⟨m, hm, hw⟩
        obtain ⟨m', hm', hf⟩ := wl_fst m hw
        by_cases c : m' = k
        · subst c; exact Or.inr hf
        · exact Or.inl ⟨m', by omega, hf.1⟩
      · rintro (⟨m, hm, hw⟩ | h)
        · exact ⟨m, by omega, hw⟩
        · exact ⟨k, by omega, h.1⟩
    by_cases c : t.2.1 = 0
    · rw [if_pos c]
      have hno : ∀ y, y < 32 → ¬ fst1 (eJ J) x k y := fun y hy hf => by
        have := (h1 y hy).mpr hf
        rw [c, b_0] at this
        exact absurd this (by simp)
      refine ⟨fun y hy => ⟨fun h => ?_, fun h => ?_⟩, fun y hy => ?_, fun y hy m hm hf => ?_, fun y hy hn => ?_⟩
      · rw [c, b_0] at h; exact absurd h (by simp)
      · obtain ⟨z, hz, hf, -⟩ := fst_prev h
        exact absurd hf (hno z hz)
      · rw [h2 y hy, hsplit y]
        exact ⟨Or.inl, fun h => h.elim id (fun q => absurd q (hno y hy))⟩
      · by_cases cm : m = k
        · subst cm; exact absurd hf (hno y hy)
        · exact h3 y hy m (by omega) hf
      · exact h4 y hy (fun m hm => hn m (by omega))
    · rw [if_neg c]
      obtain ⟨m1, m2⟩ := mi_at (J := J) (edge := t.2.1) (lvl := nI (k + 1)) (t := (t.2.2, nI 0)) 32 (Nat.le_refl _)
      have hse : ∀ y, y < 32 → (bt (t.1 ||| t.2.1) y = true ↔ ∃ m, m < k + 1 ∧ wl (eJ J) x m y) := fun y hy => by
        rw [b_or, Bool.or_eq_true, h1 y hy, h2 y hy, hsplit y]
      refine ⟨fun y hy => ?_, fun y hy => hse y hy, fun y hy m hm hf => ?_, fun y hy hn => ?_⟩
      · show bt (_ &&& (_ ^^^ (-1))) y = true ↔ _
        rw [b_and, b_xor, b_m1 y hy, Bool.and_eq_true, m2 y]
        have e1 : (bt (t.1 ||| t.2.1) y ^^ true) = true ↔ ¬ ∃ m, m < k + 1 ∧ wl (eJ J) x m y := by
          rw [← hse y hy]
          cases bt (t.1 ||| t.2.1) y <;> simp
        rw [e1]
        constructor
        · rintro ⟨h | ⟨z, hz, h5, h6⟩, h7⟩
          · rw [show ((t.2.2, nI 0) : (Nat → Int32) × Int32).2 = 0 from nI_0, b_0] at h
            exact absurd h (by simp)
          · exact ⟨⟨z, hz, ((h1 z hz).mp h5).1, h6⟩, fun m hm hw => h7 ⟨m, hm, hw⟩⟩
        · intro h
          obtain ⟨z, hz, hf, he⟩ := fst_prev h
          exact ⟨Or.inr ⟨z, hz, (h1 z hz).mpr hf, he⟩, fun ⟨m, hm, hw⟩ => h.2 m hm hw⟩
      · show (mi J t.2.1 (nI (k + 1)) (t.2.2, nI 0) 32).1 y = _
        rw [m1 y]
        by_cases cm : m = k
        · subst cm
          rw [if_pos ⟨hy, (h1 y hy).mpr hf⟩]
        · rw [if_neg (fun q => cm (fst_uniq hf ((h1 y hy).mp q.2)))]
          exact h3 y hy m (by omega) hf
      · show (mi J t.2.1 (nI (k + 1)) (t.2.2, nI 0) 32).1 y = _
        rw [m1 y, if_neg (fun q => hn k (by omega) ((h1 y hy).mp q.2).1)]
        exact h4 y hy (fun m hm => hn m (by omega))
theorem mwF_at {J : Nat → Int32} {x y m : Nat} {lv : Nat → Int32} (hy : y < 32) (h : fst1 (eJ J) x m y) : mwF J x lv y = nI (m + 1) := (mo1_inv (J := J) (x := x) (lv := lv) 32).2.2.1 y hy m (fst_lt hy h) h
/-! the reference's queue -/
abbrev eM (M : Nat → Nat) (a : Nat) : eT := fun i j => 0 < M (1024 * a + 32 * i + j)
abbrev dq (t : wT) (v : Nat) : Nat := (t.1 v).toNatClampNeg
abbrev zq (t : wT) (i : Nat) : Nat := (t.2.1 i).toNatClampNeg
def qI (E : eT) (x k : Nat) (t : wT) : Prop := wI t ∧ (∀ v, v < 32 → 0 < dq t v → wl E x (dq t v - 1) v ∧ ∃ i, i < t.2.2 ∧ zq t i = v) ∧ (∀ i, i < t.2.2 → zq t i < 32 ∧ 0 < dq t (zq t i)) ∧ (∀ i j, i ≤ j → j < t.2.2 → dq t (zq t i) ≤ dq t (zq t j)) ∧ (∀ i j, k ≤ i → i < t.2.2 → j < t.2.2 → dq t (zq t j) ≤ dq t (zq t i) + 1) ∧ (∀ y, y < 32 → E x y → dq t y = 1) ∧ (∀ i y, i < k → i < t.2.2 → y < 32 → E (zq t i) y → 0 < dq t y ∧ dq t y ≤ dq t (zq t i) + 1)
theorem m1_cl : (-1 : Int32).toNatClampNeg = 0 := by decide +kernel
theorem wI.val {t : wT} (h : wI t) {v : Nat} (hv : v < 32) : (t.1 v = -1 ∧ dq t v = 0) ∨ (0 < dq t v ∧ dq t v ≤ 32 ∧ t.1 v = nI (dq t v)) := by
  rcases h.2.1 v hv with h1 | ⟨d, h1, h2, h3⟩
  · exact Or.inl ⟨h1, by show (t.1 v).toNatClampNeg = 0; rw [h1]; exact m1_cl⟩
  · have h4 := h.le
    have e : dq t v = d := by show (t.1 v).toNatClampNeg = d; rw [h3]; exact nI_clamp (by omega)
    exact Or.inr ⟨by omega, by omega, by rw [e]; exact h3⟩
theorem qI_2 {M : Nat → Nat} {a x k : Nat} {st : wT} (h : qI (eM M a) x k st) (hk : k < st.2.2) : ∀ y, y ≤ 32 → qI (eM M a) x k (wk2 M a (zq st k) st y) ∧ zq (wk2 M a (zq st k) st y) k = zq st k ∧ k < (wk2 M a (zq st k) st y).2.2 ∧ ∀ v, v < y → eM M a (zq st k) v → 0 < dq (wk2 M a (zq st k) st y) v ∧ dq (wk2 M a (zq st k) st y) v ≤ dq (wk2 M a (zq st k) st y) (zq st k) + 1 := by
  intro y
  induction y with
  | zero =>
    intro _
    rw [wk2]
    exact ⟨h, rfl, hk, fun v hv => absurd hv (by omega)⟩
  | succ y ih =>
    intro hy
    obtain ⟨q, e0, hk1, hg⟩ := ih (by omega)
    have hz0 := (h.2.2.1 k hk).1
    have hd0 := (h.2.2.1 k hk).2
    have hw2 := wI_2 (M := M) (a := a) h.1 hz0 (fun q9 => by
      rcases h.1.val hz0 with h8 | h8
      · omega
      · rw [q9] at h8
        exact absurd h8.2.2 (fun q8 => nI_m1 (by omega) q8.symm)) (y + 1) hy
    rw [wk2] at hw2 ⊢
    generalize wk2 M a (zq st k) st y = t at q e0 hk1 hg hw2 ⊢
    generalize zq st k = z at e0 hg hz0 hw2 ⊢
    obtain ⟨q1, q2, q3, q4, q5, q6, q7⟩ := q
    have hyl : y < 32 := by omega
    have hneg := q1.neg hyl
    by_cases c : 0 ≤ t.1 y ∨ M (1024 * a + 32 * z + y) ≤ 0
    · rw [if_pos c]
      refine ⟨⟨q1, q2, q3, q4, q5, q6, q7⟩, e0, hk1, fun v hv hE => ?_⟩
      by_cases cv : v = y
      · subst cv
        have hp : 0 < dq t v := by
          rcases c with c | c
          · rcases q1.val hyl with h8 | h8
            · exact absurd c (hneg.mpr h8.1)
            · exact h8.1
          · exact absurd hE (by show ¬ 0 < _; omega)
        refine ⟨hp, ?_⟩
        obtain ⟨-, i, hi, ei⟩ := q2 v hyl hp
        have := q5 k i (Nat.le_refl _) hk1 hi
        rw [ei, e0] at this
        exact this
      · exact hg v (by omega) hE
    · rw [if_neg c] at hw2 ⊢
      have c1 : t.1 y = -1 := hneg.mp (fun q => c (Or.inl q))
      have c2 : 0 < M (1024 * a + 32 * z + y) := by omega
      have hdy : dq t y = 0 := by show (t.1 y).toNatClampNeg = 0; rw [c1]; exact m1_cl
      have hzz := q3 k hk1
      rw [e0] at hzz
      have hyz : ¬ z = y := fun q => by rw [q] at hzz; omega
      obtain ⟨hv1, hv2, hv3⟩ := (q1.val hz0).resolve_left (fun q => by omega)
      have hnew : t.1 z + nI 1 = nI (dq t z + 1) := by rw [hv3]; exact nI_add _ _
      generalize et : ((upd t.1 y (t.1 z + nI 1), upd t.2.1 t.2.2 (nI y), t.2.2 + 1) : wT) = t' at hw2 ⊢
      have ed : ∀ v, dq t' v = if v = y then dq t z + 1 else dq t v := fun v => by
        rw [← et]
        show (upd t.1 y _ v).toNatClampNeg = _
        by_cases cv : v = y
        · subst cv
          rw [ud_s, if_pos rfl, hnew]
          exact nI_clamp (by omega)
        · rw [ud_n cv, if_neg cv]
      have ez : ∀ i, zq t' i = if i = t.2.2 then y else zq t i := fun i => by
        rw [← et]
        show (upd t.2.1 _ _ i).toNatClampNeg = _
        by_cases cv : i = t.2.2
        · subst cv
          rw [ud_s, if_pos rfl]
          exact nI_clamp (by omega)
        · rw [ud_n cv, if_neg cv]
      have en : t'.2.2 = t.2.2 + 1 := by rw [← et]
      have hqy : ∀ i, i < t.2.2 → ¬ zq t i = y := fun i hi q => by
        have := (q3 i hi).2
        rw [q] at this
        omega
      have edz : ∀ i, i < t.2.2 + 1 → dq t' (zq t' i) = if i = t.2.2 then dq t z + 1 else dq t (zq t i) := fun i hi => by
        rw [ez i, ed]
        by_cases ci : i = t.2.2
        · rw [if_pos ci, if_pos ci, if_pos rfl]
        · rw [if_neg ci, if_neg ci, if_neg (hqy i (by omega))]
      have hup : ∀ i, i < t.2.2 → dq t (zq t i) ≤ dq t z + 1 := fun i hi => by
        have := q5 k i (Nat.le_refl _) hk1 hi
        rw [e0] at this
        exact this
      have hbk : ∀ i, k ≤ i → i < t.2.2 → dq t z ≤ dq t (zq t i) := fun i h1 h2 => by
        have := q4 k i h1 h2
        rw [e0] at this
        exact this
      refine ⟨⟨hw2.1, fun v hv hp => ?_, fun i hi => ?_, fun i j hij hj => ?_, fun i j hki hi hj => ?_, fun v hv hE => ?_, fun i v hik hi hv hE => ?_⟩, ?_, ?_, fun v hv hE => ?_⟩
      · rw [ed v] at hp ⊢
        rw [en]
        by_cases cv : v = y
        · subst cv
          rw [if_pos rfl]
          refine ⟨?_, t.2.2, by omega, by rw [ez, if_pos rfl]⟩
          have := (q2 z hz0 (by omega)).1
          have e9 : dq t z + 1 - 1 = (dq t z - 1) + 1 := by omega
          rw [e9]
          exact ⟨z, hz0, this, c2⟩
        · rw [if_neg cv] at hp ⊢
          obtain ⟨h1, i, hi, ei⟩ := q2 v hv hp
          exact ⟨h1, i, by omega, by rw [ez, if_neg (by omega)]; exact ei⟩
      · rw [en] at hi
        rw [edz i hi, ez i]
        by_cases ci : i = t.2.2
        · rw [if_pos ci, if_pos ci]; exact ⟨hyl, by omega⟩
        · rw [if_neg ci, if_neg ci]; exact q3 i (by omega)
      · rw [en] at hj
        rw [edz i (by omega), edz j hj]
        by_cases cj : j = t.2.2
        · rw [if_pos cj]
          by_cases ci : i = t.2.2
          · rw [if_pos ci]; exact Nat.le_refl _
          · rw [if_neg ci]; exact hup i (by omega)
        · rw [if_neg cj, if_neg (by omega)]; exact q4 i j hij (by omega)
      · rw [en] at hi hj
        rw [edz i hi, edz j hj]
        by_cases ci : i = t.2.2
        · rw [if_pos ci]
          by_cases cj : j = t.2.2
          · rw [if_pos cj]; omega
          · rw [if_neg cj]; have := hup j (by omega); omega
        · rw [if_neg ci]
          by_cases cj : j = t.2.2
          · rw [if_pos cj]; have := hbk i hki (by omega); omega
          · rw [if_neg cj]; exact q5 i j hki (by omega) (by omega)
      · have h1 := q6 v hv hE
        rw [ed v, if_neg (fun q => by rw [q] at h1; omega)]
        exact h1
      · rw [en] at hi
        rw [edz i hi, if_neg (by omega)]
        rw [ez i, if_neg (by omega)] at hE
        obtain ⟨h1, h2⟩ := q7 i v hik (by omega) hv hE
        rw [ed v, if_neg (fun q => by rw [q] at h1; omega)]
        exact ⟨h1, h2⟩
      · rw [ez, if_neg (by omega)]; exact e0
      · omega
      · rw [ed v, ed z, if_neg hyz]
        by_cases cv : v = y
        · rw [if_pos cv]; omega
        · rw [if_neg cv]; exact hg v (by omega) hE
