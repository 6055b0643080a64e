/-! PURE: the reference's walk, whole -/
theorem qI_1 {M : Nat → Nat} {a x : Nat} {sp qu : Nat → Int32} : ∀ y, y ≤ 32 → (∀ v, v < y → ((wk1 M a x sp qu y).1 v = nI 1 ∧ eM M a x v ∧ ∃ i, i < (wk1 M a x sp qu y).2.2 ∧ (wk1 M a x sp qu y).2.1 i = nI v) ∨ ((wk1 M a x sp qu y).1 v = -1 ∧ ¬ eM M a x v)) ∧ (∀ i, i < (wk1 M a x sp qu y).2.2 → ∃ z, z < y ∧ (wk1 M a x sp qu y).2.1 i = nI z ∧ (wk1 M a x sp qu y).1 z = nI 1) := by
  intro y
  induction y with
  | zero =>
    intro _
    rw [wk1]
    exact ⟨fun v hv => absurd hv (by omega), fun i hi => absurd hi (by show ¬ i < 0; omega)⟩
  | succ y ih =>
    intro hy
    obtain ⟨h1, h2⟩ := ih (by omega)
    rw [wk1]
    generalize wk1 M a x sp qu y = t at h1 h2 ⊢
    by_cases c : M (1024 * a + 32 * x + y) ≤ 0
    · rw [if_pos c]
      refine ⟨fun v hv => ?_, fun i hi => ?_⟩
      · by_cases cv : v = y
        · subst cv
          exact Or.inr ⟨ud_s, by show ¬ 0 < _; omega⟩
        · show (upd _ _ _ _ = _ ∧ _) ∨ (upd _ _ _ _ = _ ∧ _)
          rw [ud_n cv]
          exact h1 v (by omega)
      · obtain ⟨z, hz, e1, e2⟩ := h2 i hi
        refine ⟨z, by omega, e1, ?_⟩
        show upd _ _ _ _ = _
        rw [ud_n (by omega)]
        exact e2
    · rw [if_neg c]
      refine ⟨fun v hv => ?_, fun i hi => ?_⟩
      · by_cases cv : v = y
        · subst cv
          exact Or.inl ⟨ud_s, by show 0 < _; omega, t.2.2, Nat.lt_succ_self _, ud_s⟩
        · show (upd (upd _ _ _) _ _ _ = _ ∧ _ ∧ ∃ i, i < t.2.2 + 1 ∧ upd _ _ _ _ = _) ∨ (upd (upd _ _ _) _ _ _ = _ ∧ _)
          rw [ud_n cv, ud_n cv]
          rcases h1 v (by omega) with ⟨e1, e2, i, hi, e3⟩ | h
          · exact Or.inl ⟨e1, e2, i, by omega, by rw [ud_n (by omega)]; exact e3⟩
          · exact Or.inr h
      · have hi : i < t.2.2 + 1 := hi
        show ∃ z, z < y + 1 ∧ upd _ _ _ _ = _ ∧ upd (upd _ _ _) _ _ _ = _
        by_cases ci : i = t.2.2
        · exact ⟨y, by omega, by rw [ci, ud_s], by rw [ud_s]⟩
        · obtain ⟨z, hz, e1, e2⟩ := h2 i (by omega)
          exact ⟨z, by omega, by rw [ud_n ci]; exact e1, by rw [ud_n (by omega), ud_n (by omega)]; exact e2⟩
theorem qI_0 {M : Nat → Nat} {a x : Nat} {sp qu : Nat → Int32} : qI (eM M a) x 0 (wk1 M a x sp qu 32) := by
  have hw := wI_1 (M := M) (a := a) (x := x) (sp := sp) (qu := qu)
  obtain ⟨h1, h2⟩ := qI_1 (M := M) (a := a) (x := x) (sp := sp) (qu := qu) 32 (Nat.le_refl _)
  generalize wk1 M a x sp qu 32 = t at hw h1 h2 ⊢
  have c1 : (nI 1).toNatClampNeg = 1 := by decide +kernel
  have hz : ∀ i, i < t.2.2 → zq t i < 32 ∧ dq t (zq t i) = 1 := fun i hi => by
    obtain ⟨z, hz, e1, e2⟩ := h2 i hi
    have ez : zq t i = z := by show (t.2.1 i).toNatClampNeg = z; rw [e1]; exact nI_clamp (by omega)
    rw [ez]
    exact ⟨hz, by show (t.1 z).toNatClampNeg = 1; rw [e2]; exact c1⟩
  have hd : ∀ v, v < 32 → (dq t v = 1 ∧ eM M a x v ∧ ∃ i, i < t.2.2 ∧ zq t i = v) ∨ (dq t v = 0 ∧ ¬ eM M a x v) := fun v hv => by
    rcases h1 v hv with ⟨e1, e2, i, hi, e3⟩ | ⟨e1, e2⟩
    · exact Or.inl ⟨by show (t.1 v).toNatClampNeg = 1; rw [e1]; exact c1, e2, i, hi, by show (t.2.1 i).toNatClampNeg = v; rw [e3]; exact nI_clamp (by omega)⟩
    · exact Or.inr ⟨by show (t.1 v).toNatClampNeg = 0; rw [e1]; exact m1_cl, e2⟩
  refine ⟨hw, fun v hv hp => ?_, fun i hi => ⟨(hz i hi).1, by rw [(hz i hi).2]; omega⟩, fun i j hij hj => by rw [(hz i (by omega)).2, (hz j hj).2]; exact Nat.le_refl _, fun i j _ hi hj => by rw [(hz i hi).2, (hz j hj).2]; omega, fun y hy hE => ?_, fun i y hi => absurd hi (by omega)⟩
  · rcases hd v hv with ⟨e1, e2, e3⟩ | ⟨e1, -⟩
    · rw [e1]
      exact ⟨e2, e3⟩
    · omega
  · rcases hd y hy with ⟨e1, -⟩ | ⟨-, e2⟩
    · exact e1
    · exact absurd hE e2
theorem qI_3 {M : Nat → Nat} {a x : Nat} {st : wT} (h : qI (eM M a) x 0 st) : ∀ k, qI (eM M a) x k (wk3 M a st k) := by
  intro k
  induction k with
  | zero => rw [wk3]; exact h
  | succ k ih =>
    rw [wk3]
    generalize wk3 M a st k = t at ih ⊢
    by_cases c : t.2.2 ≤ k
    · rw [if_pos c]
      obtain ⟨q1, q2, q3, q4, q5, q6, q7⟩ := ih
      exact ⟨q1, q2, q3, q4, fun i j hi => q5 i j (by omega), q6, fun i y _ hi => q7 i y (by omega) hi⟩
    · rw [if_neg c]
      obtain ⟨h1, h2, h3, h4⟩ := qI_2 ih (by omega) 32 (Nat.le_refl _)
      show qI _ x (k + 1) (wk2 M a (zq t k) t 32)
      generalize wk2 M a (zq t k) t 32 = t' at h1 h2 h3 h4 ⊢
      obtain ⟨q1, q2, q3, q4, q5, q6, q7⟩ := h1
      refine ⟨q1, q2, q3, q4, fun i j hi => q5 i j (by omega), q6, fun i y hi hi2 hy hE => ?_⟩
      by_cases c2 : i = k
      · rw [c2, h2] at hE ⊢
        exact h4 y hy hE
      · exact q7 i y (by omega) hi2 hy hE
/-- steps: the least number of them, or -1 -/
theorem wkC {M : Nat → Nat} {a x : Nat} {sp qu : Nat → Int32} {y : Nat} (hy : y < 32) : ((wkF M a x sp qu).1 y = -1 ∧ ∀ m, ¬ wl (eM M a) x m y) ∨ ∃ m, m < 32 ∧ (wkF M a x sp qu).1 y = nI (m + 1) ∧ fst1 (eM M a) x m y := by
  unfold wkF
  obtain ⟨q1, q2, q3, q4, q5, q6, q7⟩ := qI_3 (qI_0 (M := M) (a := a) (x := x) (sp := sp) (qu := qu)) 32
  generalize wk3 M a (wk1 M a x sp qu 32) 32 = t at q1 q2 q3 q4 q5 q6 q7 ⊢
  have hn := q1.le
  have key : ∀ m v, v < 32 → wl (eM M a) x m v → 0 < dq t v ∧ dq t v ≤ m + 1 := by
    intro m
    induction m with
    | zero => intro v hv h; have := q6 v hv h; omega
    | succ m ih =>
      intro v hv h
      obtain ⟨z, hz, h1, h2⟩ := h
      obtain ⟨h3, h4⟩ := ih z hz h1
      obtain ⟨-, i, hi, ei⟩ := q2 z hz h3
      have := q7 i v (by omega) hi hv (by rw [ei]; exact h2)
      rw [ei] at this
      omega
  rcases q1.val hy with ⟨h1, h2⟩ | ⟨h1, h2, h3⟩
  · exact Or.inl ⟨h1, fun m hw => by have := (key m y hy hw).1; omega⟩
  · refine Or.inr ⟨dq t y - 1, by omega, by rw [show dq t y - 1 + 1 = dq t y by omega]; exact h3, (q2 y hy h1).1, fun m hm hw => ?_⟩
    have := (key m y hy hw).2
    omega
theorem nI_p {m : Nat} (h : m < 2 ^ 31) : 0 < nI m ↔ 0 < m := by
  have := nI_ltI (a := 0) (b := m) (by decide) h
  rw [nI_0] at this
  exact this
theorem wk_pos {M : Nat → Nat} {a x : Nat} {sp qu : Nat → Int32} {y : Nat} (hy : y < 32) : 0 < (wkF M a x sp qu).1 y ↔ rch (eM M a) x y := by
  rcases wkC (M := M) (a := a) (x := x) (sp := sp) (qu := qu) hy with ⟨h1, h2⟩ | ⟨m, hm, h1, h2⟩
  · rw [h1]
    exact ⟨fun h => absurd h (by decide), fun ⟨m, hw⟩ => absurd hw (h2 m)⟩
  · rw [h1]
    exact ⟨fun _ => ⟨m, h2.1⟩, fun _ => (nI_p (by omega)).mpr (by omega)⟩
theorem wl_congr {E E' : eT} {x : Nat} (hx : x < 32) (h : ∀ i j, i < 32 → j < 32 → (E i j ↔ E' i j)) : ∀ n y, y < 32 → (wl E x n y ↔ wl E' x n y) := by
  intro n
  induction n with
  | zero => intro y hy; exact h x y hx hy
  | succ n ih =>
    intro y hy
    exact ⟨fun ⟨z, hz, h1, h2⟩ => ⟨z, hz, (ih z hz).mp h1, (h z y hz hy).mp h2⟩, fun ⟨z, hz, h1, h2⟩ => ⟨z, hz, (ih z hz).mpr h1, (h z y hz hy).mpr h2⟩⟩
theorem rch_congr {E E' : eT} {x y : Nat} (hx : x < 32) (hy : y < 32) (h : ∀ i j, i < 32 → j < 32 → (E i j ↔ E' i j)) : rch E x y ↔ rch E' x y := ⟨fun ⟨n, q⟩ => ⟨n, (wl_congr hx h n y hy).mp q⟩, fun ⟨n, q⟩ => ⟨n, (wl_congr hx h n y hy).mpr q⟩⟩
theorem fst_congr {E E' : eT} {x y n : Nat} (hx : x < 32) (hy : y < 32) (h : ∀ i j, i < 32 → j < 32 → (E i j ↔ E' i j)) : fst1 E x n y ↔ fst1 E' x n y := ⟨fun q => ⟨(wl_congr hx h n y hy).mp q.1, fun m hm hw => q.2 m hm ((wl_congr hx h m y hy).mpr hw)⟩, fun q => ⟨(wl_congr hx h n y hy).mpr q.1, fun m hm hw => q.2 m hm ((wl_congr hx h m y hy).mp hw)⟩⟩
