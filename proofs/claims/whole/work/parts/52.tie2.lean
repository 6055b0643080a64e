/-! PURE: what is needed, the graph, all tables -/
theorem pm_or {P : Nat} {qa ia ib PM : Nat → Nat} (h : shp P qa ia ib PM) {u : Nat} (h1 : 1 ≤ u) (h2 : u ≤ P) (v : Nat) : pmb (PM u) v ↔ v = u ∨ pmb (PM (ia u)) v ∨ pmb (PM (ib u)) v := by
  obtain ⟨-, -, -, h4⟩ := h.2.1 u h1 h2
  rw [pmb_tb, h4, Nat.testBit_or, Nat.testBit_or, Nat.one_mul, Nat.testBit_two_pow, Bool.or_eq_true, Bool.or_eq_true, decide_eq_true_eq, ← pmb_tb, ← pmb_tb, or_assoc]
  constructor
  · rintro (h | h)
    · exact Or.inl h.symm
    · exact Or.inr h
  · rintro (h | h)
    · exact Or.inl h.symm
    · exact Or.inr h
theorem pm_0 {P : Nat} {qa ia ib PM : Nat → Nat} (h : shp P qa ia ib PM) (v : Nat) : ¬ pmb (PM 0) v := by
  rw [h.1, pmb_tb]
  simp
theorem fn1_at {nd : Nat → Int32} {u : Nat} : ∀ k j, fn1 nd u k j = if 1 ≤ j ∧ j ≤ k then zB (j = u) else nd j := by
  intro k
  induction k with
  | zero => intro j; rw [fn1, if_neg (by omega)]
  | succ k ih =>
    intro j
    rw [fn1]
    by_cases c : j = k + 1
    · subst c; rw [ud_s, if_pos (by omega)]
    · rw [ud_n c, ih j]
      by_cases c2 : 1 ≤ j ∧ j ≤ k
      · rw [if_pos c2, if_pos (by omega)]
      · rw [if_neg c2, if_neg (by omega)]
theorem n1_0 : ¬ nI 1 = 0 := by decide
theorem fn2_inv {P : Nat} {ki fi se : Nat → Int32} {K : Nat → Nat} {KD LI : Nat → Int32} {qa ia ib PM : Nat → Nat} (hp : ptie P ki fi se K KD LI ia ib) (hs : shp P qa ia ib PM) {u : Nat} (hu1 : 1 ≤ u) (hu2 : u ≤ P) {N : Nat → Int32} (hN : ∀ v, 1 ≤ v → v ≤ u → (¬ N v = 0 ↔ v = u)) : ∀ t, t ≤ u → (∀ v, 1 ≤ v → v ≤ u → ¬ fn2 ki ia ib u N t v = 0 → pmb (PM u) v) ∧ ¬ fn2 ki ia ib u N t u = 0 ∧ ∀ q, u - t < q → q ≤ u → ¬ fn2 ki ia ib u N t q = 0 → (¬ ia q = 0 → ¬ fn2 ki ia ib u N t (ia q) = 0) ∧ (¬ ib q = 0 → ¬ fn2 ki ia ib u N t (ib q) = 0) := by
  intro t
  induction t with
  | zero =>
    intro _
    rw [fn2]
    refine ⟨fun v h1 h2 h3 => ?_, (hN u hu1 (Nat.le_refl _)).mpr rfl, fun q h1 h2 => absurd h1 (by omega)⟩
    rw [(hN v h1 h2).mp h3]
    exact shp_self hs hu1 hu2
  | succ t ih =>
    intro ht
    obtain ⟨h1, h2, h3⟩ := ih (by omega)
    rw [fn2]
    generalize fn2 ki ia ib u N t = F at h1 h2 h3 ⊢
    have hq1 : 1 ≤ u - t := by omega
    have hq2 : u - t ≤ u := by omega
    have hq0 : u - (t + 1) = u - t - 1 := by omega
    generalize u - t = q at h3 hq1 hq2 hq0 ⊢
    obtain ⟨e1, e2, e3, e4, e5, e6, e7, e8, e9, e10⟩ := hp q hq1 (by omega)
    have ca : (nI 1 ≤ ki q ∧ ki q ≤ nI 6) ↔ ¬ ia q = 0 := by
      rw [e1, nI_leI (by decide) (by omega), nI_leI (by omega) (by decide)]
      constructor
      · intro h; have := (e4 h).2; omega
      · intro h
        by_cases c : 1 ≤ K q ∧ K q ≤ 6
        · exact c
        · exact absurd (e6 c) h
    have cb : (nI 2 ≤ ki q ∧ ki q ≤ nI 3) ↔ ¬ ib q = 0 := by
      rw [e1, nI_leI (by decide) (by omega), nI_leI (by omega) (by decide)]
      constructor
      · intro h; have := (e5 (by omega)).2; omega
      · intro h
        by_cases c : K q = 2 ∨ K q = 3
        · omega
        · exact absurd (e7 c) h
    have fa : ∀ v, (¬ fn_a ki ia F q v = 0 ↔ ¬ F v = 0 ∨ (v = ia q ∧ ¬ F q = 0 ∧ ¬ ia q = 0)) := fun v => by
      unfold fn_a
      by_cases c : ¬ F q = 0 ∧ (nI 1 ≤ ki q ∧ ki q ≤ nI 6)
      · rw [if_pos c]
        by_cases cv : v = ia q
        · rw [cv, ud_s]
          exact ⟨fun _ => Or.inr ⟨rfl, c.1, ca.mp c.2⟩, fun _ => n1_0⟩
        · rw [ud_n cv]
          exact ⟨Or.inl, fun h => h.elim id (fun h => absurd h.1 cv)⟩
      · rw [if_neg c]
        exact ⟨Or.inl, fun h => h.elim id (fun h => absurd ⟨h.2.1, ca.mpr h.2.2⟩ c)⟩
    have fqq : ¬ fn_a ki ia F q q = 0 ↔ ¬ F q = 0 := by
      rw [fa q]
      exact ⟨fun h => h.elim id (fun h => absurd h.1 (by omega)), Or.inl⟩
    have fb : ∀ v, (¬ fn_b ki ib (fn_a ki ia F q) q v = 0 ↔ ¬ F v = 0 ∨ (v = ia q ∧ ¬ F q = 0 ∧ ¬ ia q = 0) ∨ (v = ib q ∧ ¬ F q = 0 ∧ ¬ ib q = 0)) := fun v => by
      unfold fn_b
      by_cases c : ¬ fn_a ki ia F q q = 0 ∧ (nI 2 ≤ ki q ∧ ki q ≤ nI 3)
      · rw [if_pos c]
        by_cases cv : v = ib q
        · rw [cv, ud_s]
          exact ⟨fun _ => Or.inr (Or.inr ⟨rfl, fqq.mp c.1, cb.mp c.2⟩), fun _ => n1_0⟩
        · rw [ud_n cv, fa v]
          constructor
          · rintro (h | h)
            · exact Or.inl h
            · exact Or.inr (Or.inl h)
          · rintro (h | h | h)
            · exact Or.inl h
            · exact Or.inr h
            · exact absurd h.1 cv
      · rw [if_neg c, fa v]
        constructor
        · rintro (h | h)
          · exact Or.inl h
          · exact Or.inr (Or.inl h)
        · rintro (h | h | h)
          · exact Or.inl h
          · exact Or.inr h
          · exact absurd ⟨fqq.mpr h.2.1, cb.mpr h.2.2⟩ c
    refine ⟨fun v hv1 hv2 h => ?_, (fb u).mpr (Or.inl h2), fun r hr1 hr2 h => ?_⟩
    · rcases (fb v).mp h with h | ⟨e, hF, h0⟩ | ⟨e, hF, h0⟩
      · exact h1 v hv1 hv2 h
      · rw [e]
        exact (shp_sub hs u hu2 q hq1 (h1 q hq1 hq2 hF)).2 _ (shp_a hs hq1 (by omega) h0)
      · rw [e]
        exact (shp_sub hs u hu2 q hq1 (h1 q hq1 hq2 hF)).2 _ (shp_b hs hq1 (by omega) h0)
    · have hF : ¬ F r = 0 := by
        rcases (fb r).mp h with h | ⟨e, -⟩ | ⟨e, -⟩
        · exact h
        · omega
        · omega
      by_cases c : r = q
      · subst c
        exact ⟨fun h0 => (fb _).mpr (Or.inr (Or.inl ⟨rfl, hF, h0⟩)), fun h0 => (fb _).mpr (Or.inr (Or.inr ⟨rfl, hF, h0⟩))⟩
      · obtain ⟨k1, k2⟩ := h3 r (by omega) hr2 hF
        exact ⟨fun h0 => (fb _).mpr (Or.inl (k1 h0)), fun h0 => (fb _).mpr (Or.inl (k2 h0))⟩
theorem need {P : Nat} {ki fi se nd : Nat → Int32} {K : Nat → Nat} {KD LI : Nat → Int32} {qa ia ib PM : Nat → Nat} (hp : ptie P ki fi se K KD LI ia ib) (hs : shp P qa ia ib PM) {u : Nat} (hu1 : 1 ≤ u) (hu2 : u ≤ P) {v : Nat} (hv1 : 1 ≤ v) (hv2 : v ≤ u) : ¬ fn2 ki ia ib u (fn1 nd u P) u v = 0 ↔ pmb (PM u) v := by
  obtain ⟨h1, h2, h3⟩ := fn2_inv hp hs hu1 hu2 (N := fn1 nd u P) (fun v a b => by rw [fn1_at, if_pos (by omega)]; exact zB_1) u (Nat.le_refl _)
  refine ⟨h1 v hv1 hv2, fun h => ?_⟩
  have key : ∀ q, q ≤ u → 1 ≤ q → ¬ fn2 ki ia ib u (fn1 nd u P) u q = 0 → ∀ v, pmb (PM q) v → ¬ fn2 ki ia ib u (fn1 nd u P) u v = 0 := by
    intro q
    induction q using Nat.strongRecOn with
    | _ q ih =>
      intro hq hq1 hF v hb
      obtain ⟨ha, hb9, -, -⟩ := hs.2.1 q hq1 (by omega)
      obtain ⟨k1, k2⟩ := h3 q (by omega) hq hF
      rcases (pm_or hs hq1 (by omega) v).mp hb with e | e | e
      · rw [e]; exact hF
      · by_cases c : ia q = 0
        · rw [c] at e; exact absurd e (pm_0 hs v)
        · exact ih (ia q) ha (by omega) (by omega) (k1 c) v e
      · by_cases c : ib q = 0
        · rw [c] at e; exact absurd e (pm_0 hs v)
        · exact ih (ib q) hb9 (by omega) (by omega) (k2 c) v e
  exact key u (Nat.le_refl _) hu1 h2 v h
theorem fg1_at {ii : Nat → Int32} {a b : Int32} : ∀ k j, fg1 ii a b k j = if j < k then zB (nI j = a ∨ nI j = b) else ii j := by
  intro k
  induction k with
  | zero => intro j; rw [fg1, if_neg (by omega)]
  | succ k ih =>
    intro j
    rw [fg1]
    by_cases c : j = k
    · subst c; rw [ud_s, if_pos (by omega)]
    · rw [ud_n c, ih j]
      by_cases c2 : j < k
      · rw [if_pos c2, if_pos (by omega)]
      · rw [if_neg c2, if_neg (by omega)]
theorem fg2_at {ii : Nat → Int32} {S O : Nat → Nat} : ∀ k j, (¬ fg2 ii S O k j = 0 ↔ ¬ ii j = 0 ∨ ∃ i, i < k ∧ (S i = j ∨ O i = j)) := by
  intro k
  induction k with
  | zero => intro j; rw [fg2]; exact ⟨Or.inl, fun h => h.elim id (fun ⟨i, hi, _⟩ => absurd hi (by omega))⟩
  | succ k ih =>
    intro j
    rw [fg2]
    by_cases c1 : j = O k
    · rw [c1, ud_s]
      exact ⟨fun _ => Or.inr ⟨k, by omega, Or.inr rfl⟩, fun _ => n1_0⟩
    · rw [ud_n c1]
      by_cases c2 : j = S k
      · rw [c2, ud_s]
        exact ⟨fun _ => Or.inr ⟨k, by omega, Or.inl rfl⟩, fun _ => n1_0⟩
      · rw [ud_n c2, ih j]
        constructor
        · rintro (h | ⟨i, hi, h⟩)
          · exact Or.inl h
          · exact Or.inr ⟨i, by omega, h⟩
        · rintro (h | ⟨i, hi, h⟩)
          · exact Or.inl h
          · refine Or.inr ⟨i, ?_, h⟩
            rcases Nat.lt_or_ge i k with h9 | h9
            · exact h9
            · have : i = k := by omega
              subst this
              rcases h with h | h
              · exact absurd h.symm c2
              · exact absurd h.symm c1
abbrev eb (v : Int32) : Int32 := if v = -1 then nI 0 else (1 : Int32) <<< (v &&& 31)
theorem eb_bt {v : Int32} {lo hi x : Nat} (h : enF v lo hi) (hx : x < 32) : bt (eb v) x = true ↔ nI x = v := by
  unfold eb
  rcases h.2.2 with ⟨e, -, -⟩ | ⟨e, -, hl⟩
  · rw [if_pos e, nI_0, b_0, e]
    exact ⟨fun q => absurd q (by simp), fun q => absurd q (nI_m1 (by omega))⟩
  · rw [if_neg (by rw [e]; exact nI_m1 (by omega)), e, b_sh lo x hl hx, decide_eq_true_eq, nI_eq (by omega) (by omega)]
theorem grf {T : Nat} {su pr ob ii : Nat → Int32} {S Q O : Nat → Nat} {lk : Nat → Int32} {no sv ov : Int32} (ht : ttie T su pr ob S Q O lk no) {sl sh ol oh : Nat} (hsv : enF sv sl sh) (hov : enF ov ol oh) {x : Nat} (hx : x < 32) : bt (no ||| eb sv ||| eb ov) x = true ↔ ¬ fg2 (fg1 ii sv ov 32) S O T x = 0 := by
  rw [fg2_at, fg1_at, if_pos hx, zB_1, b_or, b_or, Bool.or_eq_true, Bool.or_eq_true, ht.2.2.2 x hx, eb_bt hsv hx, eb_bt hov hx]
  constructor
  · rintro ((h | h) | h)
    · exact Or.inr h
    · exact Or.inl (Or.inl h)
    · exact Or.inl (Or.inr h)
  · rintro ((h | h) | h)
    · exact Or.inl (Or.inr h)
    · exact Or.inr h
    · exact Or.inl (Or.inl h)
theorem ppt {P T : Nat} {ki fi se su pr ob ii N : Nat → Int32} {K S Q O : Nat → Nat} {KD LI : Nat → Int32} {qa ia ib PM : Nat → Nat} {lk : Nat → Int32} {no gr mo : Int32} (hp : ptie P ki fi se K KD LI ia ib) (hs : shp P qa ia ib PM) (ht : ttie T su pr ob S Q O lk no) (hT : T ≤ 150) (hg : ∀ x, x < 32 → (bt gr x = true ↔ ¬ ii x = 0)) {u : Nat} (hu1 : 1 ≤ u) (hu2 : u ≤ P) (hN : ∀ v, 1 ≤ v → v ≤ u → (¬ N v = 0 ↔ pmb (PM u) v)) {JF : Nat → Nat → Int32} (hJ : ∀ v, 1 ≤ v → v ≤ u → pmb (PM u) v → JF v = (tv KD LI ia ib lk gr v).2) (t : mS) (ht0 : t.2.2.2 = 0) : ∀ k, k ≤ u → (∀ v, 1 ≤ v → v ≤ k → pmb (PM u) v → mtc (pp1 ki fi se pr ii S O K ia ib T mo N t k).1 v (tv KD LI ia ib lk gr v)) ∧ (¬ (pp1 ki fi se pr ii S O K ia ib T mo N t k).2.2.2 = 0 ↔ gby (PM u) KD JF mo k = true) := by
  intro k
  induction k with
  | zero =>
    intro _
    rw [pp1, gby]
    exact ⟨fun v h1 h2 => absurd h1 (by omega), by rw [ht0]; simp⟩
  | succ k ih =>
    intro hk
    obtain ⟨h1, h2⟩ := ih (by omega)
    have hn := hN (k + 1) (by omega) hk
    rw [pp1, gby, Bool.or_eq_true, decide_eq_true_eq]
    generalize pp1 ki fi se pr ii S O K ia ib T mo N t k = t' at h1 h2 ⊢
    by_cases c : N (k + 1) = 0
    · rw [if_pos c]
      have c' : ¬ pmb (PM u) (k + 1) := fun q => hn.mpr q c
      refine ⟨fun v hv1 hv2 hb => ?_, ?_⟩
      · by_cases e : v = k + 1
        · rw [e] at hb; exact absurd hb c'
        · exact h1 v hv1 (by omega) hb
      · rw [h2]
        exact ⟨Or.inl, fun h => h.elim id (fun h => absurd h.1 c')⟩
    · rw [if_neg c]
      have c' : pmb (PM u) (k + 1) := hn.mp c
      obtain ⟨hia, hib, -, -⟩ := hs.2.1 (k + 1) (by omega) (by omega)
      have hsub := (shp_sub hs u hu2 (k + 1) (by omega) c').2
      obtain ⟨k1, k2, k3⟩ := mkT_ok (mo := mo) hp ht hT hg (u := k + 1) (by omega) (by omega) t' (fun h0 => h1 _ (by omega) (by omega) (hsub _ (shp_a hs (by omega) (by omega) h0))) (fun h0 => h1 _ (by omega) (by omega) (hsub _ (shp_b hs (by omega) (by omega) h0)))
      refine ⟨fun v hv1 hv2 hb => ?_, ?_⟩
      · by_cases e : v = k + 1
        · rw [e]; exact k2
        · exact k1.mtc e (h1 v hv1 (by omega) hb)
      · obtain ⟨e1, e2, e3, -⟩ := hp (k + 1) (by omega) (by omega)
        rw [k3, hJ (k + 1) (by omega) hk c', e3, nIk e2 (by decide), nIk e2 (by decide)]
        by_cases c4 : K (k + 1) = 4 ∨ K (k + 1) = 5
        · rw [if_pos c4, zB_1, h2]
          constructor
          · rintro (h | h)
            · exact Or.inl h
            · exact Or.inr ⟨c', c4, i_nle h⟩
          · rintro (h | h)
            · exact Or.inl h
            · exact Or.inr (fun q => i_le q h.2.2)
        · rw [if_neg c4, h2]
          exact ⟨Or.inl, fun h => h.elim id (fun h => absurd h.2.1 c4)⟩
