/-! PURE: one table of the reference is one table of the class -/
/-- the triples, on both sides -/
def ttie (T : Nat) (su pr ob : Nat → Int32) (S Q O : Nat → Nat) (lk : Nat → Int32) (no : Int32) : Prop :=
  (∀ k, k < T → su k = nI (S k) ∧ S k < 32 ∧ pr k = nI (Q k) ∧ Q k < 16 ∧ ob k = nI (O k) ∧ O k < 32) ∧
  (∀ x y b, x < 32 → y < 32 → b < 32 → (bt (lk (x * 32 + y)) b = true ↔ ∃ k, k < T ∧ S k = x ∧ Q k = b ∧ O k = y)) ∧
  (∀ i j, i < j → j < T → ¬ (S i = S j ∧ Q i = Q j ∧ O i = O j)) ∧
  (∀ n, n < 32 → (bt no n = true ↔ ∃ k, k < T ∧ (S k = n ∨ O k = n)))
/-- the paths, on both sides -/
def ptie (P : Nat) (ki fi se : Nat → Int32) (K : Nat → Nat) (KD LI : Nat → Int32) (ia ib : Nat → Nat) : Prop := ∀ u, 1 ≤ u → u ≤ P →
  ki u = nI (K u) ∧ K u ≤ 7 ∧ KD u = nI (K u) ∧ (1 ≤ K u ∧ K u ≤ 6 → fi u = nI (ia u) ∧ 1 ≤ ia u) ∧ (K u = 2 ∨ K u = 3 → se u = nI (ib u) ∧ 1 ≤ ib u) ∧
  (¬ (1 ≤ K u ∧ K u ≤ 6) → ia u = 0) ∧ (¬ (K u = 2 ∨ K u = 3) → ib u = 0) ∧ ia u < u ∧ ib u < u ∧
  (K u = 0 ∨ K u = 7 → ∀ b, b < 16 → (bt (LI u) b = true ↔ (if ki u = 0 then nI b = fi u else ¬ nI b = fi u ∧ ¬ nI b = se u)))
def mtc (M : Nat → Nat) (v : Nat) (t : aT) : Prop := ∀ x y, x < 32 → y < 32 → M (1024 * v + 32 * x + y) = t.1 (x * 32 + y)
theorem pcb_add {f f' : Nat → Bool} {b : Nat} (h1 : f b = false) (h2 : f' b = true) (h : ∀ y, ¬ y = b → f' y = f y) : ∀ k, pcb f' k = pcb f k + if b < k then 1 else 0 := by
  intro k
  induction k with
  | zero => rfl
  | succ k ih =>
    show pcb f' k + (if f' k = true then 1 else 0) = pcb f k + (if f k = true then 1 else 0) + _
    rw [ih]
    by_cases c : k = b
    · subst c
      rw [h1, h2]
      simp
    · rw [h k c]
      generalize (if f k = true then 1 else 0) = q
      by_cases c2 : b < k
      · rw [if_pos c2, if_pos (by omega)]; omega
      · rw [if_neg c2, if_neg (by omega)]; omega
theorem pj2 {α β : Type} (a : α) (b : β) : ((a, b) : α × β).2 = b := rfl
theorem pj1 {α β : Type} (a : α) (b : β) : ((a, b) : α × β).1 = a := rfl
theorem cnl_set {gd : Nat → Prop} [DecidablePred gd] {S Q O : Nat → Nat} {x y : Nat} : ∀ T, (∀ k, k < T → Q k < 32) → (∀ i j, i < j → j < T → ¬ (S i = S j ∧ Q i = Q j ∧ O i = O j)) → pcb (pdc (fun b => ∃ k, k < T ∧ gd k ∧ S k = x ∧ O k = y ∧ Q k = b)) 32 = cnl gd S O x y T := by
  intro T
  induction T with
  | zero =>
    intro _ _
    show _ = 0
    have : ∀ k, pcb (pdc (fun b => ∃ k, k < 0 ∧ gd k ∧ S k = x ∧ O k = y ∧ Q k = b)) k = 0 := by
      intro k
      induction k with
      | zero => rfl
      | succ k ih =>
        show pcb _ k + _ = 0
        rw [ih, if_neg (fun q => by
          obtain ⟨k, hk, -⟩ := pdc_t.mp q
          omega)]
    exact this 32
  | succ T ih =>
    intro hq hd
    have h1 := ih (fun k hk => hq k (by omega)) (fun i j hij hj => hd i j hij (by omega))
    show _ = cnl gd S O x y T + _
    rw [← h1]
    by_cases c : gd T ∧ S T = x ∧ O T = y
    · rw [if_pos c, pcb_add (b := Q T) (f := pdc (fun b => ∃ k, k < T ∧ gd k ∧ S k = x ∧ O k = y ∧ Q k = b)) (pdc_f.mpr ?_) (pdc_t.mpr ?_) ?_ 32, if_pos (hq T (by omega))]
      · rintro ⟨k, hk, -, e1, e2, e3⟩
        exact hd k T hk (by omega) ⟨e1.trans c.2.1.symm, e3, e2.trans c.2.2.symm⟩
      · exact ⟨T, by omega, c.1, c.2.1, c.2.2, rfl⟩
      · intro b hb
        rw [Bool.eq_iff_iff, pdc_t, pdc_t]
        constructor
        · rintro ⟨k, hk, e1, e2, e3, e4⟩
          exact ⟨k, by
            rcases Nat.lt_or_ge k T with h | h
            · exact h
            · have : k = T := by omega
              rw [this] at e4
              exact absurd e4.symm hb, e1, e2, e3, e4⟩
        · rintro ⟨k, hk, e⟩
          exact ⟨k, by omega, e⟩
    · rw [if_neg c, Nat.add_zero]
      refine pcb_ext (f := pdc (fun b => ∃ k, k < T + 1 ∧ gd k ∧ S k = x ∧ O k = y ∧ Q k = b)) (f' := pdc (fun b => ∃ k, k < T ∧ gd k ∧ S k = x ∧ O k = y ∧ Q k = b)) 32 (fun b hb => ?_)
      rw [Bool.eq_iff_iff, pdc_t, pdc_t]
      constructor
      · rintro ⟨k, hk, e1, e2, e3, e4⟩
        exact ⟨k, by
          rcases Nat.lt_or_ge k T with h | h
          · exact h
          · have : k = T := by omega
            subst this
            exact absurd ⟨e1, e2, e3⟩ c, e1, e2, e3, e4⟩
      · rintro ⟨k, hk, e⟩
        exact ⟨k, by omega, e⟩
theorem lnk_ok {T : Nat} {su pr ob : Nat → Int32} {S Q O : Nat → Nat} {lk : Nat → Int32} {no : Int32} (ht : ttie T su pr ob S Q O lk no) {li : Int32} {gd : Nat → Prop} [DecidablePred gd] {gb : Nat → Prop} (hb : ∀ b, b < 16 → (bt li b = true ↔ gb b)) (hg : ∀ k, k < T → (gd k ↔ gb (Q k))) {x y : Nat} (hx : x < 32) (hy : y < 32) : pcb (bt (lk (x * 32 + y) &&& li)) 32 = cnl gd S O x y T := by
  obtain ⟨h1, h2, h3, -⟩ := ht
  rw [← cnl_set (gd := gd) (Q := Q) T (fun k hk => by have := (h1 k hk).2.2.2.1; omega) h3]
  refine pcb_ext 32 (fun b hb9 => ?_)
  rw [Bool.eq_iff_iff, pdc_t, b_and, Bool.and_eq_true, h2 x y b hx hy hb9]
  constructor
  · rintro ⟨⟨k, hk, e1, e2, e3⟩, e4⟩
    have hq := (h1 k hk).2.2.2.1
    exact ⟨k, hk, (hg k hk).mpr ((hb _ hq).mp (by rw [e2]; exact e4)), e1, e3, e2⟩
  · rintro ⟨k, hk, e0, e1, e2, e3⟩
    have hq := (h1 k hk).2.2.2.1
    exact ⟨⟨k, hk, e1, e3, e2⟩, by rw [← e3]; exact (hb _ hq).mpr ((hg k hk).mp e0)⟩
theorem tv_coh {KD LI : Nat → Int32} {ia ib : Nat → Nat} {lk : Nat → Int32} {gr : Int32} : ∀ u, coh (tv KD LI ia ib lk gr u) := by
  intro u
  induction u using Nat.strongRecOn with
  | _ u ih =>
    by_cases h : ia u = 0
    · rw [tv_n h]
      exact (cl1_at z0_coh).1
    · by_cases h1 : ia u < u
      · by_cases h2 : ib u = 0
        · rw [tv_i h h1 h2]
          by_cases hk : KD u = nI 1
          · rw [coO, if_pos hk]
            exact (ct1_at z0_coh 32 (Nat.le_refl _)).1
          · exact (coO_coh hk).1
        · by_cases h3 : ib u < u
          · rw [tv_b h h1 h2 h3]
            by_cases hk : KD u = nI 3
            · rw [coT, if_pos hk]
              exact (ca1_at (ca1_at z0_coh).1).1
            · rw [coT, if_neg hk]
              exact (cb1_at (ih _ h3) z0_coh).1
          · rw [tv, if_neg h, dif_pos h1, if_neg h2, dif_neg h3]
            exact z0_coh
      · rw [tv, if_neg h, dif_neg h1]
        exact z0_coh
theorem coh_eM {M : Nat → Nat} {v : Nat} {t : aT} (hc : coh t) (hm : mtc M v t) : ∀ i j, i < 32 → j < 32 → (eM M v i j ↔ eJ t.2 i j) := fun i j hi hj => by
  show 0 < M _ ↔ bt (t.2 i) j = true
  rw [hc.2 i j hi hj, hm i j hi hj]
  omega
theorem sgz_jn2 {M : Nat → Nat} {a b x y : Nat} {ta tb : aT} (ha : mtc M a ta) (hb : mtc M b tb) (hx : x < 32) (hy : y < 32) : ∀ n, n ≤ 32 → jn2 M a b x y n = sgz ta.1 tb.1 x y n := by
  intro n
  induction n with
  | zero => intro _; rw [sgz]; rfl
  | succ n ih =>
    intro hn
    rw [sgz]
    show jn2 M a b x y n + _ = _
    rw [ih (by omega), ha x n hx (by omega), hb n y (by omega) hy]
theorem prs_pr1 {j : Nat → Int32} {R : Nat → Nat → Prop} (h : ∀ x y, x < 32 → y < 32 → (R x y ↔ bt (j x) y = true)) : ∀ n, n ≤ 32 → prs R n = pr1 j n := by
  intro n
  induction n with
  | zero => intro _; rw [pr1]; rfl
  | succ n ih =>
    intro hn
    rw [pr1]
    show prs R n + _ = _
    rw [ih (by omega)]
    congr 1
    refine pcb_ext 32 (fun y hy => ?_)
    rw [Bool.eq_iff_iff, pdc_t, h n y (by omega) hy]
theorem pn_bn {P : Prop} {v : Int32} {y : Nat} (h : P ↔ bt v y = true) : pn P = bn v y := by
  unfold bn
  by_cases c : bt v y = true
  · rw [if_pos c, pn_t (h.mpr c)]
  · rw [if_neg c, pn_f (fun q => c (h.mp q))]
theorem outU.mtc {u v : Nat} {M M' : Nat → Nat} {t : aT} (h : outU u M M') (hv : ¬ v = u) (hm : mtc M v t) : mtc M' v t := fun x y hx hy => (h.at hv hx hy).trans (hm x y hx hy)
theorem nIk {a b : Nat} (ha : a ≤ 7) (hb : b ≤ 7) : nI a = nI b ↔ a = b := nI_eq (by omega) (by omega)
theorem mkT_ok {P T : Nat} {ki fi se su pr ob ii : Nat → Int32} {K S Q O : Nat → Nat} {KD LI : Nat → Int32} {ia ib : Nat → Nat} {lk : Nat → Int32} {no gr mo : Int32} (hp : ptie P ki fi se K KD LI ia ib) (ht : ttie T su pr ob S Q O lk no) (hT : T ≤ 150) (hg : ∀ x, x < 32 → (bt gr x = true ↔ ¬ ii x = 0)) {u : Nat} (h1 : 1 ≤ u) (h2 : u ≤ P) (t : mS) (hma : ¬ ia u = 0 → mtc t.1 (ia u) (tv KD LI ia ib lk gr (ia u))) (hmb : ¬ ib u = 0 → mtc t.1 (ib u) (tv KD LI ia ib lk gr (ib u))) :
    outU u t.1 (mkT ki fi se pr ii S O T mo (K u) u (ia u) (ib u) t).1 ∧ mtc (mkT ki fi se pr ii S O T mo (K u) u (ia u) (ib u) t).1 u (tv KD LI ia ib lk gr u) ∧ (mkT ki fi se pr ii S O T mo (K u) u (ia u) (ib u) t).2.2.2 = (if K u = 4 ∨ K u = 5 then zB (¬ t.2.2.2 = 0 ∨ ¬ nI (pr1 (tv KD LI ia ib lk gr u).2 32) ≤ mo) else t.2.2.2) := by
  obtain ⟨e1, e2, e3, e4, e5, e6, e7, e8, e9, e10⟩ := hp u h1 h2
  have hz : ∀ x y, x < 32 → y < 32 → mt0 t.1 u 1024 (1024 * u + 32 * x + y) = 0 := fun x y hx hy => mt0_in hx hy
  have ho0 : outU u t.1 (mt0 t.1 u 1024) := mt0_out
  have h150 : ∀ (x y : Nat), z0.1 (x * 32 + y) = 0 := fun _ _ => rfl
  by_cases c1 : K u = 0 ∨ K u = 7
  · have f1 := (congrArg Prod.fst (mkT_l (ki := ki) (fi := fi) (se := se) (pr := pr) (ii := ii) (S := S) (O := O) (T := T) (mo := mo) (u := u) (a := ia u) (b := ib u) (t := t) c1)).trans (pj_1 _ _ _ _)
    have f4 := (congrArg (fun q : mS => q.2.2.2) (mkT_l (ki := ki) (fi := fi) (se := se) (pr := pr) (ii := ii) (S := S) (O := O) (T := T) (mo := mo) (u := u) (a := ia u) (b := ib u) (t := t) c1)).trans (pj_4 _ _ _ _)
    rw [f1, show (mkT ki fi se pr ii S O T mo (K u) u (ia u) (ib u) t).2.2.2 = _ from f4]
    rw [if_neg (by omega)]
    obtain ⟨k1, k2⟩ := ml_at (ki := ki) (fi := fi) (se := se) (pr := pr) (S := S) (O := O) (u := u) hz T hT (fun k hk => ⟨(ht.1 k hk).2.1, (ht.1 k hk).2.2.2.2.2⟩)
    refine ⟨ho0.trans k1, fun x y hx hy => ?_, rfl⟩
    rw [k2 x y hx hy, tv_n (e6 (by omega)), (cl1_at z0_coh).2 x y hx hy, h150, lnk_ok ht (gd := gdk ki fi se pr u) (e10 c1) (fun k hk => by show (if ki u = 0 then pr k = fi u else ¬ pr k = fi u ∧ ¬ pr k = se u) ↔ _; rw [(ht.1 k hk).2.2.1]) hx hy]
    have := cnl_le (gd := gdk ki fi se pr u) (S := S) (O := O) (x := x) (y := y) T
    omega
  · have ha1 : 1 ≤ ia u := (e4 (by omega)).2
    have ha0 : ¬ ia u = 0 := by omega
    have hma := hma ha0
    have hca : coh (tv KD LI ia ib lk gr (ia u)) := tv_coh _
    have hma' : mtc (mt0 t.1 u 1024) (ia u) (tv KD LI ia ib lk gr (ia u)) := ho0.mtc (by omega) hma
    by_cases c2 : K u = 4 ∨ K u = 5
    · have f1 := (congrArg Prod.fst (mkT_w (ki := ki) (fi := fi) (se := se) (pr := pr) (ii := ii) (S := S) (O := O) (T := T) (mo := mo) (u := u) (a := ia u) (b := ib u) (t := t) c1 c2)).trans (pj_1 _ _ _ _)
      have f4 := (congrArg (fun q : mS => q.2.2.2) (mkT_w (ki := ki) (fi := fi) (se := se) (pr := pr) (ii := ii) (S := S) (O := O) (T := T) (mo := mo) (u := u) (a := ia u) (b := ib u) (t := t) c1 c2)).trans (pj_4 _ _ _ _)
      rw [f1, show (mkT ki fi se pr ii S O T mo (K u) u (ia u) (ib u) t).2.2.2 = _ from f4, if_pos c2]
      have hb0 : ib u = 0 := e7 (by omega)
      have hk1 : ¬ KD u = nI 1 := by rw [e3, nIk e2 (by omega)]; omega
      have htv := tv_i (KD := KD) (LI := LI) (lk := lk) (gr := gr) ha0 e8 hb0
      have hco := (coO_coh (kd := KD u) (G := (tv KD LI ia ib lk gr (ia u)).1) (J2 := (tv KD LI ia ib lk gr (ia u)).2) (gr := gr) hk1).2
      rw [← htv] at hco
      have hjb : ∀ x, x < 32 → jb1 (tv KD LI ia ib lk gr (ia u)).2 z0.2 32 x = (tv KD LI ia ib lk gr (ia u)).2 x := fun x hx => by rw [jb1_at, if_pos hx]
      have hbits : ∀ x y, x < 32 → y < 32 → (bt ((tv KD LI ia ib lk gr u).2 x) y = true ↔ rch (eM (mt0 t.1 u 1024) (ia u)) x y ∨ (ki u = nI 4 ∧ x = y ∧ ¬ ii x = 0)) := fun x y hx hy => by
        have hr : bt (jo1 (jb1 (tv KD LI ia ib lk gr (ia u)).2 z0.2 32) 32 x) y = true ↔ rch (eM (mt0 t.1 u 1024) (ia u)) x y := by
          rw [jo1_rch hx hy]
          exact rch_congr hx hy (fun i j hi hj => by
            rw [coh_eM hca hma' i j hi hj]
            show bt (jb1 _ _ 32 i) j = true ↔ _
            rw [hjb i hi])
        rw [htv, coO, if_neg hk1, pj2, jbF, e3, e1]
        rcases c2 with c2 | c2
        · rw [c2, if_neg (by decide), if_pos rfl, js1_bt hx hy, hr, hg x hx]
          simp
        · rw [c2, if_pos rfl, hr]
          constructor
          · exact Or.inl
          · rintro (h | ⟨h, -⟩)
            · exact h
            · exact absurd h (by decide)
      obtain ⟨k1, k2, k3⟩ := mw1_at (ki := ki) (ii := ii) (sp := t.2.1) (qu := t.2.2.1) (u := u) (a := ia u) (M := mt0 t.1 u 1024) (by omega) (R := fun x y => bt ((tv KD LI ia ib lk gr u).2 x) y = true) hbits 32 (Nat.le_refl _)
      refine ⟨ho0.trans k1, fun x y hx hy => ?_, ?_⟩
      · rw [k2 x y hx hy, if_pos hx, hco x y hx hy]
        exact pn_bn Iff.rfl
      · rw [k3, prs_pr1 (j := (tv KD LI ia ib lk gr u).2) (fun x y _ _ => Iff.rfl) 32 (Nat.le_refl _)]
    · have f1 := (congrArg Prod.fst (mkT_j (ki := ki) (fi := fi) (se := se) (pr := pr) (ii := ii) (S := S) (O := O) (T := T) (mo := mo) (u := u) (a := ia u) (b := ib u) (t := t) c1 c2)).trans (pj_1 _ _ _ _)
      have f4 := (congrArg (fun q : mS => q.2.2.2) (mkT_j (ki := ki) (fi := fi) (se := se) (pr := pr) (ii := ii) (S := S) (O := O) (T := T) (mo := mo) (u := u) (a := ia u) (b := ib u) (t := t) c1 c2)).trans (pj_4 _ _ _ _)
      rw [f1, show (mkT ki fi se pr ii S O T mo (K u) u (ia u) (ib u) t).2.2.2 = _ from f4, if_neg c2]
      obtain ⟨k1, k2⟩ := jf1_at (kd := K u) (ii := ii) (a := ia u) (b := ib u) (u := u) (M := mt0 t.1 u 1024) (by omega) (by omega)
      refine ⟨ho0.trans k1, fun x y hx hy => ?_, rfl⟩
      rw [k2 x y hx hy]
      by_cases c3 : K u = 1
      · have hb0 : ib u = 0 := e7 (by omega)
        rw [tv_i ha0 e8 hb0, coO, e3, c3, if_pos rfl, (ct1_at z0_coh 32 (Nat.le_refl _)).2 x y hx hy, if_pos hy, h150, Nat.zero_add, jn, if_pos rfl, hma' y x hy hx]
      · have hk1 : ¬ KD u = nI 1 := by rw [e3, nIk e2 (by omega)]; omega
        by_cases c4 : K u = 6
        · have hb0 : ib u = 0 := e7 (by omega)
          have htv := tv_i (KD := KD) (LI := LI) (lk := lk) (gr := gr) ha0 e8 hb0
          have hco := (coO_coh (kd := KD u) (G := (tv KD LI ia ib lk gr (ia u)).1) (J2 := (tv KD LI ia ib lk gr (ia u)).2) (gr := gr) hk1).2
          rw [← htv] at hco
          rw [hco x y hx hy, jn, c4, if_neg (by decide), if_neg (by decide), if_pos rfl]
          have hb : bt ((tv KD LI ia ib lk gr u).2 x) y = true ↔ (x = y ∧ ¬ ii x = 0) ∨ 0 < mt0 t.1 u 1024 (1024 * ia u + 32 * x + y) := by
            rw [htv, coO, if_neg hk1, pj2, jbF, e3, c4, if_neg (by decide), if_neg (by decide), js1_bt hx hy, hg x hx, jb1_at, if_pos hx, Or.comm]
            exact or_congr Iff.rfl (coh_eM hca hma' x y hx hy).symm
          unfold bn
          by_cases c5 : bt ((tv KD LI ia ib lk gr u).2 x) y = true
          · rw [if_pos c5, if_pos (hb.mp c5)]; omega
          · rw [if_neg c5, if_neg (fun q => c5 (hb.mpr q))]; omega
        · have c5 : K u = 2 ∨ K u = 3 := by omega
          have hb1 : 1 ≤ ib u := (e5 c5).2
          have hb0 : ¬ ib u = 0 := by omega
          have hmb' : mtc (mt0 t.1 u 1024) (ib u) (tv KD LI ia ib lk gr (ib u)) := ho0.mtc (by omega) (hmb hb0)
          rw [tv_b ha0 e8 hb0 e9, coT, e3]
          rcases c5 with c5 | c5
          · rw [c5, if_neg (by decide), (cb1_at (tv_coh _) z0_coh).2 x y hx hy, h150, Nat.zero_add, jn, if_neg (by decide), if_neg (by decide), if_neg (by decide), sgz_jn2 hma' hmb' hx hy 32 (Nat.le_refl _)]
          · rw [c5, if_pos rfl, (ca1_at (ca1_at z0_coh).1).2 x y hx hy, (ca1_at z0_coh).2 x y hx hy, h150, Nat.zero_add, jn, if_neg (by decide), if_pos rfl, hma' x y hx hy, hmb' x y hx hy]
            have := hca.1 (x * 32 + y)
            omega
