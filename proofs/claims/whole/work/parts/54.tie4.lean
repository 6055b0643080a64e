/-! PURE: depths, the whole run, from, a new triple -/
theorem ms1_at {lv : Nat → Int32} : ∀ n y, ms1 lv n y = if y < n then nI 1 else lv y := by
  intro n
  induction n with
  | zero => intro y; rw [ms1, if_neg (by omega)]
  | succ n ih =>
    intro y
    rw [ms1]
    by_cases c : y = n
    · subst c; rw [ud_s, if_pos (by omega)]
    · rw [ud_n c, ih y]
      by_cases c2 : y < n
      · rw [if_pos c2, if_pos (by omega)]
      · rw [if_neg c2, if_neg (by omega)]
theorem dp_ok {P T : Nat} {ki fi se su pr ob ii : Nat → Int32} {K S Q O : Nat → Nat} {KD LI : Nat → Int32} {ia ib : Nat → Nat} {lk : Nat → Int32} {no gr : Int32} (hp : ptie P ki fi se K KD LI ia ib) (ht : ttie T su pr ob S Q O lk no) (hno : ∀ n, n < 32 → bt no n = true → bt gr n = true) (hg : ∀ x, x < 32 → (bt gr x = true ↔ ¬ ii x = 0)) {u : Nat} (h1 : 1 ≤ u) (h2 : u ≤ P) {M : Nat → Nat} (hma : ¬ ia u = 0 → mtc M (ia u) (tv KD LI ia ib lk gr (ia u))) {J2 : Nat → Int32} (hJ2 : ¬ ia u = 0 → J2 = (tv KD LI ia ib lk gr (ia u)).2) : ∀ x, x < 32 → ∀ sp qu lv : Nat → Int32, ∀ y, y < 32 → ¬ (tv KD LI ia ib lk gr u).1 (x * 32 + y) = 0 → dpf ki ii (if wfl (K u) = 0 then sp else (wkF M (ia u) x sp qu).1) u (wfl (K u)) x y = lvF (KD u) (ia u) J2 x lv y := by
  intro x hx sp qu lv y hy hne
  obtain ⟨e1, e2, e3, e4, e5, e6, e7, e8, e9, e10⟩ := hp u h1 h2
  have hm1 : ms1 lv 32 y = nI 1 := by rw [ms1_at, if_pos hy]
  have nk : ∀ a, a ≤ 7 → (ki u = nI a ↔ K u = a) := fun a ha => by rw [e1, nIk e2 ha]
  have dk : ∀ a, a ≤ 7 → (KD u = nI a ↔ K u = a) := fun a ha => by rw [e3, nIk e2 ha]
  unfold dpf
  by_cases c1 : K u = 4 ∨ K u = 5
  · have ha0 : ¬ ia u = 0 := by have := (e4 (by omega)).2; omega
    have hb0 : ib u = 0 := e7 (by omega)
    have hk1 : ¬ KD u = nI 1 := by rw [dk 1 (by decide)]; omega
    have hw : wfl (K u) = 1 := if_pos c1
    have hca : coh (tv KD LI ia ib lk gr (ia u)) := tv_coh _
    rw [hw, if_neg (show ¬ (1 : Nat) = 0 by decide), if_neg (show ¬ (1 : Nat) = 0 by decide)]
    have hl : lvF (KD u) (ia u) J2 x lv y = meS (KD u) x (mwF J2 x (ms1 lv 32)) y := by
      rw [lvF, if_neg ha0, meF, if_pos (by rw [dk 4 (by decide), dk 5 (by decide)]; exact c1)]
    rw [hl]
    have hEE := coh_eM hca (hma ha0)
    have hs : rch (eJ (tv KD LI ia ib lk gr (ia u)).2) x y → (wkF M (ia u) x sp qu).1 y = mwF J2 x (ms1 lv 32) y := by
      rintro ⟨n, hw9⟩
      rcases wkC (M := M) (a := ia u) (x := x) (sp := sp) (qu := qu) hy with ⟨-, q⟩ | ⟨m, hm, q1, q2⟩
      · exact absurd ((wl_congr hx hEE n y hy).mpr hw9) (q n)
      · rw [q1, hJ2 ha0, mwF_at hy ((fst_congr hx hy hEE).mp q2)]
    have hb := ((tv_coh (KD := KD) (LI := LI) (ia := ia) (ib := ib) (lk := lk) (gr := gr) u).2 x y hx hy).mpr hne
    have hjb : ∀ i j, i < 32 → j < 32 → (eJ (jb1 (tv KD LI ia ib lk gr (ia u)).2 z0.2 32) i j ↔ eJ (tv KD LI ia ib lk gr (ia u)).2 i j) := fun i j hi _ => by
      show bt (jb1 _ _ 32 i) j = true ↔ _
      rw [jb1_at, if_pos hi]
    rw [tv_i ha0 e8 hb0, coO, if_neg hk1, pj2, jbF] at hb
    rcases c1 with c1 | c1
    · rw [if_neg (by rw [dk 5 (by decide)]; omega), if_pos ((dk 4 (by decide)).mpr c1), js1_bt hx hy, jo1_rch hx hy, rch_congr hx hy hjb] at hb
      rw [meS, if_pos (Or.inl ((dk 4 (by decide)).mpr c1))]
      by_cases c2 : x = y
      · rw [if_pos ⟨c2, Or.inl ((nk 4 (by decide)).mpr c1)⟩, c2, ud_s]
      · rw [if_neg (fun q => c2 q.1), ud_n (fun q => c2 q.symm)]
        exact hs (hb.resolve_right (fun q => c2 q.1))
    · rw [if_pos ((dk 5 (by decide)).mpr c1), jo1_rch hx hy, rch_congr hx hy hjb] at hb
      rw [meS, if_neg (show ¬ (KD u = nI 4 ∨ KD u = nI 6) by rw [dk 4 (by decide), dk 6 (by decide)]; omega), if_neg (show ¬ (x = y ∧ (ki u = nI 4 ∨ ki u = nI 6 ∧ ¬ ii x = 0)) by rw [nk 4 (by decide), nk 6 (by decide)]; omega)]
      exact hs hb
  · have hw : wfl (K u) = 0 := if_neg c1
    rw [hw, if_pos (show (0 : Nat) = 0 from rfl)]
    have hl : lvF (KD u) (ia u) J2 x lv y = meS (KD u) x (ms1 lv 32) y := by
      rw [lvF]
      by_cases ha0 : ia u = 0
      · rw [if_pos ha0]
      · rw [if_neg ha0, meF, if_neg (by rw [dk 4 (by decide), dk 5 (by decide)]; exact c1)]
    rw [hl, meS]
    by_cases c6 : K u = 6
    · rw [if_pos (Or.inr ((dk 6 (by decide)).mpr c6))]
      by_cases c2 : x = y
      · have := (tv_in hp ht hno u h1 h2 x y hx hy hne).1
        rw [if_pos ⟨c2, Or.inr ⟨(nk 6 (by decide)).mpr c6, (hg x hx).mp this⟩⟩, c2, ud_s]
      · rw [if_neg (fun q => c2 q.1), ud_n (fun q => c2 q.symm), hm1]
    · rw [if_neg (show ¬ (KD u = nI 4 ∨ KD u = nI 6) by rw [dk 4 (by decide), dk 6 (by decide)]; omega), if_neg (show ¬ (x = y ∧ (ki u = nI 4 ∨ ki u = nI 6 ∧ ¬ ii x = 0)) by rw [nk 4 (by decide), nk 6 (by decide)]; omega), hm1]
theorem gby_cg {pm : Nat} {KD : Nat → Int32} {JF JF' : Nat → Nat → Int32} {mo : Int32} : ∀ k, (∀ v, 1 ≤ v → v ≤ k → pmb pm v → JF v = JF' v) → gby pm KD JF mo k = gby pm KD JF' mo k := by
  intro k
  induction k with
  | zero => intro _; rw [gby, gby]
  | succ k ih =>
    intro h
    rw [gby, gby, ih (fun v a b c => h v a (by omega) c)]
    congr 1
    by_cases c : pmb pm (k + 1)
    · rw [h (k + 1) (by omega) (by omega) c]
    · rw [Bool.eq_iff_iff, decide_eq_true_eq, decide_eq_true_eq]
      exact ⟨fun q => absurd q.1 c, fun q => absurd q.1 c⟩
/-- the whole of run and plain: beyond, the sum, the rows -/
theorem run_eq {P T : Nat} {ki fi se su pr ob nd ii : Nat → Int32} {K S Q O : Nat → Nat} {KD LI : Nat → Int32} {qa ia ib PM : Nat → Nat} {lk : Nat → Int32} {no mo : Int32} (hp : ptie P ki fi se K KD LI ia ib) (hs : shp P qa ia ib PM) (ht : ttie T su pr ob S Q O lk no) (hT : T ≤ 150) {u : Nat} (hu1 : 1 ≤ u) (hu2 : u ≤ P) {sv ov : Int32} {sl sh ol oh : Nat} (hsv : enF sv sl sh) (hov : enF ov ol oh) {JF : Nat → Nat → Int32} {TF : Nat → Nat → Nat} (hJ : ∀ v, 1 ≤ v → v ≤ u → pmb (PM u) v → TF v = (tv KD LI ia ib lk (no ||| eb sv ||| eb ov) v).1 ∧ JF v = (tv KD LI ia ib lk (no ||| eb sv ||| eb ov) v).2) (M : Nat → Nat) (sp qu : Nat → Int32) {t : mS} (et : pp1 ki fi se pr (fg2 (fg1 ii sv ov 32) S O T) S O K ia ib T mo (fn2 ki ia ib u (fn1 nd u P) u) (M, sp, qu, nI 0) u = t) :
    (¬ t.2.2.2 = 0 ↔ gby (PM u) KD JF mo u = true) ∧ sm1 t.1 u sv ov 32 = bw1 (TF u) sl ol (oh + 1 - ol) (sh + 1 - sl) ∧ ∀ (r : rT) (sp9 qu9 lv9 : Nat → Int32), (rx ki (fg2 (fg1 ii sv ov 32) S O T) t.1 u (ia u) sv ov (wfl (K u)) (r, sp9, qu9) 32).1 = (kr1 (KD u) (ia u) (JF (ia u)) (JF u) (TF u) sl ol (oh + 1 - ol) (r, lv9) (sh + 1 - sl)).1 := by
  have hg : ∀ x, x < 32 → (bt (no ||| eb sv ||| eb ov) x = true ↔ ¬ fg2 (fg1 ii sv ov 32) S O T x = 0) := fun x hx => grf ht hsv hov hx
  obtain ⟨k1, k2⟩ := ppt (mo := mo) (N := fn2 ki ia ib u (fn1 nd u P) u) hp hs ht hT hg hu1 hu2 (fun v a b => need hp hs hu1 hu2 a b) (JF := JF) (fun v a b c => (hJ v a b c).2) (M, sp, qu, nI 0) (pj_4 _ _ _ _) u (Nat.le_refl _)
  rw [et] at k1 k2
  have hself := shp_self hs hu1 hu2
  have hmu := k1 u hu1 (Nat.le_refl _) hself
  obtain ⟨hia, hib, -, -⟩ := hs.2.1 u hu1 hu2
  have hma : ¬ ia u = 0 → mtc t.1 (ia u) (tv KD LI ia ib lk (no ||| eb sv ||| eb ov) (ia u)) := fun h0 => k1 (ia u) (by omega) (by omega) (shp_a hs hu1 hu2 h0)
  have hJu := hJ u hu1 (Nat.le_refl _) hself
  refine ⟨k2, ?_, fun r sp9 qu9 lv9 => ?_⟩
  · rw [sm1_at hmu hsv hov, hJu.1]
  · rw [hJu.1, hJu.2]
    exact rx_at (tv_coh u) hmu hsv hov (dp_ok hp ht (fun n hn hb => by rw [b_or, b_or, hb]; rfl) hg hu1 hu2 hma (fun h0 => (hJ (ia u) (by omega) (by omega) (shp_a hs hu1 hu2 h0)).2))
def cnS (S O : Nat → Nat) (a : Nat) (T : Nat) : Nat → Nat
  | 0 => 0
  | o + 1 => cnS S O a T o + cnl (fun _ => True) S O a o T
theorem cnS_s {S O : Nat → Nat} {a T : Nat} : ∀ n, cnS S O a (T + 1) n = cnS S O a T n + if S T = a ∧ O T < n then 1 else 0 := by
  intro n
  induction n with
  | zero => rw [if_neg (by omega)]; rfl
  | succ n ih =>
    have e1 : cnl (fun _ => True) S O a n (T + 1) = cnl (fun _ => True) S O a n T + if S T = a ∧ O T = n then 1 else 0 := by
      show cnl (fun _ => True) S O a n T + _ = _
      congr 1
      by_cases c : S T = a ∧ O T = n
      · rw [if_pos c, if_pos ⟨trivial, c⟩]
      · rw [if_neg c, if_neg (fun q => c q.2)]
    show cnS S O a (T + 1) n + cnl (fun _ => True) S O a n (T + 1) = cnS S O a T n + cnl (fun _ => True) S O a n T + _
    rw [ih, e1]
    generalize cnl (fun _ => True) S O a n T = v
    by_cases c : S T = a
    · by_cases c1 : O T = n
      · rw [if_neg (show ¬ (S T = a ∧ O T < n) by omega), if_pos (show S T = a ∧ O T = n from ⟨c, c1⟩), if_pos (show S T = a ∧ O T < n + 1 by omega)]
        omega
      · rw [if_neg (show ¬ (S T = a ∧ O T = n) by omega)]
        by_cases c2 : O T < n
        · rw [if_pos (show S T = a ∧ O T < n from ⟨c, c2⟩), if_pos (show S T = a ∧ O T < n + 1 by omega)]
          omega
        · rw [if_neg (show ¬ (S T = a ∧ O T < n) by omega), if_neg (show ¬ (S T = a ∧ O T < n + 1) by omega)]
          omega
    · rw [if_neg (show ¬ (S T = a ∧ O T < n) by omega), if_neg (show ¬ (S T = a ∧ O T = n) by omega), if_neg (show ¬ (S T = a ∧ O T < n + 1) by omega)]
      omega
theorem from_eq {T : Nat} {su pr ob : Nat → Int32} {S Q O : Nat → Nat} {lk : Nat → Int32} {no : Int32} (ht : ttie T su pr ob S Q O lk no) {a : Nat} (ha : a < 32) : ct_from su (nI a) T = cf1 lk a 32 := by
  have h1 : ∀ n, n ≤ 32 → cf1 lk a n = cnS S O a T n := by
    intro n
    induction n with
    | zero => intro _; rw [cf1]; rfl
    | succ n ih =>
      intro hn
      rw [cf1, ih (by omega)]
      show _ = cnS S O a T n + _
      have h2 := lnk_ok ht (li := -1) (gd := fun _ => True) (gb := fun _ => True) (fun b hb => by rw [b_m1 b (by omega)]; exact ⟨fun _ => trivial, fun _ => rfl⟩) (fun _ _ => Iff.rfl) ha (show n < 32 by omega)
      rw [← h2]
      congr 1
      refine pcb_ext (f := bt (lk (a * 32 + n))) (f' := bt (lk (a * 32 + n) &&& (-1))) 32 (fun b hb => ?_)
      rw [b_and, b_m1 b hb, Bool.and_true]
  have h3 : ∀ k, (∀ i, i < k → su i = nI (S i) ∧ S i < 32 ∧ O i < 32) → ct_from su (nI a) k = cnS S O a k 32 := by
    intro k
    induction k with
    | zero =>
      intro _
      have : ∀ n, cnS S O a 0 n = 0 := by
        intro n
        induction n with
        | zero => rfl
        | succ n ih =>
          show cnS S O a 0 n + 0 = 0
          rw [ih]
      rw [this 32]
      rfl
    | succ k ih =>
      intro h
      have h4 := ih (fun i hi => h i (by omega))
      obtain ⟨q1, q2, q3⟩ := h k (by omega)
      rw [cnS_s, ← h4]
      show (if su k = nI a then ct_from su (nI a) k + 1 else ct_from su (nI a) k) = _
      have q0 : su k = nI a ↔ S k = a := by rw [q1, nI_eq (by omega) (by omega)]
      by_cases c : S k = a
      · rw [if_pos (q0.mpr c), if_pos ⟨c, q3⟩]
      · rw [if_neg (fun q => c (q0.mp q)), if_neg (fun q => c q.1), Nat.add_zero]
  rw [h1 32 (Nat.le_refl _), h3 T (fun i hi => ⟨(ht.1 i hi).1, (ht.1 i hi).2.1, (ht.1 i hi).2.2.2.2.2⟩)]
theorem has_eq {T : Nat} {su pr ob : Nat → Int32} {S Q O : Nat → Nat} {lk : Nat → Int32} {no : Int32} (ht : ttie T su pr ob S Q O lk no) {a b d : Nat} (ha : a < 32) (hb : b < 16) (hd : d < 32) : bt (lk (a * 32 + d)) b = true ↔ ∃ j, j < T ∧ (su j = nI a ∧ pr j = nI b ∧ ob j = nI d) := by
  rw [ht.2.1 a d b ha hd (by omega)]
  constructor
  · rintro ⟨k, hk, e1, e2, e3⟩
    obtain ⟨q1, q2, q3, q4, q5, q6⟩ := ht.1 k hk
    exact ⟨k, hk, by rw [q1, e1], by rw [q3, e2], by rw [q5, e3]⟩
  · rintro ⟨k, hk, e1, e2, e3⟩
    obtain ⟨q1, q2, q3, q4, q5, q6⟩ := ht.1 k hk
    rw [q1, nI_eq (by omega) (by omega)] at e1
    rw [q3, nI_eq (by omega) (by omega)] at e2
    rw [q5, nI_eq (by omega) (by omega)] at e3
    exact ⟨k, hk, e1, e2, e3⟩
theorem ttie_add {T : Nat} {su pr ob : Nat → Int32} {S Q O : Nat → Nat} {lk : Nat → Int32} {no : Int32} (ht : ttie T su pr ob S Q O lk no) {a b d : Nat} (ha : a < 32) (hb : b < 16) (hd : d < 32) (hn : ¬ bt (lk (a * 32 + d)) b = true) : ttie (T + 1) (upd su T (nI a)) (upd pr T (nI b)) (upd ob T (nI d)) (va_up S T a) (va_up Q T b) (va_up O T d) (upd lk (a * 32 + d) (lk (a * 32 + d) ||| sh1 b)) (no ||| (sh1 a ||| sh1 d)) := by
  obtain ⟨h1, h2, h3, h4⟩ := ht
  have hex : ∀ R : Nat → Prop, (∃ k, k < T + 1 ∧ R k) ↔ (∃ k, k < T ∧ R k) ∨ R T := fun R => by
    constructor
    · rintro ⟨k, hk, h⟩
      by_cases c : k = T
      · subst c; exact Or.inr h
      · exact Or.inl ⟨k, by omega, h⟩
    · rintro (⟨k, hk, h⟩ | h)
      · exact ⟨k, by omega, h⟩
      · exact ⟨T, by omega, h⟩
  have hlow : ∀ R : Nat → Nat → Nat → Prop, (∃ k, k < T ∧ R (va_up S T a k) (va_up Q T b k) (va_up O T d k)) ↔ ∃ k, k < T ∧ R (S k) (Q k) (O k) := fun R => by
    constructor
    · rintro ⟨k, hk, h⟩
      rw [up_n (by omega), up_n (by omega), up_n (by omega)] at h
      exact ⟨k, hk, h⟩
    · rintro ⟨k, hk, h⟩
      exact ⟨k, hk, by rw [up_n (by omega), up_n (by omega), up_n (by omega)]; exact h⟩
  refine ⟨fun k hk => ?_, fun x y c hx hy hc => ?_, fun i j hij hj => ?_, fun n hn9 => ?_⟩
  · by_cases c : k = T
    · subst c
      rw [ud_s, ud_s, ud_s, up_s, up_s, up_s]
      exact ⟨rfl, ha, rfl, hb, rfl, hd⟩
    · rw [ud_n c, ud_n c, ud_n c, up_n c, up_n c, up_n c]
      exact h1 k (by omega)
  · rw [hex (fun k => va_up S T a k = x ∧ va_up Q T b k = c ∧ va_up O T d k = y), hlow (fun s q o => s = x ∧ q = c ∧ o = y), ← h2 x y c hx hy hc, up_s, up_s, up_s]
    by_cases e : x * 32 + y = a * 32 + d
    · obtain ⟨e1, e2⟩ := (ix2 hy hd).mp e
      rw [e, ud_s, b_or, b_sh b c (by omega) hc, Bool.or_eq_true, decide_eq_true_eq]
      constructor
      · rintro (h | h)
        · exact Or.inl h
        · exact Or.inr ⟨e1.symm, h.symm, e2.symm⟩
      · rintro (h | h)
        · exact Or.inl h
        · exact Or.inr h.2.1.symm
    · rw [ud_n e]
      constructor
      · exact Or.inl
      · rintro (h | h)
        · exact h
        · exact absurd (by rw [h.1, h.2.2]) e
  · by_cases c : j = T
    · subst c
      rw [up_s, up_s, up_s, up_n (by omega), up_n (by omega), up_n (by omega)]
      rintro ⟨e1, e2, e3⟩
      exact hn ((h2 a d b ha hd (by omega)).mpr ⟨i, hij, e1, e2, e3⟩)
    · rw [up_n (by omega), up_n (by omega), up_n (by omega), up_n (by omega), up_n (by omega), up_n (by omega)]
      exact h3 i j hij (by omega)
  · rw [hex (fun k => va_up S T a k = n ∨ va_up O T d k = n), hlow (fun s _ o => s = n ∨ o = n), ← h4 n hn9, up_s, up_s, b_or, b_or, b_sh a n ha hn9, b_sh d n hd hn9, Bool.or_eq_true, Bool.or_eq_true, decide_eq_true_eq, decide_eq_true_eq]
    constructor
    · rintro (h | h | h)
      · exact Or.inl h
      · exact Or.inr (Or.inl h.symm)
      · exact Or.inr (Or.inr h.symm)
    · rintro (h | h | h)
      · exact Or.inl h
      · exact Or.inr (Or.inl h.symm)
      · exact Or.inr (Or.inr h.symm)
