/-! PURE: sums and rows -/
theorem enF_fit {v : Int32} {lo hi x : Nat} (h : enF v lo hi) (hx : x < 32) : (v < 0 ∨ v = nI x) ↔ lo ≤ x ∧ x ≤ hi := by
  rcases h.2.2 with ⟨e, e1, e2⟩ | ⟨e, e1, hl⟩
  · rw [e, e1, e2]
    exact ⟨fun _ => by omega, fun _ => Or.inl (by decide)⟩
  · rw [e, e1, nI_eq (by omega) (by omega)]
    have : ¬ nI lo < 0 := fun q => by
      have h0 : nI lo < nI 0 := by rw [nI_0]; exact q
      rw [nI_ltI (by omega) (by decide)] at h0
      omega
    constructor
    · rintro (h | h)
      · exact absurd h this
      · omega
    · intro h; right; omega
theorem sm2_at {M : Nat → Nat} {u : Nat} {sv ov : Int32} {sl sh ol oh x n0 : Nat} {t : aT} (hm : mtc M u t) (hsv : enF sv sl sh) (hov : enF ov ol oh) (hx : x < 32) : ∀ n, n ≤ 32 → sm2 M u sv ov x n0 n = if sl ≤ x ∧ x ≤ sh then bw2 t.1 x ol n0 (min n (oh + 1) - ol) else n0 := by
  intro n
  induction n with
  | zero =>
    intro _
    rw [sm2, show min 0 (oh + 1) - ol = 0 by omega, bw2]
    split <;> rfl
  | succ n ih =>
    intro hn
    have f1 := enF_fit hsv hx
    have f2 := enF_fit hov (x := n) (by omega)
    rw [sm2, ih (by omega)]
    by_cases c : sl ≤ x ∧ x ≤ sh
    · rw [if_pos c, if_pos c]
      by_cases c2 : ol ≤ n ∧ n ≤ oh
      · rw [if_pos ⟨f1.mpr c, f2.mpr c2⟩, show min (n + 1) (oh + 1) - ol = (n - ol) + 1 by omega, show min n (oh + 1) - ol = n - ol by omega, bw2, hm x n hx (by omega), show ol + (n - ol) = n by omega]
      · rw [if_neg (fun q => c2 (f2.mp q.2))]
        congr 1
        omega
    · rw [if_neg c, if_neg c, if_neg (fun q => c (f1.mp q.1))]
theorem sm1_at {M : Nat → Nat} {u : Nat} {sv ov : Int32} {sl sh ol oh : Nat} {t : aT} (hm : mtc M u t) (hsv : enF sv sl sh) (hov : enF ov ol oh) : sm1 M u sv ov 32 = bw1 t.1 sl ol (oh + 1 - ol) (sh + 1 - sl) := by
  have ho : min 32 (oh + 1) - ol = oh + 1 - ol := by have := hov.2.1; omega
  have all : ∀ n, n ≤ 32 → sm1 M u sv ov n = bw1 t.1 sl ol (oh + 1 - ol) (min n (sh + 1) - sl) := by
    intro n
    induction n with
    | zero => intro _; rw [sm1, show min 0 (sh + 1) - sl = 0 by omega, bw1]
    | succ n ih =>
      intro hn
      rw [sm1, sm2_at hm hsv hov (by omega) 32 (Nat.le_refl _), ih (by omega), ho]
      by_cases c : sl ≤ n ∧ n ≤ sh
      · rw [if_pos c, show min (n + 1) (sh + 1) - sl = (n - sl) + 1 by omega, show min n (sh + 1) - sl = n - sl by omega, bw1, show sl + (n - sl) = n by omega]
      · rw [if_neg c]
        congr 1
        omega
  have hs : min 32 (sh + 1) - sl = sh + 1 - sl := by have := hsv.2.1; omega
  rw [all 32 (Nat.le_refl _), hs]
theorem rk_0 {x y : Nat} {dp : Int32} {t : rT} : rk x y dp t 0 = t := by rw [rk]
theorem ry_at {ki ii sp : Nat → Int32} {M : Nat → Nat} {u : Nat} {sv ov : Int32} {wf sl sh ol oh x : Nat} {t : aT} (hm : mtc M u t) (hsv : enF sv sl sh) (hov : enF ov ol oh) (hx : x < 32) {lv : Nat → Int32} (hd : ∀ y, y < 32 → ¬ t.1 (x * 32 + y) = 0 → dpf ki ii sp u wf x y = lv y) {r : rT} : ∀ n, n ≤ 32 → ry ki ii sp M u sv ov wf x r n = if sl ≤ x ∧ x ≤ sh then kr2 t.1 lv x ol r (min n (oh + 1) - ol) else r := by
  intro n
  induction n with
  | zero =>
    intro _
    rw [ry, show min 0 (oh + 1) - ol = 0 by omega, kr2]
    split <;> rfl
  | succ n ih =>
    intro hn
    have f1 := enF_fit hsv hx
    have f2 := enF_fit hov (x := n) (by omega)
    rw [ry, ih (by omega), mny]
    by_cases c : sl ≤ x ∧ x ≤ sh
    · rw [if_pos c, if_pos c]
      by_cases c2 : ol ≤ n ∧ n ≤ oh
      · rw [if_pos ⟨f1.mpr c, f2.mpr c2⟩, show min (n + 1) (oh + 1) - ol = (n - ol) + 1 by omega, show min n (oh + 1) - ol = n - ol by omega, kr2, hm x n hx (by omega), show ol + (n - ol) = n by omega]
        by_cases c3 : t.1 (x * 32 + n) = 0
        · rw [c3, rk_0, rk_0]
        · rw [hd n (by omega) c3]
      · rw [if_neg (fun q => c2 (f2.mp q.2)), rk_0]
        congr 1
        omega
    · rw [if_neg c, if_neg c, if_neg (fun q => c (f1.mp q.1)), rk_0]
theorem kr2_0 {G : Nat → Nat} {lv : Nat → Int32} {x ol : Nat} {r : rT} : ∀ i, ol + i ≤ 32 → (∀ y, y < 32 → G (x * 32 + y) = 0) → kr2 G lv x ol r i = r := by
  intro i
  induction i with
  | zero => intro _ _; rw [kr2]
  | succ i ih =>
    intro hi h
    rw [kr2, ih (by omega) h, h (ol + i) (by omega), rk_0]
/-- rows: the same ones, whatever walk and levels lie around -/
theorem rx_at {ki ii : Nat → Int32} {M : Nat → Nat} {u a : Nat} {sv ov : Int32} {wf sl sh ol oh : Nat} {t : aT} {kd : Int32} {v : Nat} {J2 : Nat → Int32} (hc : coh t) (hm : mtc M u t) (hsv : enF sv sl sh) (hov : enF ov ol oh) (hd : ∀ x, x < 32 → ∀ sp qu lv : Nat → Int32, ∀ y, y < 32 → ¬ t.1 (x * 32 + y) = 0 → dpf ki ii (if wf = 0 then sp else (wkF M a x sp qu).1) u wf x y = lvF kd v J2 x lv y) {r : rT} {sp qu lv : Nat → Int32} : (rx ki ii M u a sv ov wf (r, sp, qu) 32).1 = (kr1 kd v J2 t.2 t.1 sl ol (oh + 1 - ol) (r, lv) (sh + 1 - sl)).1 := by
  have ho : min 32 (oh + 1) - ol = oh + 1 - ol := by have := hov.2.1; omega
  have ho2 : ol + (oh + 1 - ol) ≤ 32 := by have := hov.2.1; have := hov.1; omega
  have all : ∀ n, n ≤ 32 → (rx ki ii M u a sv ov wf (r, sp, qu) n).1 = (kr1 kd v J2 t.2 t.1 sl ol (oh + 1 - ol) (r, lv) (min n (sh + 1) - sl)).1 := by
    intro n
    induction n with
    | zero => intro _; rw [rx, show min 0 (sh + 1) - sl = 0 by omega, kr1]
    | succ n ih =>
      intro hn
      have h1 := ih (by omega)
      rw [rx]
      generalize rx ki ii M u a sv ov wf (r, sp, qu) n = X at h1 ⊢
      have hrow : ∀ lv9 : Nat → Int32, (rxS ki ii M u a sv ov wf X n).1 = if sl ≤ n ∧ n ≤ sh then kr2 t.1 (lvF kd v J2 n lv9) n ol X.1 (oh + 1 - ol) else X.1 := fun lv9 => by
        have h2 := hd n (by omega) X.2.1 X.2.2 lv9
        unfold rxS
        by_cases c : wf = 0
        · rw [if_pos c] at h2 ⊢
          rw [pj1, ry_at hm hsv hov (by omega) h2 32 (Nat.le_refl _), ho]
        · rw [if_neg c] at h2 ⊢
          rw [pj1, ry_at hm hsv hov (by omega) h2 32 (Nat.le_refl _), ho]
      by_cases c : sl ≤ n ∧ n ≤ sh
      · rw [show min n (sh + 1) - sl = n - sl by omega] at h1
        rw [show min (n + 1) (sh + 1) - sl = (n - sl) + 1 by omega, kr1]
        generalize kr1 kd v J2 t.2 t.1 sl ol (oh + 1 - ol) (r, lv) (n - sl) = Y at h1 ⊢
        rw [hrow Y.2, if_pos c, show sl + (n - sl) = n by omega, krS]
        by_cases c2 : t.2 n = 0
        · rw [if_pos c2, ← h1]
          refine kr2_0 _ ho2 (fun y hy => ?_)
          have h9 := hc.2 n y (by omega) hy
          rw [c2, b_0] at h9
          rcases Nat.eq_zero_or_pos (t.1 (n * 32 + y)) with h8 | h8
          · exact h8
          · exact absurd (h9.mpr (by omega)) (by simp)
        · rw [if_neg c2, pj1, h1]
      · rw [hrow lv, if_neg c, h1]
        congr 2
        omega
  have hs : min 32 (sh + 1) - sl = sh + 1 - sl := by have := hsv.2.1; omega
  rw [all 32 (Nat.le_refl _), hs]
/-- what is joined lies in the graph -/
theorem tv_in {P T : Nat} {ki fi se su pr ob : Nat → Int32} {K S Q O : Nat → Nat} {KD LI : Nat → Int32} {ia ib : Nat → Nat} {lk : Nat → Int32} {no gr : Int32} (hp : ptie P ki fi se K KD LI ia ib) (ht : ttie T su pr ob S Q O lk no) (hno : ∀ n, n < 32 → bt no n = true → bt gr n = true) : ∀ u, 1 ≤ u → u ≤ P → ∀ x y, x < 32 → y < 32 → ¬ (tv KD LI ia ib lk gr u).1 (x * 32 + y) = 0 → bt gr x = true ∧ bt gr y = true := by
  intro u
  induction u using Nat.strongRecOn with
  | _ u ih =>
    intro h1 h2 x y hx hy hne
    obtain ⟨e1, e2, e3, e4, e5, e6, e7, e8, e9, e10⟩ := hp u h1 h2
    have h150 : ∀ (x y : Nat), z0.1 (x * 32 + y) = 0 := fun _ _ => rfl
    by_cases c1 : K u = 0 ∨ K u = 7
    · rw [tv_n (e6 (by omega)), (cl1_at z0_coh).2 x y hx hy, h150] at hne
      have hp9 : ¬ pcb (bt (lk (x * 32 + y) &&& LI u)) 32 = 0 := by omega
      have hex : ∃ b, b < 32 ∧ bt (lk (x * 32 + y)) b = true := by
        by_cases c : ∃ b, b < 32 ∧ bt (lk (x * 32 + y)) b = true
        · exact c
        · refine absurd ?_ hp9
          have h0 : ∀ k, k ≤ 32 → pcb (bt (lk (x * 32 + y) &&& LI u)) k = 0 := by
            intro k
            induction k with
            | zero => intro _; rfl
            | succ k ih =>
              intro hk
              show pcb _ k + _ = 0
              rw [ih (by omega), if_neg (fun q => by
                rw [b_and, Bool.and_eq_true] at q
                exact c ⟨k, by omega, q.1⟩)]
          exact h0 32 (Nat.le_refl _)
      obtain ⟨b, hb, hbt⟩ := hex
      obtain ⟨k, hk, es, -, eo⟩ := (ht.2.1 x y b hx hy hb).mp hbt
      exact ⟨hno x hx ((ht.2.2.2 x hx).mpr ⟨k, hk, Or.inl es⟩), hno y hy ((ht.2.2.2 y hy).mpr ⟨k, hk, Or.inr eo⟩)⟩
    · have ha1 : 1 ≤ ia u := (e4 (by omega)).2
      have ha0 : ¬ ia u = 0 := by omega
      have iha := ih (ia u) e8 ha1 (by omega)
      have hca : coh (tv KD LI ia ib lk gr (ia u)) := tv_coh _
      by_cases c5 : K u = 2 ∨ K u = 3
      · have hb1 : 1 ≤ ib u := (e5 c5).2
        have hb0 : ¬ ib u = 0 := by omega
        have ihb := ih (ib u) e9 hb1 (by omega)
        rw [tv_b ha0 e8 hb0 e9, coT, e3] at hne
        rcases c5 with c5 | c5
        · rw [c5, if_neg (by decide), (cb1_at (tv_coh _) z0_coh).2 x y hx hy, h150, Nat.zero_add] at hne
          have hz : ∃ z, z < 32 ∧ ¬ (tv KD LI ia ib lk gr (ia u)).1 (x * 32 + z) = 0 ∧ ¬ (tv KD LI ia ib lk gr (ib u)).1 (z * 32 + y) = 0 := by
            by_cases c : ∃ z, z < 32 ∧ ¬ (tv KD LI ia ib lk gr (ia u)).1 (x * 32 + z) = 0 ∧ ¬ (tv KD LI ia ib lk gr (ib u)).1 (z * 32 + y) = 0
            · exact c
            · refine absurd ?_ hne
              have h0 : ∀ k, k ≤ 32 → sgz (tv KD LI ia ib lk gr (ia u)).1 (tv KD LI ia ib lk gr (ib u)).1 x y k = 0 := by
                intro k
                induction k with
                | zero => intro _; rw [sgz]
                | succ k ih =>
                  intro hk
                  rw [sgz, ih (by omega), Nat.zero_add]
                  rcases Nat.eq_zero_or_pos ((tv KD LI ia ib lk gr (ia u)).1 (x * 32 + k)) with h | h
                  · rw [h, Nat.zero_mul]
                  · rcases Nat.eq_zero_or_pos ((tv KD LI ia ib lk gr (ib u)).1 (k * 32 + y)) with h' | h'
                    · rw [h', Nat.mul_zero]
                    · exact absurd ⟨k, by omega, by omega, by omega⟩ c
              rw [h0 32 (Nat.le_refl _)]
              rfl
          obtain ⟨z, hz, za, zb⟩ := hz
          exact ⟨(iha x z hx hz za).1, (ihb z y hz hy zb).2⟩
        · rw [c5, if_pos rfl, (ca1_at (ca1_at z0_coh).1).2 x y hx hy, (ca1_at z0_coh).2 x y hx hy, h150, Nat.zero_add] at hne
          rcases Nat.eq_zero_or_pos ((tv KD LI ia ib lk gr (ia u)).1 (x * 32 + y)) with h | h
          · exact ihb x y hx hy (by omega)
          · exact iha x y hx hy (by omega)
      · have hb0 : ib u = 0 := e7 c5
        by_cases c3 : K u = 1
        · rw [tv_i ha0 e8 hb0, coO, e3, c3, if_pos rfl, (ct1_at z0_coh 32 (Nat.le_refl _)).2 x y hx hy, if_pos hy, h150] at hne
          have := iha y x hy hx (by omega)
          exact ⟨this.2, this.1⟩
        · have hk1 : ¬ KD u = nI 1 := by rw [e3, nIk e2 (by omega)]; omega
          have htv := tv_i (KD := KD) (LI := LI) (lk := lk) (gr := gr) ha0 e8 hb0
          have hE : ∀ i j, i < 32 → j < 32 → bt ((tv KD LI ia ib lk gr (ia u)).2 i) j = true → bt gr i = true ∧ bt gr j = true := fun i j hi hj h => iha i j hi hj ((hca.2 i j hi hj).mp h)
          have hJ : ∀ i j, i < 32 → j < 32 → (bt (jb1 (tv KD LI ia ib lk gr (ia u)).2 z0.2 32 i) j = true → bt gr i = true ∧ bt gr j = true) := fun i j hi hj h => by
            rw [jb1_at, if_pos hi] at h
            exact hE i j hi hj h
          have hR : rch (eJ (jb1 (tv KD LI ia ib lk gr (ia u)).2 z0.2 32)) x y → bt gr x = true ∧ bt gr y = true := by
            rintro ⟨n, hw⟩
            have key : ∀ n v, v < 32 → wl (eJ (jb1 (tv KD LI ia ib lk gr (ia u)).2 z0.2 32)) x n v → bt gr x = true ∧ bt gr v = true := by
              intro n
              induction n with
              | zero => intro v hv h; exact hJ x v hx hv h
              | succ n ih =>
                intro v hv h
                obtain ⟨z, hz, q1, q2⟩ := h
                exact ⟨(ih z hz q1).1, (hJ z v hz hv q2).2⟩
            exact key n y hy hw
          have hself : x = y ∧ bt gr x = true → bt gr x = true ∧ bt gr y = true := fun h => ⟨h.2, by rw [← h.1]; exact h.2⟩
          have hb := ((tv_coh (KD := KD) (LI := LI) (ia := ia) (ib := ib) (lk := lk) (gr := gr) u).2 x y hx hy).mpr hne
          rw [htv, coO, if_neg hk1, pj2, jbF, e3] at hb
          by_cases c6 : K u = 5
          · rw [c6, if_pos rfl, jo1_rch hx hy] at hb
            exact hR hb
          · rw [if_neg (by rw [nIk e2 (by decide)]; exact c6)] at hb
            by_cases c7 : K u = 4
            · rw [c7, if_pos rfl, js1_bt hx hy, jo1_rch hx hy] at hb
              exact hb.elim hR hself
            · rw [if_neg (by rw [nIk e2 (by decide)]; exact c7), js1_bt hx hy] at hb
              exact hb.elim (hJ x y hx hy) hself
