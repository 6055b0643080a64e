/-! STEPS, one a method; printed by wip/m57.py -/
theorem tz_0 : (0 : Int32).toInt = 0 := by decide
theorem ti_15 : (nI 15).toInt = 15 := by decide
theorem ti_31 : (nI 31).toInt = 31 := by decide
theorem rg_32 (v : Int32) : (0 ≤ v ∧ v < nI 32) ↔ (nI 0 ≤ v ∧ v ≤ nI 31) := by
  rw [Int32.le_iff_toInt_le, Int32.lt_iff_toInt_lt, Int32.le_iff_toInt_le, Int32.le_iff_toInt_le, tz_0, ti_32, ti_0, ti_31]
  omega
theorem rg_16 (v : Int32) : (0 ≤ v ∧ v < nI 16) ↔ (nI 0 ≤ v ∧ v ≤ nI 15) := by
  rw [Int32.le_iff_toInt_le, Int32.lt_iff_toInt_lt, Int32.le_iff_toInt_le, Int32.le_iff_toInt_le, tz_0, ti_16, ti_0, ti_15]
  omega
theorem im1 {v : Int32} : v = -1 ↔ v.toInt = -1 := ⟨fun h => by rw [h]; exact ti_m1, fun h => Int32.toInt_inj.mp (by rw [h]; exact ti_m1.symm)⟩
theorem en_32 (v : Int32) : (v = -1 ∨ (0 ≤ v ∧ v < nI 32)) ↔ (-1 ≤ v ∧ v < nI 32) := by
  rw [im1, Int32.le_iff_toInt_le, Int32.lt_iff_toInt_lt, Int32.le_iff_toInt_le, tz_0, ti_32, ti_m1]
  omega
theorem en_16 (v : Int32) : (v = -1 ∨ (0 ≤ v ∧ v < nI 16)) ↔ (-1 ≤ v ∧ v ≤ nI 15) := by
  rw [im1, Int32.le_iff_toInt_le, Int32.lt_iff_toInt_lt, Int32.le_iff_toInt_le, Int32.le_iff_toInt_le, tz_0, ti_16, ti_m1, ti_15]
  omega
theorem ng_1 (v : Int32) : ¬ v < nI 1 ↔ nI 1 ≤ v := by
  rw [Int32.lt_iff_toInt_lt, Int32.le_iff_toInt_le]
  omega
theorem ix0 {v : Int32} {n : Nat} (hn : n + 1 < 2 ^ 31) (h : nI 0 ≤ v ∧ v ≤ nI n) : ∃ k, k ≤ n ∧ v = nI k := by
  have h1 : ¬ v < 0 := by
    have := h.1
    rw [nI_0] at this
    rw [Int32.lt_iff_toInt_lt]
    rw [Int32.le_iff_toInt_le] at this
    omega
  have h2 : ¬ nI (n + 1) ≤ v := fun q => by
    have h3 := h.2
    rw [Int32.le_iff_toInt_le] at q h3
    have h4 := (nI_ltI (a := n) (b := n + 1) (by omega) (by omega)).mpr (by omega)
    rw [Int32.lt_iff_toInt_lt] at h4
    omega
  obtain ⟨k, hk, e⟩ := ix_of (by omega) h1 h2
  exact ⟨k, by omega, e⟩
theorem nI_sh {a : Nat} : (1 : Int32) <<< (nI a &&& 31) = sh1 a := rfl
theorem st_triple {g : gX} {x : Nat} {w : wd_M} {σ : St} (hI : IV g x w σ) {sv pv ov r1 : Int32} {w1 : wd_M} (h1 : p3_triple g w x σ sv pv ov r1 w1) : mS9 g w1 x σ = w1 ∧ ∀ r2 w2, p4_triple g w1 x σ sv pv ov r2 w2 → r1 = r2 ∧ ∃ σ', IV g x w2 σ' := by
  have hcx : xW g w x (nI σ.P) σ.mo σ.no (nI σ.T) (nI σ.N) σ.wr σ.lk σ.ps σ.fs σ.ss σ.ds σ.lv = w := hI.c.cx
  unfold p3_triple at h1
  rcases h1 with ⟨hn, e1, e2⟩ | ⟨a, b, d, ha, hb, hd, rfl, rfl, rfl, h1⟩
  · rw [hcx] at e2
    subst e2
    refine ⟨hI.cm, fun r2 w2 h2 => ?_⟩
    unfold p4_triple at h2
    have hn' : ¬ ((nI 0 ≤ sv ∧ sv ≤ nI 31) ∧ (nI 0 ≤ ov ∧ ov ≤ nI 31) ∧ (nI 0 ≤ pv ∧ pv ≤ nI 15)) := fun q => hn ⟨(rg_32 _).mpr q.1, (rg_16 _).mpr q.2.2, (rg_32 _).mpr q.2.1⟩
    rcases h2 with ⟨-, q1, q2⟩ | ⟨q, -⟩ | ⟨q, -⟩ | ⟨q, -⟩
    · rw [e1, q1, q2]; exact ⟨rfl, hI.rf0 _⟩
    · exact absurd q hn'
    · exact absurd q hn'
    · exact absurd q hn'
  · have hr : (nI 0 ≤ nI a ∧ nI a ≤ nI 31) ∧ (nI 0 ≤ nI d ∧ nI d ≤ nI 31) ∧ (nI 0 ≤ nI b ∧ nI b ≤ nI 15) := ⟨⟨(nI_leI (by omega) (by omega)).mpr (by omega), (nI_leI (by omega) (by omega)).mpr (by omega)⟩, ⟨(nI_leI (by omega) (by omega)).mpr (by omega), (nI_leI (by omega) (by omega)).mpr (by omega)⟩, ⟨(nI_leI (by omega) (by omega)).mpr (by omega), (nI_leI (by omega) (by omega)).mpr (by omega)⟩⟩
    have hex := has_eq hI.t.tt ha hb hd
    rcases h1 with ⟨hb1, e1, e2⟩ | ⟨hb1, hT, e1, e2⟩ | ⟨hb1, hT, e1, e2⟩
    · rw [hcx] at e2
      subst e2
      refine ⟨hI.cm, fun r2 w2 h2 => ?_⟩
      unfold p4_triple at h2
      rcases h2 with ⟨q, -⟩ | ⟨-, -, q1, q2⟩ | ⟨-, q, -⟩ | ⟨-, q, -⟩
      · exact absurd hr q
      · rw [e1, q1, q2]; exact ⟨rfl, hI.rf0 _⟩
      · exact absurd (hex.mp hb1) q
      · exact absurd (hex.mp hb1) q
    · rw [hcx] at e2
      subst e2
      refine ⟨hI.cm, fun r2 w2 h2 => ?_⟩
      unfold p4_triple at h2
      rcases h2 with ⟨q, -⟩ | ⟨-, q, -⟩ | ⟨-, -, -, q1, q2⟩ | ⟨-, -, q, -⟩
      · exact absurd hr q
      · exact absurd (hex.mpr q) hb1
      · rw [e1, q1, q2]; exact ⟨rfl, hI.rf0 _⟩
      · omega
    · refine ⟨by rw [e2]; exact md_x hI.cm, fun r2 w2 h2 => ?_⟩
      unfold p4_triple at h2
      rcases h2 with ⟨q, -⟩ | ⟨-, q, -⟩ | ⟨-, -, q, -⟩ | ⟨-, -, -, q1, q2⟩
      · exact absurd hr q
      · exact absurd (hex.mpr q) hb1
      · omega
      · rw [e1, q1, q2]
        refine ⟨rfl, ?_⟩
        have hc : HC g x w1 (mkSt (σ.T + 1) σ.P σ.N σ.mo (σ.no ||| (sh1 a ||| sh1 d)) σ.wr σ.rf σ.gb (upd σ.lk (a * 32 + d) (σ.lk (a * 32 + d) ||| sh1 b)) σ.ps σ.fs σ.ss σ.ds σ.lv σ.qa σ.KD σ.LI σ.ia σ.ib σ.PM σ.CS σ.CG σ.TF σ.JF (upd σ.su σ.T (nI a)) (upd σ.pr σ.T (nI b)) (upd σ.ob σ.T (nI d)) σ.ki σ.fi σ.se σ.M σ.nd σ.ii σ.sp σ.qu (va_up σ.S σ.T a) (va_up σ.Q σ.T b) (va_up σ.O σ.T d) σ.K σ.fo) := by
          rw [e2]
          exact hI.c.x σ.mo (σ.no ||| (sh1 a ||| sh1 d)) σ.wr σ.rf σ.gb (σ.T + 1) σ.N (upd σ.lk (a * 32 + d) (σ.lk (a * 32 + d) ||| sh1 b)) σ.fs σ.ss σ.ds σ.lv _ _ _ _ _ _ _ _ _ _ _ _ _ _ _
        have ht : TI (mkSt (σ.T + 1) σ.P σ.N σ.mo (σ.no ||| (sh1 a ||| sh1 d)) σ.wr σ.rf σ.gb (upd σ.lk (a * 32 + d) (σ.lk (a * 32 + d) ||| sh1 b)) σ.ps σ.fs σ.ss σ.ds σ.lv σ.qa σ.KD σ.LI σ.ia σ.ib σ.PM σ.CS σ.CG σ.TF σ.JF (upd σ.su σ.T (nI a)) (upd σ.pr σ.T (nI b)) (upd σ.ob σ.T (nI d)) σ.ki σ.fi σ.se σ.M σ.nd σ.ii σ.sp σ.qu (va_up σ.S σ.T a) (va_up σ.Q σ.T b) (va_up σ.O σ.T d) σ.K σ.fo) := by
          obtain ⟨sh, cc, pt, tt, mb, hT0, hP, hN, hw⟩ := hI.t
          refine ⟨sh, fun u h1 h2 => ?_, pt, ttie_add tt ha hb hd hb1, mb, hT, hP, hN, hw⟩
          obtain ⟨c1, c2, c3⟩ := cc u h1 h2
          have hno : ¬ σ.CS u = nI (σ.T + 1) := fun q => by
            rcases c3 with c3 | ⟨c, hc, c3⟩
            · rw [c3] at q; exact nI_m1 (by omega) q.symm
            · rw [c3, nI_eq (by omega) (by omega)] at q; omega
          refine ⟨c1, fun q => absurd q hno, ?_⟩
          rcases c3 with c3 | ⟨c, hc, c3⟩
          · exact Or.inl c3
          · exact Or.inr ⟨c, Nat.le_succ_of_le hc, c3⟩
        exact ⟨_, IV.mk3 hc ht (nI 0) σ.gb σ.M σ.nd σ.ii σ.sp σ.qu hI.t.mb⟩
theorem st_from {g : gX} {x : Nat} {w : wd_M} {σ : St} (hI : IV g x w σ) {nd9 r1 : Int32} {w1 : wd_M} (h1 : p3_from g w x σ nd9 r1 w1) : mS9 g w1 x σ = w1 ∧ ∀ r2 w2, p4_from g w1 x σ nd9 r2 w2 → r1 = r2 ∧ ∃ σ', IV g x w2 σ' := by
  have hcx : xW g w x (nI σ.P) σ.mo σ.no (nI σ.T) (nI σ.N) σ.wr σ.lk σ.ps σ.fs σ.ss σ.ds σ.lv = w := hI.c.cx
  unfold p3_from at h1
  rcases h1 with ⟨hn, e1, e2⟩ | ⟨a, ha, rfl, e1, e2⟩
  · rw [hcx] at e2
    subst e2
    refine ⟨hI.cm, fun r2 w2 h2 => ?_⟩
    unfold p4_from at h2
    rcases h2 with ⟨-, q1, q2⟩ | ⟨q, -⟩
    · rw [e1, q1, q2]; exact ⟨rfl, hI.rf0 _⟩
    · exact absurd ((rg_32 _).mpr q) hn
  · rw [hcx] at e2
    subst e2
    refine ⟨hI.cm, fun r2 w2 h2 => ?_⟩
    unfold p4_from at h2
    rcases h2 with ⟨q, -⟩ | ⟨-, q1, q2⟩
    · exact absurd ⟨(nI_leI (by omega) (by omega)).mpr (by omega), (nI_leI (by omega) (by omega)).mpr (by omega)⟩ q
    · rw [e1, q1, q2, from_eq hI.t.tt ha]; exact ⟨rfl, hI.rf0 _⟩
theorem st_at {g : gX} {x : Nat} {w : wd_M} {σ : St} (hI : IV g x w σ) {i sd r1 : Int32} {w1 : wd_M} (h1 : p3_at g w x σ i sd r1 w1) : mS9 g w1 x σ = w1 ∧ ∀ r2 w2, p4_at g w1 x σ i sd r2 w2 → r1 = r2 ∧ ∃ σ', IV g x w2 σ' := by
  have hcx : xW g w x (nI σ.P) σ.mo σ.no (nI σ.T) (nI σ.N) σ.wr σ.lk σ.ps σ.fs σ.ss σ.ds σ.lv = w := hI.c.cx
  unfold p3_at at h1
  obtain ⟨e1, e2⟩ := h1
  rw [hcx] at e2
  subst e2
  refine ⟨hI.cm, fun r2 w2 h2 => ?_⟩
  unfold p4_at at h2
  obtain ⟨q1, q2⟩ := h2
  rw [e1, q1, q2]
  exact ⟨rfl, hI.rf0 _⟩
theorem st_steps {g : gX} {x : Nat} {w : wd_M} {σ : St} (hI : IV g x w σ) {a r1 : Int32} {w1 : wd_M} (h1 : p3_steps g w x σ a r1 w1) : mS9 g w1 x σ = w1 ∧ ∀ r2 w2, p4_steps g w1 x σ a r2 w2 → r1 = r2 ∧ ∃ σ', IV g x w2 σ' := by
  have hcx : xW g w x (nI σ.P) σ.mo σ.no (nI σ.T) (nI σ.N) σ.wr σ.lk σ.ps σ.fs σ.ss σ.ds σ.lv = w := hI.c.cx
  unfold p3_steps at h1
  rcases h1 with ⟨hn, e1, e2⟩ | ⟨hn, e1, e2⟩
  · rw [hcx] at e2
    subst e2
    refine ⟨hI.cm, fun r2 w2 h2 => ?_⟩
    unfold p4_steps at h2
    rcases h2 with ⟨-, q1, q2⟩ | ⟨q, -⟩
    · rw [e1, q1, q2]; exact ⟨rfl, hI.rf0 _⟩
    · exact absurd ⟨(ng_1 _).mpr q.1, q.2⟩ hn
  · refine ⟨by rw [e2]; exact md_x hI.cm, fun r2 w2 h2 => ?_⟩
    unfold p4_steps at h2
    rcases h2 with ⟨q, -⟩ | ⟨-, q1, q2⟩
    · exact absurd ⟨(ng_1 _).mp hn.1, hn.2⟩ q
    · rw [e1, q1, q2]
      refine ⟨rfl, ?_⟩
      have hc : HC g x w1 (mkSt σ.T σ.P σ.N (a) σ.no σ.wr σ.rf σ.gb σ.lk σ.ps σ.fs σ.ss σ.ds σ.lv σ.qa σ.KD σ.LI σ.ia σ.ib σ.PM σ.CS σ.CG σ.TF σ.JF σ.su σ.pr σ.ob σ.ki σ.fi σ.se σ.M σ.nd σ.ii σ.sp σ.qu σ.S σ.Q σ.O σ.K σ.fo) := by
        rw [e2]
        exact hI.c.x a σ.no σ.wr σ.rf σ.gb σ.T σ.N σ.lk σ.fs σ.ss σ.ds σ.lv _ _ _ _ _ _ _ _ _ _ _ _ _ _ _
      have ht : TI (mkSt σ.T σ.P σ.N (a) σ.no σ.wr σ.rf σ.gb σ.lk σ.ps σ.fs σ.ss σ.ds σ.lv σ.qa σ.KD σ.LI σ.ia σ.ib σ.PM σ.CS σ.CG σ.TF σ.JF σ.su σ.pr σ.ob σ.ki σ.fi σ.se σ.M σ.nd σ.ii σ.sp σ.qu σ.S σ.Q σ.O σ.K σ.fo) := ⟨hI.t.sh, hI.t.cc, hI.t.pt, hI.t.tt, hI.t.mb, hI.t.hT, hI.t.hP, hI.t.hN, hI.t.hw⟩
      exact ⟨_, IV.mk3 hc ht (nI 0) σ.gb σ.M σ.nd σ.ii σ.sp σ.qu hI.t.mb⟩
theorem has_wr {σ : St} (ht : TI σ) {i : Int32} : (¬ σ.wr = 0 ∧ ¬ i < 0 ∧ ¬ nI σ.N ≤ i) ↔ (¬ i < 0 ∧ ¬ nI σ.N ≤ i) := by
  refine ⟨fun h => h.2, fun h => ⟨fun q => ?_, h⟩⟩
  have e := ht.hw q
  rw [e, nI_0, Int32.le_iff_toInt_le, Int32.lt_iff_toInt_lt] at h
  omega
theorem st_cycle {g : gX} {x : Nat} {w : wd_M} {σ : St} (hI : IV g x w σ) {i r1 : Int32} {w1 : wd_M} (h1 : p3_cycle g w x σ i r1 w1) : mS9 g w1 x σ = w1 ∧ ∀ r2 w2, p4_cycle g w1 x σ i r2 w2 → r1 = r2 ∧ ∃ σ', IV g x w2 σ' := by
  have hcx : xW g w x (nI σ.P) σ.mo σ.no (nI σ.T) (nI σ.N) σ.wr σ.lk σ.ps σ.fs σ.ss σ.ds σ.lv = w := hI.c.cx
  unfold p3_cycle at h1
  obtain ⟨e1, e2⟩ := h1
  rw [hcx] at e2
  subst e2
  refine ⟨hI.cm, fun r2 w2 h2 => ?_⟩
  unfold p4_cycle at h2
  obtain ⟨q1, q2⟩ := h2
  rw [e1, q1, q2]
  exact ⟨zB_c (and_congr (has_wr hI.t).symm Iff.rfl), hI.rf0 _⟩
