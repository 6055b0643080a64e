/-! STEPS: run, plain, depth; printed by wip/m59.py -/
theorem HC.cp {g : gX} {x : Nat} {w : wd_M} {σ : St} (h : HC g x w σ) {gr : Int32} {u n : Nat} {w3 : wd_M} {CS3 CG3 : Nat → Int32} {TF3 : Nat → Nat → Nat} {JF3 : Nat → Nat → Int32} (hcp : cpI g w x σ.P σ.ps σ.qa σ.KD σ.LI σ.ia σ.ib σ.PM σ.lk σ.T gr u n w3 CS3 CG3 TF3 JF3) (mo no wr rf gb : Int32) (T N : Nat) (lk fs ss ds lv su pr ob ki fi se : Nat → Int32) (M : Nat → Nat) (nd ii sp qu : Nat → Int32) (S Q O K : Nat → Nat) : HC g x (xW g w3 x (nI σ.P) mo no (nI T) (nI N) wr lk σ.ps fs ss ds lv) (mkSt (T) σ.P (N) (mo) (no) (wr) (rf) (gb) (lk) σ.ps (fs) (ss) (ds) (lv) σ.qa σ.KD σ.LI σ.ia σ.ib σ.PM (CS3) (CG3) (TF3) (JF3) (su) (pr) (ob) (ki) (fi) (se) (M) (nd) (ii) (sp) (qu) (S) (Q) (O) (K) σ.fo) := by
  refine ⟨xW_id, ?_, pool_tr hcp.1 h.pq (fun a _ => xW_out (by omega)), h.pq⟩
  rw [xW_out (by omega), hcp.2.2.1 (x + 24) (fun u h1 h2 => by have := h.pq u h1 h2; omega)]
  exact h.co
theorem md_cp {g : gX} {x : Nat} {w : wd_M} {σ : St} (hI : IV g x w σ) {gr : Int32} {u n : Nat} {w3 : wd_M} {CS3 CG3 : Nat → Int32} {TF3 : Nat → Nat → Nat} {JF3 : Nat → Nat → Int32} (hcp : cpI g w x σ.P σ.ps σ.qa σ.KD σ.LI σ.ia σ.ib σ.PM σ.lk σ.T gr u n w3 CS3 CG3 TF3 JF3) {pc mo no sz rs wr : Int32} {lk : Nat → Int32} {ps : Nat → Option Nat} {fs ss ds lv : Nat → Int32} : mS9 g (xW g w3 x pc mo no sz rs wr lk ps fs ss ds lv) x σ = xW g w3 x pc mo no sz rs wr lk ps fs ss ds lv := mW_tr hI.cm (fun a _ _ => by
  rw [xW_out (by omega)]
  exact hcp.2.2.1 a (fun u h1 h2 => by have := hI.c.pq u h1 h2; omega))
theorem enF_end {v : Int32} {lo hi : Nat} (h : enF v lo hi) : -1 ≤ v ∧ v < nI 32 := by
  rw [← en_32]
  rcases h.2.2 with ⟨e, -, -⟩ | ⟨e, -, hl⟩
  · exact Or.inl e
  · refine Or.inr ?_
    rw [e, ← nI_0, nI_leI (by omega) (by omega), nI_ltI (by omega) (by omega)]
    omega
theorem TI.cp {g : gX} {x : Nat} {w : wd_M} {σ : St} (hI : IV g x w σ) {gr : Int32} {u n : Nat} {w3 : wd_M} {CS3 CG3 : Nat → Int32} {TF3 : Nat → Nat → Nat} {JF3 : Nat → Nat → Int32} (hcp : cpI g w x σ.P σ.ps σ.qa σ.KD σ.LI σ.ia σ.ib σ.PM σ.lk σ.T gr u n w3 CS3 CG3 TF3 JF3) (wr : Int32) (N : Nat) (fs ss ds lv : Nat → Int32) (hN : N ≤ 2000) (hw : wr = 0 → N = 0) : TI (mkSt σ.T σ.P (N) σ.mo σ.no (wr) σ.rf σ.gb σ.lk σ.ps (fs) (ss) (ds) (lv) σ.qa σ.KD σ.LI σ.ia σ.ib σ.PM (CS3) (CG3) (TF3) (JF3) σ.su σ.pr σ.ob σ.ki σ.fi σ.se σ.M σ.nd σ.ii σ.sp σ.qu σ.S σ.Q σ.O σ.K σ.fo) := ⟨hI.t.sh, hcp.2.1, hI.t.pt, hI.t.tt, hI.t.mb, hI.t.hT, hI.t.hP, hN, hw⟩
theorem st_plain {g : gX} {x : Nat} {w : wd_M} {σ : St} (hI : IV g x w σ) {pv sv ov r1 : Int32} {w1 : wd_M} (h1 : p3_plain g w x σ pv sv ov r1 w1) : mS9 g w1 x σ = w1 ∧ ∀ r2 w2, p4_plain g w1 x σ pv sv ov r2 w2 → r1 = r2 ∧ ∃ σ', IV g x w2 σ' := by
  have hcx : xW g w x (nI σ.P) σ.mo σ.no (nI σ.T) (nI σ.N) σ.wr σ.lk σ.ps σ.fs σ.ss σ.ds σ.lv = w := hI.c.cx
  have hP := hI.t.hP
  unfold p3_plain at h1
  rcases h1 with ⟨hn, e1, e2⟩ | ⟨hy, hn, e1, e2⟩ | ⟨u, sl, sh, ol, oh, hu1, hu2, rfl, hsv, hov, w3, CS3, CG3, TF3, JF3, hcp, h1⟩
  · rw [hcx] at e2
    subst e2
    refine ⟨hI.cm, fun r2 w2 h2 => ?_⟩
    unfold p4_plain at h2
    rcases h2 with ⟨-, q1, q2⟩ | ⟨q, -⟩ | ⟨u, a1, a2, rfl, -⟩
    · rw [e1, q1, q2]; exact ⟨rfl, hI.rf0 _⟩
    · exact absurd q hn
    · exact absurd (isP a1 a2 hP) hn
  · rw [hcx] at e2
    subst e2
    refine ⟨hI.cm, fun r2 w2 h2 => ?_⟩
    unfold p4_plain at h2
    rw [en_32, en_32] at hn
    rcases h2 with ⟨q, -⟩ | ⟨-, -, q1, q2⟩ | ⟨u, -, -, -, q, -⟩
    · exact absurd hy q
    · rw [e1, q1, q2]; exact ⟨rfl, hI.rf0 _⟩
    · exact absurd q hn
  · have hend := And.intro (enF_end hsv) (enF_end hov)
    have hJ : ∀ v, 1 ≤ v → v ≤ u → pmb (σ.PM u) v → TF3 v = (tv σ.KD σ.LI σ.ia σ.ib σ.lk (σ.no ||| eb sv ||| eb ov) v).1 ∧ JF3 v = (tv σ.KD σ.LI σ.ia σ.ib σ.lk (σ.no ||| eb sv ||| eb ov) v).2 := fun v a b c => cp_val hI.t.sh hu2 hcp a (by omega) c
    have hB := pp1_B (ki := σ.ki) (fi := σ.fi) (se := σ.se) (pr := σ.pr) (ii := fg2 (fg1 σ.ii sv ov 32) σ.S σ.O σ.T) (S := σ.S) (O := σ.O) (K := σ.K) (A := σ.ia) (B := σ.ib) (T := σ.T) (mo := σ.mo) (N := fn2 σ.ki σ.ia σ.ib u (fn1 σ.nd u σ.P) u) (t := (σ.M, σ.sp, σ.qu, nI 0)) (mB_of (pj_1 _ _ _ _) hI.t.mb) u
    obtain ⟨k1, k2, k3⟩ := run_eq (nd := σ.nd) (ii := σ.ii) (mo := σ.mo) hI.t.pt hI.t.sh hI.t.tt hI.t.hT hu1 hu2 hsv hov hJ σ.M σ.sp σ.qu (t := pp1 σ.ki σ.fi σ.se σ.pr (fg2 (fg1 σ.ii sv ov 32) σ.S σ.O σ.T) σ.S σ.O σ.K σ.ia σ.ib σ.T σ.mo (fn2 σ.ki σ.ia σ.ib u (fn1 σ.nd u σ.P) u) (σ.M, σ.sp, σ.qu, nI 0) u) rfl
    obtain ⟨e1, e2⟩ := h1
    refine ⟨by rw [e2]; exact md_cp hI hcp, fun r2 w2 h2 => ?_⟩
    unfold p4_plain at h2
    rcases h2 with ⟨q, -⟩ | ⟨-, q, -⟩ | ⟨u', a1, a2, eu, -, q1, q2⟩
    · exact absurd (isP hu1 hu2 hP) q
    · exact absurd hend q
    · have eu : u = u' := (nI_eq (by omega) (by omega)).mp eu
      subst eu
      generalize pp1 σ.ki σ.fi σ.se σ.pr (fg2 (fg1 σ.ii sv ov 32) σ.S σ.O σ.T) σ.S σ.O σ.K σ.ia σ.ib σ.T σ.mo (fn2 σ.ki σ.ia σ.ib u (fn1 σ.nd u σ.P) u) (σ.M, σ.sp, σ.qu, nI 0) u = t at q1 q2 k1 k2 k3 hB
      rw [e1, q1, q2, k2]
      refine ⟨rfl, ?_⟩
      have hc : HC g x w1 (mkSt σ.T σ.P σ.N σ.mo σ.no σ.wr σ.rf σ.gb σ.lk σ.ps σ.fs σ.ss σ.ds σ.lv σ.qa σ.KD σ.LI σ.ia σ.ib σ.PM (CS3) (CG3) (TF3) (JF3) σ.su σ.pr σ.ob σ.ki σ.fi σ.se σ.M σ.nd σ.ii σ.sp σ.qu σ.S σ.Q σ.O σ.K σ.fo) := by
        rw [e2]
        exact hI.c.cp hcp σ.mo σ.no σ.wr σ.rf σ.gb σ.T σ.N σ.lk σ.fs σ.ss σ.ds σ.lv _ _ _ _ _ _ _ _ _ _ _ _ _ _ _
      exact ⟨_, IV.mk3 hc (TI.cp hI hcp σ.wr σ.N σ.fs σ.ss σ.ds σ.lv hI.t.hN hI.t.hw) (nI 0) t.2.2.2 t.1 (fn2 σ.ki σ.ia σ.ib u (fn1 σ.nd u σ.P) u) (fg2 (fg1 σ.ii sv ov 32) σ.S σ.O σ.T) t.2.1 t.2.2.1 hB⟩
theorem st_run {g : gX} {x : Nat} {w : wd_M} {σ : St} (hI : IV g x w σ) {pv sv ov r1 : Int32} {w1 : wd_M} (h1 : p3_run g w x σ pv sv ov r1 w1) : mS9 g w1 x σ = w1 ∧ ∀ r2 w2, p4_run g w1 x σ pv sv ov r2 w2 → r1 = r2 ∧ ∃ σ', IV g x w2 σ' := by
  have hcx : xW g w x (nI σ.P) σ.mo σ.no (nI σ.T) (nI σ.N) σ.wr σ.lk σ.ps σ.fs σ.ss σ.ds σ.lv = w := hI.c.cx
  have hP := hI.t.hP
  unfold p3_run at h1
  rcases h1 with ⟨hn, e1, e2⟩ | ⟨hy, hn, e1, e2⟩ | ⟨u, sl, sh, ol, oh, hu1, hu2, rfl, hsv, hov, w3, CS3, CG3, TF3, JF3, hcp, h1⟩
  · rw [hcx] at e2
    subst e2
    refine ⟨hI.cm, fun r2 w2 h2 => ?_⟩
    unfold p4_run at h2
    rcases h2 with ⟨-, q1, q2⟩ | ⟨q, -⟩ | ⟨u, a1, a2, rfl, -⟩
    · rw [e1, q1, q2]; exact ⟨rfl, hI.rf0 _⟩
    · exact absurd q hn
    · exact absurd (isP a1 a2 hP) hn
  · rw [hcx] at e2
    subst e2
    refine ⟨hI.cm, fun r2 w2 h2 => ?_⟩
    unfold p4_run at h2
    rw [en_32, en_32] at hn
    rcases h2 with ⟨q, -⟩ | ⟨-, -, q1, q2⟩ | ⟨u, -, -, -, q, -⟩
    · exact absurd hy q
    · rw [e1, q1, q2]; exact ⟨rfl, hI.rf0 _⟩
    · exact absurd q hn
  · have hend := And.intro (enF_end hsv) (enF_end hov)
    have hJ : ∀ v, 1 ≤ v → v ≤ u → pmb (σ.PM u) v → TF3 v = (tv σ.KD σ.LI σ.ia σ.ib σ.lk (σ.no ||| eb sv ||| eb ov) v).1 ∧ JF3 v = (tv σ.KD σ.LI σ.ia σ.ib σ.lk (σ.no ||| eb sv ||| eb ov) v).2 := fun v a b c => cp_val hI.t.sh hu2 hcp a (by omega) c
    have hB := pp1_B (ki := σ.ki) (fi := σ.fi) (se := σ.se) (pr := σ.pr) (ii := fg2 (fg1 σ.ii sv ov 32) σ.S σ.O σ.T) (S := σ.S) (O := σ.O) (K := σ.K) (A := σ.ia) (B := σ.ib) (T := σ.T) (mo := σ.mo) (N := fn2 σ.ki σ.ia σ.ib u (fn1 σ.nd u σ.P) u) (t := (σ.M, σ.sp, σ.qu, nI 0)) (mB_of (pj_1 _ _ _ _) hI.t.mb) u
    obtain ⟨k1, k2, k3⟩ := run_eq (nd := σ.nd) (ii := σ.ii) (mo := σ.mo) hI.t.pt hI.t.sh hI.t.tt hI.t.hT hu1 hu2 hsv hov hJ σ.M σ.sp σ.qu (t := pp1 σ.ki σ.fi σ.se σ.pr (fg2 (fg1 σ.ii sv ov 32) σ.S σ.O σ.T) σ.S σ.O σ.K σ.ia σ.ib σ.T σ.mo (fn2 σ.ki σ.ia σ.ib u (fn1 σ.nd u σ.P) u) (σ.M, σ.sp, σ.qu, nI 0) u) rfl
    rcases h1 with ⟨hg, e1, e2⟩ | ⟨hg, hn, e1, e2⟩ | ⟨hg, hn, e1, e2⟩
    · refine ⟨by rw [e2]; exact md_cp hI hcp, fun r2 w2 h2 => ?_⟩
      unfold p4_run at h2
      rcases h2 with ⟨q, -⟩ | ⟨-, q, -⟩ | ⟨u', a1, a2, eu, -, h2⟩
      · exact absurd (isP hu1 hu2 hP) q
      · exact absurd hend q
      · have eu : u = u' := (nI_eq (by omega) (by omega)).mp eu
        subst eu
        generalize pp1 σ.ki σ.fi σ.se σ.pr (fg2 (fg1 σ.ii sv ov 32) σ.S σ.O σ.T) σ.S σ.O σ.K σ.ia σ.ib σ.T σ.mo (fn2 σ.ki σ.ia σ.ib u (fn1 σ.nd u σ.P) u) (σ.M, σ.sp, σ.qu, nI 0) u = t at h2 k1 k2 k3 hB
        rcases h2 with ⟨-, q1, q2⟩ | ⟨q, -⟩ | ⟨q, -⟩
        rotate_left
        · exact absurd q (k1.mpr hg)
        · exact absurd q (k1.mpr hg)
        rw [e1, q1, q2]
        refine ⟨rfl, ?_⟩
        have hc : HC g x w1 (mkSt σ.T σ.P σ.N σ.mo σ.no σ.wr σ.rf σ.gb σ.lk σ.ps σ.fs σ.ss σ.ds σ.lv σ.qa σ.KD σ.LI σ.ia σ.ib σ.PM (CS3) (CG3) (TF3) (JF3) σ.su σ.pr σ.ob σ.ki σ.fi σ.se σ.M σ.nd σ.ii σ.sp σ.qu σ.S σ.Q σ.O σ.K σ.fo) := by
          rw [e2]
          exact hI.c.cp hcp σ.mo σ.no σ.wr σ.rf σ.gb σ.T σ.N σ.lk σ.fs σ.ss σ.ds σ.lv _ _ _ _ _ _ _ _ _ _ _ _ _ _ _
        exact ⟨_, IV.mk3 hc (TI.cp hI hcp σ.wr σ.N σ.fs σ.ss σ.ds σ.lv hI.t.hN hI.t.hw) (nI 0) t.2.2.2 t.1 (fn2 σ.ki σ.ia σ.ib u (fn1 σ.nd u σ.P) u) (fg2 (fg1 σ.ii sv ov 32) σ.S σ.O σ.T) t.2.1 t.2.2.1 hB⟩
    · refine ⟨by rw [e2]; exact md_cp hI hcp, fun r2 w2 h2 => ?_⟩
      unfold p4_run at h2
      rcases h2 with ⟨q, -⟩ | ⟨-, q, -⟩ | ⟨u', a1, a2, eu, -, h2⟩
      · exact absurd (isP hu1 hu2 hP) q
      · exact absurd hend q
      · have eu : u = u' := (nI_eq (by omega) (by omega)).mp eu
        subst eu
        generalize pp1 σ.ki σ.fi σ.se σ.pr (fg2 (fg1 σ.ii sv ov 32) σ.S σ.O σ.T) σ.S σ.O σ.K σ.ia σ.ib σ.T σ.mo (fn2 σ.ki σ.ia σ.ib u (fn1 σ.nd u σ.P) u) (σ.M, σ.sp, σ.qu, nI 0) u = t at h2 k1 k2 k3 hB
        have hg0 : ¬ ¬ t.2.2.2 = 0 := fun q => by rw [k1.mp q] at hg; cases hg
        rw [k2] at h2
        rcases h2 with ⟨q, -⟩ | ⟨-, -, q1, q2⟩ | ⟨-, q, -⟩
        · exact absurd q hg0
        rotate_left
        · omega
        rw [e1, q1, q2]
        refine ⟨rfl, ?_⟩
        have hc : HC g x w1 (mkSt σ.T σ.P σ.N σ.mo σ.no σ.wr σ.rf σ.gb σ.lk σ.ps σ.fs σ.ss σ.ds σ.lv σ.qa σ.KD σ.LI σ.ia σ.ib σ.PM (CS3) (CG3) (TF3) (JF3) σ.su σ.pr σ.ob σ.ki σ.fi σ.se σ.M σ.nd σ.ii σ.sp σ.qu σ.S σ.Q σ.O σ.K σ.fo) := by
          rw [e2]
          exact hI.c.cp hcp σ.mo σ.no σ.wr σ.rf σ.gb σ.T σ.N σ.lk σ.fs σ.ss σ.ds σ.lv _ _ _ _ _ _ _ _ _ _ _ _ _ _ _
        exact ⟨_, IV.mk3 hc (TI.cp hI hcp σ.wr σ.N σ.fs σ.ss σ.ds σ.lv hI.t.hN hI.t.hw) (nI 0) t.2.2.2 t.1 (fn2 σ.ki σ.ia σ.ib u (fn1 σ.nd u σ.P) u) (fg2 (fg1 σ.ii sv ov 32) σ.S σ.O σ.T) t.2.1 t.2.2.1 hB⟩
    · refine ⟨by rw [e2]; exact md_cp hI hcp, fun r2 w2 h2 => ?_⟩
      unfold p4_run at h2
      rcases h2 with ⟨q, -⟩ | ⟨-, q, -⟩ | ⟨u', a1, a2, eu, -, h2⟩
      · exact absurd (isP hu1 hu2 hP) q
      · exact absurd hend q
      · have eu : u = u' := (nI_eq (by omega) (by omega)).mp eu
        subst eu
        generalize pp1 σ.ki σ.fi σ.se σ.pr (fg2 (fg1 σ.ii sv ov 32) σ.S σ.O σ.T) σ.S σ.O σ.K σ.ia σ.ib σ.T σ.mo (fn2 σ.ki σ.ia σ.ib u (fn1 σ.nd u σ.P) u) (σ.M, σ.sp, σ.qu, nI 0) u = t at h2 k1 k2 k3 hB
        have hg0 : ¬ ¬ t.2.2.2 = 0 := fun q => by rw [k1.mp q] at hg; cases hg
        rw [k2] at h2
        rcases h2 with ⟨q, -⟩ | ⟨-, q, -⟩ | ⟨-, -, q1, q2⟩
        · exact absurd q hg0
        · omega
        rw [k3 (σ.fs, σ.ss, σ.ds, 0) t.2.1 t.2.2.1 σ.lv] at q2
        rw [e1, q1, q2]
        refine ⟨rfl, ?_⟩
        have hle : (kr1 (σ.KD u) (σ.ia u) (JF3 (σ.ia u)) (JF3 u) (TF3 u) sl ol (oh + 1 - ol) ((σ.fs, σ.ss, σ.ds, 0), σ.lv) (sh + 1 - sl)).1.2.2.2 ≤ 2000 := Nat.le_trans (kr1_n rfl _) hn
        have hc : HC g x w1 (mkSt σ.T σ.P ((kr1 (σ.KD u) (σ.ia u) (JF3 (σ.ia u)) (JF3 u) (TF3 u) sl ol (oh + 1 - ol) ((σ.fs, σ.ss, σ.ds, 0), σ.lv) (sh + 1 - sl)).1.2.2.2) σ.mo σ.no (nI 1) σ.rf σ.gb σ.lk σ.ps ((kr1 (σ.KD u) (σ.ia u) (JF3 (σ.ia u)) (JF3 u) (TF3 u) sl ol (oh + 1 - ol) ((σ.fs, σ.ss, σ.ds, 0), σ.lv) (sh + 1 - sl)).1.1) ((kr1 (σ.KD u) (σ.ia u) (JF3 (σ.ia u)) (JF3 u) (TF3 u) sl ol (oh + 1 - ol) ((σ.fs, σ.ss, σ.ds, 0), σ.lv) (sh + 1 - sl)).1.2.1) ((kr1 (σ.KD u) (σ.ia u) (JF3 (σ.ia u)) (JF3 u) (TF3 u) sl ol (oh + 1 - ol) ((σ.fs, σ.ss, σ.ds, 0), σ.lv) (sh + 1 - sl)).1.2.2.1) ((kr1 (σ.KD u) (σ.ia u) (JF3 (σ.ia u)) (JF3 u) (TF3 u) sl ol (oh + 1 - ol) ((σ.fs, σ.ss, σ.ds, 0), σ.lv) (sh + 1 - sl)).2) σ.qa σ.KD σ.LI σ.ia σ.ib σ.PM (CS3) (CG3) (TF3) (JF3) σ.su σ.pr σ.ob σ.ki σ.fi σ.se σ.M σ.nd σ.ii σ.sp σ.qu σ.S σ.Q σ.O σ.K σ.fo) := by
          rw [e2]
          exact hI.c.cp hcp σ.mo σ.no (nI 1) σ.rf σ.gb σ.T _ σ.lk _ _ _ _ _ _ _ _ _ _ _ _ _ _ _ _ _ _ _
        exact ⟨_, IV.mk3 hc (TI.cp hI hcp (nI 1) _ _ _ _ _ hle (fun q => absurd q n1_0)) (nI 0) t.2.2.2 t.1 (fn2 σ.ki σ.ia σ.ib u (fn1 σ.nd u σ.P) u) (fg2 (fg1 σ.ii sv ov 32) σ.S σ.O σ.T) _ _ hB⟩
