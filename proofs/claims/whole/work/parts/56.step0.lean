/-! STEPS: the same call on both sides, tools; printed by wip/m56.py -/
theorem pool_tr {g : gX} {w w' : wd_M} {x P y : Nat} {ps : Nat → Option Nat} {qa : Nat → Nat} {KD LI : Nat → Int32} {IN OT : Nat → Option Nat} {PM : Nat → Nat} {CS CG : Nat → Int32} {TF : Nat → Nat → Nat} {JF : Nat → Nat → Int32} (h : pool g w x P ps qa KD LI IN OT PM CS CG TF JF) (hq : ∀ u, 1 ≤ u → u ≤ P → y ≤ qa u) (hw : ∀ a, y ≤ a → w' a = w a) : pool g w' x P ps qa KD LI IN OT PM CS CG TF JF := fun u h1 h2 => by
  obtain ⟨e1, e2, e3, e4, e5, e6⟩ := h u h1 h2
  have := hq u h1 h2
  exact ⟨e1, e2, e3, by rw [hw _ this]; exact e4, by rw [hw _ (by omega)]; exact e5, by rw [hw _ (by omega)]; exact e6⟩
theorem HC.mod {g : gX} {x : Nat} {w : wd_M} {σ : St} (h : HC g x w σ) {rf nt np mo gb wr nr : Int32} {su pr ob ki fi se ta nd ii sp qu rF rT rD : Nat → Int32} : HC g x (mW g w (x + 9) rf nt np mo gb wr nr su pr ob ki fi se ta nd ii sp qu rF rT rD) σ :=
  ⟨xW_tr h.cx (fun a _ _ => mW_out (by omega)), by rw [mW_out (by omega)]; exact h.co, pool_tr h.pl h.pq (fun a _ => mW_out (by omega)), h.pq⟩
theorem md_x {g : gX} {x : Nat} {w : wd_M} {σ : St} (h : mS9 g w x σ = w) {pc mo no sz rs wr : Int32} {lk : Nat → Int32} {ps : Nat → Option Nat} {fs ss ds lv : Nat → Int32} : mS9 g (xW g w x pc mo no sz rs wr lk ps fs ss ds lv) x σ = xW g w x pc mo no sz rs wr lk ps fs ss ds lv := mW_tr h (fun a _ _ => xW_out (by omega))
theorem IV.mk3 {g : gX} {x : Nat} {w : wd_M} {σ : St} (hc : HC g x w σ) (ht : TI σ) (rf gb : Int32) (M : Nat → Nat) (nd ii sp qu : Nat → Int32) (hM : mB M) : IV g x (mW g w (x + 9) rf (nI σ.T) (nI σ.P) σ.mo gb σ.wr (nI σ.N) σ.su σ.pr σ.ob σ.ki σ.fi σ.se (tN M) nd ii sp qu σ.fs σ.ss σ.ds) (mkSt σ.T σ.P σ.N σ.mo σ.no σ.wr (rf) (gb) σ.lk σ.ps σ.fs σ.ss σ.ds σ.lv σ.qa σ.KD σ.LI σ.ia σ.ib σ.PM σ.CS σ.CG σ.TF σ.JF σ.su σ.pr σ.ob σ.ki σ.fi σ.se (M) (nd) (ii) (sp) (qu) σ.S σ.Q σ.O σ.K σ.fo) := by
  have h1 : HC g x (mW g w (x + 9) rf (nI σ.T) (nI σ.P) σ.mo gb σ.wr (nI σ.N) σ.su σ.pr σ.ob σ.ki σ.fi σ.se (tN M) nd ii sp qu σ.fs σ.ss σ.ds) σ := hc.mod
  exact ⟨⟨⟨h1.cx, h1.co, h1.pl, h1.pq⟩, ⟨ht.sh, ht.cc, ht.pt, ht.tt, hM, ht.hT, ht.hP, ht.hN, ht.hw⟩⟩, mW_id⟩
theorem IV.rf0 {g : gX} {x : Nat} {w : wd_M} {σ : St} (hI : IV g x w σ) (v : Int32) : ∃ σ', IV g x (mW g w (x + 9) v (nI σ.T) (nI σ.P) σ.mo σ.gb σ.wr (nI σ.N) σ.su σ.pr σ.ob σ.ki σ.fi σ.se (tN σ.M) σ.nd σ.ii σ.sp σ.qu σ.fs σ.ss σ.ds) σ' := ⟨_, IV.mk3 hI.c hI.t v σ.gb σ.M σ.nd σ.ii σ.sp σ.qu hI.t.mb⟩
theorem HC.x {g : gX} {x : Nat} {w : wd_M} {σ : St} (h : HC g x w σ) (mo no wr rf gb : Int32) (T N : Nat) (lk fs ss ds lv su pr ob ki fi se : Nat → Int32) (M : Nat → Nat) (nd ii sp qu : Nat → Int32) (S Q O K : Nat → Nat) : HC g x (xW g w x (nI σ.P) mo no (nI T) (nI N) wr lk σ.ps fs ss ds lv) (mkSt (T) σ.P (N) (mo) (no) (wr) (rf) (gb) (lk) σ.ps (fs) (ss) (ds) (lv) σ.qa σ.KD σ.LI σ.ia σ.ib σ.PM σ.CS σ.CG σ.TF σ.JF (su) (pr) (ob) (ki) (fi) (se) (M) (nd) (ii) (sp) (qu) (S) (Q) (O) (K) σ.fo) :=
  ⟨xW_id, by rw [xW_out (by omega)]; exact h.co, pool_tr h.pl h.pq (fun a _ => xW_out (by omega)), h.pq⟩
theorem tv_z1 {KD LI : Nat → Int32} {ia ib : Nat → Nat} {lk : Nat → Int32} {gr : Int32} {u : Nat} (h : ¬ ia u = 0) (h1 : ¬ ia u < u) : tv KD LI ia ib lk gr u = z0 := by rw [tv, if_neg h, dif_neg h1]
theorem tv_z2 {KD LI : Nat → Int32} {ia ib : Nat → Nat} {lk : Nat → Int32} {gr : Int32} {u : Nat} (h : ¬ ia u = 0) (h1 : ia u < u) (h2 : ¬ ib u = 0) (h3 : ¬ ib u < u) : tv KD LI ia ib lk gr u = z0 := by rw [tv, if_neg h, dif_pos h1, if_neg h2, dif_neg h3]
theorem tv_cg {KD LI KD' LI' : Nat → Int32} {ia ib ia' ib' : Nat → Nat} {lk : Nat → Int32} {gr : Int32} {n : Nat} (h : ∀ v, v ≤ n → KD' v = KD v ∧ LI' v = LI v ∧ ia' v = ia v ∧ ib' v = ib v) : ∀ u, u ≤ n → tv KD' LI' ia' ib' lk gr u = tv KD LI ia ib lk gr u := by
  intro u
  induction u using Nat.strongRecOn with
  | _ u ih =>
    intro hu
    obtain ⟨e1, e2, e3, e4⟩ := h u hu
    by_cases c1 : ia u = 0
    · rw [tv_n (by rw [e3]; exact c1), tv_n c1, e2]
    · by_cases c2 : ia u < u
      · have iha := ih (ia u) c2 (by omega)
        by_cases c3 : ib u = 0
        · rw [tv_i (by rw [e3]; exact c1) (by rw [e3]; exact c2) (by rw [e4]; exact c3), tv_i c1 c2 c3, e1, e3, iha]
        · by_cases c4 : ib u < u
          · have ihb := ih (ib u) c4 (by omega)
            rw [tv_b (by rw [e3]; exact c1) (by rw [e3]; exact c2) (by rw [e4]; exact c3) (by rw [e4]; exact c4), tv_b c1 c2 c3 c4, e1, e3, e4, iha, ihb]
          · rw [tv_z2 (by rw [e3]; exact c1) (by rw [e3]; exact c2) (by rw [e4]; exact c3) (by rw [e4]; exact c4), tv_z2 c1 c2 c3 c4]
      · rw [tv_z1 (by rw [e3]; exact c1) (by rw [e3]; exact c2), tv_z1 c1 c2]
theorem tN_z : tN (fun _ => 0) = fun _ => 0 := by
  funext k
  exact nI_0
theorem q_new {g : gX} {x : Nat} {w : wd_M} {σ : St} (h : HC g x w σ) {q : Nat} (hf : ∀ a, q ≤ a → w a = none) : x + 25 ≤ q ∧ ∀ u, 1 ≤ u → u ≤ σ.P → σ.qa u + 3 ≤ q := by
  have key : ∀ a e, w a = some e → a < q := fun a e ha => by
    rcases Nat.lt_or_ge a q with h1 | h1
    · exact h1
    · rw [hf a h1] at ha; cases ha
  refine ⟨key _ _ h.co, fun u h1 h2 => ?_⟩
  have := key _ _ (h.pl u h1 h2).2.2.2.2.2
  omega
theorem HC.path {g : gX} {x : Nat} {w : wd_M} {σ : St} (hI : HT g x w σ) {q : Nat} (hf : ∀ a, q ≤ a → w a = none) (hP4 : σ.P < 40) (kd li : Int32) (a b : Nat) (ha : a ≤ σ.P) (hb : b ≤ σ.P) (ki fi se : Nat → Int32) (K : Nat → Nat) : HC g x (xW g (pW g w q (nI (σ.P + 1)) kd li (oN σ.qa a) (oN σ.qa b) (lN (1 * 2 ^ (σ.P + 1) ||| σ.PM a ||| σ.PM b)) (-1) (nI 0) (fun _ => 0) (fun _ => 0)) x (nI (σ.P + 1)) σ.mo σ.no (nI σ.T) (nI σ.N) σ.wr σ.lk (va_up σ.ps (σ.P + 1) (some q)) σ.fs σ.ss σ.ds σ.lv) (mkSt σ.T (σ.P + 1) σ.N σ.mo σ.no σ.wr σ.rf σ.gb σ.lk (va_up σ.ps (σ.P + 1) (some q)) σ.fs σ.ss σ.ds σ.lv (va_up σ.qa (σ.P + 1) q) (upd σ.KD (σ.P + 1) kd) (upd σ.LI (σ.P + 1) li) (va_up σ.ia (σ.P + 1) a) (va_up σ.ib (σ.P + 1) b) (va_up σ.PM (σ.P + 1) (1 * 2 ^ (σ.P + 1) ||| σ.PM a ||| σ.PM b)) (upd σ.CS (σ.P + 1) (-1)) (upd σ.CG (σ.P + 1) (nI 0)) (va_up σ.TF (σ.P + 1) (fun _ => 0)) (va_up σ.JF (σ.P + 1) (fun _ => 0)) σ.su σ.pr σ.ob (ki) (fi) (se) σ.M σ.nd σ.ii σ.sp σ.qu σ.S σ.Q σ.O (K) σ.fo) := by
  obtain ⟨hq1, hq2⟩ := q_new hI.c hf
  have hpm : ∀ v, v ≤ σ.P → σ.PM v < 2 ^ 63 := fun v hv => by
    by_cases c : v = 0
    · rw [c, hI.t.sh.1]; decide
    · exact (hI.c.pl v (by omega) hv).2.2.1
  have hpn : 1 * 2 ^ (σ.P + 1) ||| σ.PM a ||| σ.PM b < 2 ^ 63 := Nat.or_lt_two_pow (Nat.or_lt_two_pow (by rw [Nat.one_mul]; exact Nat.pow_lt_pow_right (by decide) (by omega)) (hpm a ha)) (hpm b hb)
  have hoN : ∀ v, v ≤ σ.P → oN (va_up σ.qa (σ.P + 1) q) v = oN σ.qa v := fun v hv => by
    unfold oN
    rw [up_n (by omega)]
  refine ⟨xW_id, ?_, fun u h1 h2 => ?_, fun u h1 h2 => ?_⟩
  · rw [xW_out (by omega), pW_out (by omega)]; exact hI.c.co
  · have h2 : u ≤ σ.P + 1 := h2
    by_cases c : u = σ.P + 1
    · subst c
      refine ⟨?_, ?_, ?_, ?_, ?_, ?_⟩
      · show va_up _ _ _ _ = some (va_up _ _ _ _)
        rw [up_s, up_s]
      · show x + 9 ≤ va_up _ _ _ _
        rw [up_s]; omega
      · show va_up _ _ _ _ < _
        rw [up_s]; exact hpn
      · show xW g _ x _ _ _ _ _ _ _ _ _ _ _ _ (va_up _ _ _ _) = some (pO _ (upd _ _ _ _) (upd _ _ _ _) (oN (va_up _ _ _) (va_up _ _ _ _)) (oN (va_up _ _ _) (va_up _ _ _ _)) (lN (va_up _ _ _ _)) (va_up _ _ _ _ + 1) (va_up _ _ _ _ + 2) (upd _ _ _ _) (upd _ _ _ _))
        rw [up_s, up_s, up_s, up_s, ud_s, ud_s, ud_s, ud_s, hoN a ha, hoN b hb, xW_out (by omega), pW_0]
      · show xW g _ x _ _ _ _ _ _ _ _ _ _ _ _ (va_up _ _ _ _ + 1) = some (wd_iA _ _ (tN (va_up _ _ _ _)))
        rw [up_s, up_s, tN_z, xW_out (by omega), pW_1]
      · show xW g _ x _ _ _ _ _ _ _ _ _ _ _ _ (va_up _ _ _ _ + 2) = some (wd_iA _ _ (va_up _ _ _ _))
        rw [up_s, up_s, xW_out (by omega), pW_2]
    · obtain ⟨e1, e2, e3, e4, e5, e6⟩ := hI.c.pl u h1 (by omega)
      have hqu := hq2 u h1 (by omega)
      obtain ⟨s1, s2, -, -⟩ := hI.t.sh.2.1 u h1 (by omega)
      refine ⟨?_, ?_, ?_, ?_, ?_, ?_⟩
      · show va_up _ _ _ _ = some (va_up _ _ _ _)
        rw [up_n c, up_n c]; exact e1
      · show x + 9 ≤ va_up _ _ _ _
        rw [up_n c]; exact e2
      · show va_up _ _ _ _ < _
        rw [up_n c]; exact e3
      · show xW g _ x _ _ _ _ _ _ _ _ _ _ _ _ (va_up _ _ _ _) = some (pO _ (upd _ _ _ _) (upd _ _ _ _) (oN (va_up _ _ _) (va_up _ _ _ _)) (oN (va_up _ _ _) (va_up _ _ _ _)) (lN (va_up _ _ _ _)) (va_up _ _ _ _ + 1) (va_up _ _ _ _ + 2) (upd _ _ _ _) (upd _ _ _ _))
        rw [up_n c, up_n c, up_n c, up_n c, ud_n c, ud_n c, ud_n c, ud_n c, hoN _ (by omega), hoN _ (by omega), xW_out (by omega), pW_out (by omega)]
        exact e4
      · show xW g _ x _ _ _ _ _ _ _ _ _ _ _ _ (va_up _ _ _ _ + 1) = some (wd_iA _ _ (tN (va_up _ _ _ _)))
        rw [up_n c, up_n c, xW_out (by omega), pW_out (by omega)]
        exact e5
      · show xW g _ x _ _ _ _ _ _ _ _ _ _ _ _ (va_up _ _ _ _ + 2) = some (wd_iA _ _ (va_up _ _ _ _))
        rw [up_n c, up_n c, xW_out (by omega), pW_out (by omega)]
        exact e6
  · have h2 : u ≤ σ.P + 1 := h2
    show x + 25 ≤ va_up _ _ _ _
    by_cases c : u = σ.P + 1
    · rw [c, up_s]; exact hq1
    · rw [up_n c]; exact hI.c.pq u h1 (by omega)
theorem TI.path {g : gX} {x : Nat} {w : wd_M} {σ : St} (hI : HT g x w σ) {q : Nat} (hf : ∀ a, q ≤ a → w a = none) (hP4 : σ.P < 40) (kd li fv sv : Int32) (k a b : Nat) (ha : a ≤ σ.P) (hb : b ≤ σ.P) (hab : a = 0 → b = 0) (hk : kd = nI k) (hk7 : k ≤ 7) (h16 : 1 ≤ k ∧ k ≤ 6 → fv = nI a ∧ 1 ≤ a) (h23 : k = 2 ∨ k = 3 → sv = nI b ∧ 1 ≤ b) (n16 : ¬ (1 ≤ k ∧ k ≤ 6) → a = 0) (n23 : ¬ (k = 2 ∨ k = 3) → b = 0) (hl : k = 0 ∨ k = 7 → ∀ c, c < 16 → (bt li c = true ↔ (if kd = 0 then nI c = fv else ¬ nI c = fv ∧ ¬ nI c = sv))) : TI (mkSt σ.T (σ.P + 1) σ.N σ.mo σ.no σ.wr σ.rf σ.gb σ.lk (va_up σ.ps (σ.P + 1) (some q)) σ.fs σ.ss σ.ds σ.lv (va_up σ.qa (σ.P + 1) q) (upd σ.KD (σ.P + 1) kd) (upd σ.LI (σ.P + 1) li) (va_up σ.ia (σ.P + 1) a) (va_up σ.ib (σ.P + 1) b) (va_up σ.PM (σ.P + 1) (1 * 2 ^ (σ.P + 1) ||| σ.PM a ||| σ.PM b)) (upd σ.CS (σ.P + 1) (-1)) (upd σ.CG (σ.P + 1) (nI 0)) (va_up σ.TF (σ.P + 1) (fun _ => 0)) (va_up σ.JF (σ.P + 1) (fun _ => 0)) σ.su σ.pr σ.ob (upd σ.ki (σ.P + 1) kd) (upd σ.fi (σ.P + 1) fv) (upd σ.se (σ.P + 1) sv) σ.M σ.nd σ.ii σ.sp σ.qu σ.S σ.Q σ.O (va_up σ.K (σ.P + 1) k) σ.fo) := by
  obtain ⟨hq1, hq2⟩ := q_new hI.c hf
  obtain ⟨⟨s1, s2, s3⟩, cc, pt, tt, mb, hT, hP, hN, hw⟩ := hI.t
  have hcg : ∀ u, u ≤ σ.P → ∀ gr, tv (upd σ.KD (σ.P + 1) kd) (upd σ.LI (σ.P + 1) li) (va_up σ.ia (σ.P + 1) a) (va_up σ.ib (σ.P + 1) b) σ.lk gr u = tv σ.KD σ.LI σ.ia σ.ib σ.lk gr u := fun u hu gr => tv_cg (n := σ.P) (fun v hv => ⟨ud_n (by omega), ud_n (by omega), up_n (by omega), up_n (by omega)⟩) u hu
  refine ⟨⟨?_, fun u h1 h2 => ?_, fun u v h1 h2 h3 => ?_⟩, fun u h1 h2 => ?_, fun u h1 h2 => ?_, tt, mb, hT, ?_, hN, hw⟩
  · exact (up_n (f := σ.PM) (k := σ.P + 1) (v := 1 * 2 ^ (σ.P + 1) ||| σ.PM a ||| σ.PM b) (by omega)).trans s1
  · have h2 : u ≤ σ.P + 1 := h2
    show va_up _ _ _ _ < u ∧ va_up _ _ _ _ < u ∧ (va_up _ _ _ _ = 0 → va_up _ _ _ _ = 0) ∧ va_up _ _ _ u = _ ||| va_up _ _ _ (va_up _ _ _ _) ||| va_up _ _ _ (va_up _ _ _ _)
    by_cases c : u = σ.P + 1
    · subst c
      rw [up_s, up_s, up_s, up_n (show ¬ a = σ.P + 1 by omega), up_n (show ¬ b = σ.P + 1 by omega)]
      exact ⟨by omega, by omega, hab, rfl⟩
    · obtain ⟨r1, r2, r3, r4⟩ := s2 u h1 (by omega)
      rw [up_n c, up_n c, up_n c, up_n (show ¬ σ.ia u = σ.P + 1 by omega), up_n (show ¬ σ.ib u = σ.P + 1 by omega)]
      exact ⟨r1, r2, r3, r4⟩
  · have h3 : v ≤ σ.P + 1 := h3
    show va_up _ _ _ _ + 3 ≤ va_up _ _ _ _
    rw [up_n (show ¬ u = σ.P + 1 by omega)]
    by_cases c : v = σ.P + 1
    · rw [c, up_s]; exact hq2 u h1 (by omega)
    · rw [up_n c]; exact s3 u v h1 h2 (by omega)
  · have h2 : u ≤ σ.P + 1 := h2
    show mB (va_up _ _ _ _) ∧ (upd _ _ _ _ = nI σ.T → va_up _ _ _ _ = (tv (upd σ.KD (σ.P + 1) kd) (upd σ.LI (σ.P + 1) li) (va_up σ.ia (σ.P + 1) a) (va_up σ.ib (σ.P + 1) b) σ.lk (upd _ _ _ _) u).1 ∧ va_up _ _ _ _ = (tv (upd σ.KD (σ.P + 1) kd) (upd σ.LI (σ.P + 1) li) (va_up σ.ia (σ.P + 1) a) (va_up σ.ib (σ.P + 1) b) σ.lk (upd _ _ _ _) u).2) ∧ (upd _ _ _ _ = -1 ∨ ∃ c, c ≤ σ.T ∧ upd _ _ _ _ = nI c)
    by_cases c : u = σ.P + 1
    · subst c
      rw [up_s, ud_s]
      exact ⟨fun _ => Nat.zero_le _, fun q => absurd q.symm (nI_m1 (by omega)), Or.inl rfl⟩
    · rw [up_n c, up_n c, ud_n c, ud_n c, hcg u (by omega)]
      exact cc u h1 (by omega)
  · have h2 : u ≤ σ.P + 1 := h2
    show upd _ _ _ _ = nI (va_up _ _ _ _) ∧ va_up _ _ _ _ ≤ 7 ∧ upd _ _ _ _ = nI (va_up _ _ _ _) ∧ (1 ≤ va_up _ _ _ _ ∧ va_up _ _ _ _ ≤ 6 → upd _ _ _ _ = nI (va_up _ _ _ _) ∧ 1 ≤ va_up _ _ _ _) ∧ (va_up _ _ _ _ = 2 ∨ va_up _ _ _ _ = 3 → upd _ _ _ _ = nI (va_up _ _ _ _) ∧ 1 ≤ va_up _ _ _ _) ∧ (¬ (1 ≤ va_up _ _ _ _ ∧ va_up _ _ _ _ ≤ 6) → va_up _ _ _ _ = 0) ∧ (¬ (va_up _ _ _ _ = 2 ∨ va_up _ _ _ _ = 3) → va_up _ _ _ _ = 0) ∧ va_up _ _ _ _ < u ∧ va_up _ _ _ _ < u ∧ (va_up _ _ _ _ = 0 ∨ va_up _ _ _ _ = 7 → ∀ b, b < 16 → (bt (upd _ _ _ _) b = true ↔ (if upd _ _ _ _ = 0 then nI b = upd _ _ _ _ else ¬ nI b = upd _ _ _ _ ∧ ¬ nI b = upd _ _ _ _)))
    by_cases c : u = σ.P + 1
    · subst c
      rw [up_s, up_s, up_s, ud_s, ud_s, ud_s, ud_s, ud_s]
      exact ⟨hk, hk7, hk, h16, h23, n16, n23, by omega, by omega, hl⟩
    · rw [up_n c, up_n c, up_n c, ud_n c, ud_n c, ud_n c, ud_n c, ud_n c]
      exact pt u h1 (by omega)
  · show σ.P + 1 ≤ 40
    omega
