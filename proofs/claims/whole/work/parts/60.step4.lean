/-! STEPS: depth, the beginning; printed by wip/m60.py -/
def pL_depth (g : gX) (w : wd_M) (x : Nat) (σ : St) (i : Int32) : Int32 → wd_M → Prop := fun r w' => ((¬ i < 0 ∧ ¬ nI σ.N ≤ i) ∧ r = nI 0 ∧ w' = (xW g (wd_up w (x + 24) (wd_lA (g.2 3) 1 (vp_updL σ.fo 0 (σ.ds i.toNatClampNeg).toInt64))) x (nI σ.P) σ.mo σ.no (nI σ.T) (nI σ.N) σ.wr σ.lk σ.ps σ.fs σ.ss σ.ds σ.lv)) ∨ (¬ (¬ i < 0 ∧ ¬ nI σ.N ≤ i) ∧ r = nI 1 ∧ w' = (xW g w x (nI σ.P) σ.mo σ.no (nI σ.T) (nI σ.N) σ.wr σ.lk σ.ps σ.fs σ.ss σ.ds σ.lv))
theorem kL_depth (l : Launch) (hfl : l.flags = pinnedFlags ++ [noTraceFlag]) (g : gX) (s0 sa : Nat) (w : wd_M) (x : Nat) (hs : s0 ≤ x) (σ : St) (hI : HT g x w σ) (i : Int32) : Met l yL_depth (Cond.codeWith yL_depth cL_depth 4 (some .int) [(0, 9, 12, 13)] :: tg) ({ frames := 8, cells := 1, slots := 6, locals := 121 }) (fun a s => cP g s0 (xS g w x σ) [.ref x, .int (i), .ref (x + 24)] a s ∧ tE s0 sa s) (cI g s0 (pL_depth g w x σ i)) 1 6 (cA s0) := c_L_depth l hfl g s0 sa w x hs (nI σ.P) σ.mo σ.no (nI σ.T) σ.wr σ.lk σ.ps σ.fs σ.ss σ.ds σ.lv σ.N hI.t.hN i (x + 24) (by omega) σ.fo hI.c.co
theorem st_depth {g : gX} {x : Nat} {w : wd_M} {σ : St} (hI : IV g x w σ) {i r1 : Int32} {w1 : wd_M} (h1 : pL_depth g w x σ i r1 w1) : mS9 g w1 x σ = w1 ∧ ∀ r2 w2, p4_depth g w1 x σ i r2 w2 → ∃ σ', IV g x w2 σ' ∧ σ'.rf = r1 ∧ (r1 = nI 0 → σ'.fo 0 = r2.toInt64) := by
  have hcx : xW g w x (nI σ.P) σ.mo σ.no (nI σ.T) (nI σ.N) σ.wr σ.lk σ.ps σ.fs σ.ss σ.ds σ.lv = w := hI.c.cx
  unfold pL_depth at h1
  rcases h1 with ⟨hy, e1, e2⟩ | ⟨hn, e1, e2⟩
  · refine ⟨mW_tr hI.cm (fun a _ _ => by rw [e2, xW_out (by omega), wd_un (by omega)]), fun r2 w2 h2 => ?_⟩
    unfold p4_depth at h2
    rcases h2 with ⟨-, q1, q2⟩ | ⟨q, -⟩
    · have hc : HC g x w1 (mkSt σ.T σ.P σ.N σ.mo σ.no σ.wr σ.rf σ.gb σ.lk σ.ps σ.fs σ.ss σ.ds σ.lv σ.qa σ.KD σ.LI σ.ia σ.ib σ.PM σ.CS σ.CG σ.TF σ.JF σ.su σ.pr σ.ob σ.ki σ.fi σ.se σ.M σ.nd σ.ii σ.sp σ.qu σ.S σ.Q σ.O σ.K (vp_updL σ.fo 0 (σ.ds i.toNatClampNeg).toInt64)) := by
        rw [e2]
        refine ⟨xW_id, ?_, pool_tr hI.c.pl hI.c.pq (fun a _ => by rw [xW_out (by omega), wd_un (by omega)]), hI.c.pq⟩
        rw [xW_out (by omega), wd_us]
      have ht : TI (mkSt σ.T σ.P σ.N σ.mo σ.no σ.wr σ.rf σ.gb σ.lk σ.ps σ.fs σ.ss σ.ds σ.lv σ.qa σ.KD σ.LI σ.ia σ.ib σ.PM σ.CS σ.CG σ.TF σ.JF σ.su σ.pr σ.ob σ.ki σ.fi σ.se σ.M σ.nd σ.ii σ.sp σ.qu σ.S σ.Q σ.O σ.K (vp_updL σ.fo 0 (σ.ds i.toNatClampNeg).toInt64)) := ⟨hI.t.sh, hI.t.cc, hI.t.pt, hI.t.tt, hI.t.mb, hI.t.hT, hI.t.hP, hI.t.hN, hI.t.hw⟩
      rw [q2]
      refine ⟨_, IV.mk3 hc ht (nI 0) σ.gb σ.M σ.nd σ.ii σ.sp σ.qu hI.t.mb, e1.symm, fun _ => ?_⟩
      rw [q1]
      show vp_updL σ.fo 0 (σ.ds i.toNatClampNeg).toInt64 0 = _
      unfold vp_updL
      simp
    · exact absurd ((has_wr hI.t).mpr hy) q
  · rw [hcx] at e2
    subst e2
    refine ⟨hI.cm, fun r2 w2 h2 => ?_⟩
    unfold p4_depth at h2
    rcases h2 with ⟨q, -⟩ | ⟨-, q1, q2⟩
    · exact absurd ((has_wr hI.t).mp q) hn
    · rw [q2]
      refine ⟨_, IV.mk3 hI.c hI.t (nI 1) σ.gb σ.M σ.nd σ.ii σ.sp σ.qu hI.t.mb, e1.symm, fun q => ?_⟩
      rw [e1] at q
      exact absurd q (by decide)
theorem st_thrown {g : gX} {x : Nat} {w : wd_M} {σ : St} (hI : IV g x w σ) {r : Int32} {w1 : wd_M} (h : p4_thrown g w x σ r w1) : r = σ.rf ∧ w1 = w := by
  unfold p4_thrown at h
  exact ⟨h.1, h.2.trans hI.cm⟩
theorem IV.init {g : gX} {x : Nat} {w : wd_M} (hx : xW g w x (nI 0) (nI 1024) (nI 0) (nI 0) (nI 0) (nI 0) (fun _ => 0) (fun _ => none) (fun _ => 0) (fun _ => 0) (fun _ => 0) (fun _ => 0) = w) (hm : mW g w (x + 9) 0 0 0 (nI 1024) 0 0 0 (fun _ => 0) (fun _ => 0) (fun _ => 0) (fun _ => 0) (fun _ => 0) (fun _ => 0) (fun _ => 0) (fun _ => 0) (fun _ => 0) (fun _ => 0) (fun _ => 0) (fun _ => 0) (fun _ => 0) (fun _ => 0) = w) (ho : w (x + 24) = some (wd_lA (g.2 3) 1 (fun _ => 0))) : ∃ σ, IV g x w σ := by
  refine ⟨(mkSt 0 0 0 (nI 1024) (nI 0) (nI 0) 0 0 (fun _ => 0) (fun _ => none) (fun _ => 0) (fun _ => 0) (fun _ => 0) (fun _ => 0) (fun _ => 0) (fun _ => 0) (fun _ => 0) (fun _ => 0) (fun _ => 0) (fun _ => 0) (fun _ => 0) (fun _ => 0) (fun _ => (fun _ => 0)) (fun _ => (fun _ => 0)) (fun _ => 0) (fun _ => 0) (fun _ => 0) (fun _ => 0) (fun _ => 0) (fun _ => 0) (fun _ => 0) (fun _ => 0) (fun _ => 0) (fun _ => 0) (fun _ => 0) (fun _ => 0) (fun _ => 0) (fun _ => 0) (fun _ => 0) (fun _ => 0)), ⟨⟨hx, ho, fun u h1 h2 => ?_, fun u h1 h2 => ?_⟩, ⟨⟨rfl, fun u h1 h2 => ?_, fun u v h1 h2 h3 => ?_⟩, fun u h1 h2 => ?_, fun u h1 h2 => ?_, ⟨fun k hk => ?_, fun a b c _ _ _ => ?_, fun i j hij hj => ?_, fun n hn => ?_⟩, fun _ => Nat.zero_le _, Nat.zero_le _, Nat.zero_le _, Nat.zero_le _, fun _ => rfl⟩⟩, ?_⟩
  · have h2 : u ≤ 0 := h2
    omega
  · have h2 : u ≤ 0 := h2
    omega
  · have h2 : u ≤ 0 := h2
    omega
  · have h3 : v ≤ 0 := h3
    omega
  · have h2 : u ≤ 0 := h2
    omega
  · have h2 : u ≤ 0 := h2
    omega
  · have hk : k < 0 := hk
    omega
  · show bt 0 c = true ↔ ∃ k, k < 0 ∧ _
    rw [b_0]
    exact ⟨fun q => absurd q (by simp), fun ⟨k, hk, _⟩ => absurd hk (by omega)⟩
  · have hj : j < 0 := hj
    omega
  · show bt (nI 0) n = true ↔ ∃ k, k < 0 ∧ _
    rw [nI_0, b_0]
    exact ⟨fun q => absurd q (by simp), fun ⟨k, hk, _⟩ => absurd hk (by omega)⟩
  · show mW g w (x + 9) 0 (nI 0) (nI 0) (nI 1024) 0 (nI 0) (nI 0) (fun _ => 0) (fun _ => 0) (fun _ => 0) (fun _ => 0) (fun _ => 0) (fun _ => 0) (tN (fun _ => 0)) (fun _ => 0) (fun _ => 0) (fun _ => 0) (fun _ => 0) (fun _ => 0) (fun _ => 0) (fun _ => 0) = w
    rw [nI_0, tN_z]
    exact hm
