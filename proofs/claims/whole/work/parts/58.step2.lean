/-! STEPS: path, inverse, negated; printed by wip/m58.py -/
theorem st_new {g : gX} {x : Nat} {w : wd_M} {σ : St} (hI : IV g x w σ) {q : Nat} (hf : ∀ a, q ≤ a → w a = none) (hP4 : σ.P < 40) (kd li fv sv : Int32) (k a b : Nat) (ha : a ≤ σ.P) (hb : b ≤ σ.P) (hab : a = 0 → b = 0) (hk : kd = nI k) (hk7 : k ≤ 7) (h16 : 1 ≤ k ∧ k ≤ 6 → fv = nI a ∧ 1 ≤ a) (h23 : k = 2 ∨ k = 3 → sv = nI b ∧ 1 ≤ b) (n16 : ¬ (1 ≤ k ∧ k ≤ 6) → a = 0) (n23 : ¬ (k = 2 ∨ k = 3) → b = 0) (hl : k = 0 ∨ k = 7 → ∀ c, c < 16 → (bt li c = true ↔ (if kd = 0 then nI c = fv else ¬ nI c = fv ∧ ¬ nI c = sv))) {w1 : wd_M} (e2 : w1 = (xW g (pW g w q (nI (σ.P + 1)) kd li (oN σ.qa a) (oN σ.qa b) (lN (1 * 2 ^ (σ.P + 1) ||| σ.PM a ||| σ.PM b)) (-1) (nI 0) (fun _ => 0) (fun _ => 0)) x (nI (σ.P + 1)) σ.mo σ.no (nI σ.T) (nI σ.N) σ.wr σ.lk (va_up σ.ps (σ.P + 1) (some q)) σ.fs σ.ss σ.ds σ.lv)) : mS9 g w1 x σ = w1 ∧ ∃ σ', IV g x (mW g w1 (x + 9) (nI 0) (nI σ.T) (nI (σ.P + 1)) σ.mo σ.gb σ.wr (nI σ.N) σ.su σ.pr σ.ob (upd σ.ki (σ.P + 1) kd) (upd σ.fi (σ.P + 1) fv) (upd σ.se (σ.P + 1) sv) (tN σ.M) σ.nd σ.ii σ.sp σ.qu σ.fs σ.ss σ.ds) σ' := by
  obtain ⟨hq1, hq2⟩ := q_new hI.c hf
  refine ⟨mW_tr hI.cm (fun a _ _ => by rw [e2, xW_out (by omega), pW_out (by omega)]), ?_⟩
  have hc := HC.path hI.ht hf hP4 kd li a b ha hb (upd σ.ki (σ.P + 1) kd) (upd σ.fi (σ.P + 1) fv) (upd σ.se (σ.P + 1) sv) (va_up σ.K (σ.P + 1) k)
  rw [← e2] at hc
  exact ⟨_, IV.mk3 hc (TI.path hI.ht hf hP4 kd li fv sv k a b ha hb hab hk hk7 h16 h23 n16 n23 hl) (nI 0) σ.gb σ.M σ.nd σ.ii σ.sp σ.qu hI.t.mb⟩
theorem pm_z {g : gX} {x : Nat} {w : wd_M} {σ : St} (hI : IV g x w σ) {n : Nat} : n ||| σ.PM 0 = n := by rw [hI.t.sh.1, Nat.or_zero]
/-- a PATH of links alone -/
theorem st_lnk {g : gX} {x : Nat} {w : wd_M} {σ : St} (hI : IV g x w σ) {q : Nat} (hf : ∀ a, q ≤ a → w a = none) (hP4 : σ.P < 40) (kd li fv sv : Int32) (k : Nat) (hk : kd = nI k) (hk7 : k = 0 ∨ k = 7) (hl : ∀ c, c < 16 → (bt li c = true ↔ (if kd = 0 then nI c = fv else ¬ nI c = fv ∧ ¬ nI c = sv))) {w1 : wd_M} (e2 : w1 = (xW g (pW g w q (nI (σ.P + 1)) kd li none none (lN (1 * 2 ^ (σ.P + 1))) (-1) (nI 0) (fun _ => 0) (fun _ => 0)) x (nI (σ.P + 1)) σ.mo σ.no (nI σ.T) (nI σ.N) σ.wr σ.lk (va_up σ.ps (σ.P + 1) (some q)) σ.fs σ.ss σ.ds σ.lv)) : mS9 g w1 x σ = w1 ∧ ∃ σ', IV g x (mW g w1 (x + 9) (nI 0) (nI σ.T) (nI (σ.P + 1)) σ.mo σ.gb σ.wr (nI σ.N) σ.su σ.pr σ.ob (upd σ.ki (σ.P + 1) kd) (upd σ.fi (σ.P + 1) fv) (upd σ.se (σ.P + 1) sv) (tN σ.M) σ.nd σ.ii σ.sp σ.qu σ.fs σ.ss σ.ds) σ' :=
  st_new hI hf hP4 kd li fv sv k 0 0 (Nat.zero_le _) (Nat.zero_le _) (fun h => h) hk (by omega) (fun h => absurd h (by omega)) (fun h => absurd h (by omega)) (fun _ => rfl) (fun _ => rfl) (fun _ => hl) (by rw [pm_z hI, pm_z hI, oN_0]; exact e2)
/-- a PATH over one -/
theorem st_one {g : gX} {x : Nat} {w : wd_M} {σ : St} (hI : IV g x w σ) {q : Nat} (hf : ∀ a, q ≤ a → w a = none) (hP4 : σ.P < 40) (kd fv sv : Int32) (k u : Nat) (h1 : 1 ≤ u) (h2 : u ≤ σ.P) (hk : kd = nI k) (hk7 : k = 1 ∨ k = 4 ∨ k = 5 ∨ k = 6) (hfv : fv = nI u) {w1 : wd_M} (e2 : w1 = (xW g (pW g w q (nI (σ.P + 1)) kd (nI 0) (some (σ.qa u)) none (lN (1 * 2 ^ (σ.P + 1) ||| (σ.PM u))) (-1) (nI 0) (fun _ => 0) (fun _ => 0)) x (nI (σ.P + 1)) σ.mo σ.no (nI σ.T) (nI σ.N) σ.wr σ.lk (va_up σ.ps (σ.P + 1) (some q)) σ.fs σ.ss σ.ds σ.lv)) : mS9 g w1 x σ = w1 ∧ ∃ σ', IV g x (mW g w1 (x + 9) (nI 0) (nI σ.T) (nI (σ.P + 1)) σ.mo σ.gb σ.wr (nI σ.N) σ.su σ.pr σ.ob (upd σ.ki (σ.P + 1) kd) (upd σ.fi (σ.P + 1) fv) (upd σ.se (σ.P + 1) sv) (tN σ.M) σ.nd σ.ii σ.sp σ.qu σ.fs σ.ss σ.ds) σ' :=
  st_new hI hf hP4 kd (nI 0) fv sv k u 0 h2 (Nat.zero_le _) (fun _ => rfl) hk (by omega) (fun _ => ⟨hfv, h1⟩) (fun h => absurd h (by omega)) (fun h => absurd h (by omega)) (fun _ => rfl) (fun h => absurd h (by omega)) (by rw [pm_z hI, oN_0, oN_s (show ¬ u = 0 by omega)]; exact e2)
/-- a PATH over two -/
theorem st_two {g : gX} {x : Nat} {w : wd_M} {σ : St} (hI : IV g x w σ) {q : Nat} (hf : ∀ a, q ≤ a → w a = none) (hP4 : σ.P < 40) (kd fv sv : Int32) (k u v : Nat) (h1 : 1 ≤ u) (h2 : u ≤ σ.P) (h3 : 1 ≤ v) (h4 : v ≤ σ.P) (hk : kd = nI k) (hk7 : k = 2 ∨ k = 3) (hfv : fv = nI u) (hsv : sv = nI v) {w1 : wd_M} (e2 : w1 = (xW g (pW g w q (nI (σ.P + 1)) kd (nI 0) (some (σ.qa u)) (some (σ.qa v)) (lN (1 * 2 ^ (σ.P + 1) ||| (σ.PM u) ||| (σ.PM v))) (-1) (nI 0) (fun _ => 0) (fun _ => 0)) x (nI (σ.P + 1)) σ.mo σ.no (nI σ.T) (nI σ.N) σ.wr σ.lk (va_up σ.ps (σ.P + 1) (some q)) σ.fs σ.ss σ.ds σ.lv)) : mS9 g w1 x σ = w1 ∧ ∃ σ', IV g x (mW g w1 (x + 9) (nI 0) (nI σ.T) (nI (σ.P + 1)) σ.mo σ.gb σ.wr (nI σ.N) σ.su σ.pr σ.ob (upd σ.ki (σ.P + 1) kd) (upd σ.fi (σ.P + 1) fv) (upd σ.se (σ.P + 1) sv) (tN σ.M) σ.nd σ.ii σ.sp σ.qu σ.fs σ.ss σ.ds) σ' :=
  st_new hI hf hP4 kd (nI 0) fv sv k u v h2 h4 (fun h => absurd h (by omega)) hk (by omega) (fun _ => ⟨hfv, h1⟩) (fun _ => ⟨hsv, h3⟩) (fun h => absurd h (by omega)) (fun h => absurd hk7 h) (fun h => absurd h (by omega)) (by rw [oN_s (show ¬ u = 0 by omega), oN_s (show ¬ v = 0 by omega)]; exact e2)
theorem isP {u P : Nat} (h1 : 1 ≤ u) (h2 : u ≤ P) (hP : P ≤ 40) : nI 1 ≤ nI u ∧ nI u ≤ nI P := ⟨(nI_leI (by omega) (by omega)).mpr (by omega), (nI_leI (by omega) (by omega)).mpr (by omega)⟩
theorem st_inverse {g : gX} {x : Nat} {w : wd_M} {σ : St} (hI : IV g x w σ) {v r1 : Int32} {w1 : wd_M} (h1 : p3_inverse g w x σ v r1 w1) : mS9 g w1 x σ = w1 ∧ ∀ r2 w2, p4_inverse g w1 x σ v r2 w2 → r1 = r2 ∧ ∃ σ', IV g x w2 σ' := by
  have hcx : xW g w x (nI σ.P) σ.mo σ.no (nI σ.T) (nI σ.N) σ.wr σ.lk σ.ps σ.fs σ.ss σ.ds σ.lv = w := hI.c.cx
  have hP := hI.t.hP
  unfold p3_inverse at h1
  rcases h1 with ⟨hn, e1, e2⟩ | ⟨u, hu1, hu2, rfl, ⟨hP4, e1, e2⟩ | ⟨hP4, q, hq, hf, e1, e2⟩⟩
  · rw [hcx] at e2
    subst e2
    refine ⟨hI.cm, fun r2 w2 h2 => ?_⟩
    unfold p4_inverse at h2
    rcases h2 with ⟨-, q1, q2⟩ | ⟨q, -⟩
    · rw [e1, q1, q2]; exact ⟨rfl, hI.rf0 _⟩
    · exact absurd q hn
  · rw [hcx] at e2
    subst e2
    refine ⟨hI.cm, fun r2 w2 h2 => ?_⟩
    unfold p4_inverse at h2
    rcases h2 with ⟨q, -⟩ | ⟨-, ⟨-, q1, q2⟩ | ⟨q, -⟩⟩
    · exact absurd (isP hu1 hu2 hP) q
    · rw [e1, q1, q2]; exact ⟨rfl, hI.rf0 _⟩
    · omega
  · obtain ⟨k1, k2⟩ := st_one hI hf hP4 (nI 1) (nI u) (nI 0) 1 u hu1 hu2 rfl (Or.inl rfl) rfl e2
    refine ⟨k1, fun r2 w2 h2 => ?_⟩
    unfold p4_inverse at h2
    rcases h2 with ⟨q, -⟩ | ⟨-, ⟨q, -⟩ | ⟨-, q1, q2⟩⟩
    · exact absurd (isP hu1 hu2 hP) q
    · omega
    · rw [e1, q1, q2]; exact ⟨rfl, k2⟩
theorem st_negated {g : gX} {x : Nat} {w : wd_M} {σ : St} (hI : IV g x w σ) {pv ov r1 : Int32} {w1 : wd_M} (h1 : p3_negated g w x σ pv ov r1 w1) : mS9 g w1 x σ = w1 ∧ ∀ r2 w2, p4_negated g w1 x σ pv ov r2 w2 → r1 = r2 ∧ ∃ σ', IV g x w2 σ' := by
  have hcx : xW g w x (nI σ.P) σ.mo σ.no (nI σ.T) (nI σ.N) σ.wr σ.lk σ.ps σ.fs σ.ss σ.ds σ.lv = w := hI.c.cx
  have hP := hI.t.hP
  have hiff : ((0 ≤ pv ∧ pv < nI 16) ∧ (ov = -1 ∨ (0 ≤ ov ∧ ov < nI 16))) ↔ ((nI 0 ≤ pv ∧ pv ≤ nI 15) ∧ (-1 ≤ ov ∧ ov ≤ nI 15)) := by rw [rg_16, en_16]
  have h70 : ¬ nI 7 = 0 := by decide
  unfold p3_negated at h1
  rcases h1 with ⟨hn, e1, e2⟩ | ⟨hr, ho, ⟨hP4, e1, e2⟩ | ⟨hP4, q, hq, hf, e1, e2⟩⟩ | ⟨hr, ho, ⟨hP4, e1, e2⟩ | ⟨hP4, q, hq, hf, e1, e2⟩⟩
  · rw [hcx] at e2
    subst e2
    refine ⟨hI.cm, fun r2 w2 h2 => ?_⟩
    unfold p4_negated at h2
    rcases h2 with ⟨-, q1, q2⟩ | ⟨q, -⟩
    · rw [e1, q1, q2]; exact ⟨rfl, hI.rf0 _⟩
    · exact absurd (hiff.mpr q) hn
  · rw [hcx] at e2
    subst e2
    refine ⟨hI.cm, fun r2 w2 h2 => ?_⟩
    unfold p4_negated at h2
    rcases h2 with ⟨q, -⟩ | ⟨-, ⟨-, q1, q2⟩ | ⟨q, -⟩⟩
    · exact absurd (hiff.mp hr) q
    · rw [e1, q1, q2]; exact ⟨rfl, hI.rf0 _⟩
    · omega
  · obtain ⟨k1, k2⟩ := st_lnk hI hf hP4 (nI 7) _ pv ov 7 rfl (Or.inr rfl) (fun c hc => by
        obtain ⟨a, ha, ea⟩ := ix0 (n := 15) (by decide) ((rg_16 _).mp hr.1)
        rw [if_neg h70, ea, nI_sh, b_and, b_xor, b_65535, b_m1 c (by omega), b_sh a c (by omega) (by omega), nI_eq (by omega) (by omega), ho]
        have : ¬ nI c = -1 := nI_m1 (by omega)
        simp [this, hc]) e2
    refine ⟨k1, fun r2 w2 h2 => ?_⟩
    unfold p4_negated at h2
    rcases h2 with ⟨q, -⟩ | ⟨-, ⟨q, -⟩ | ⟨-, q1, q2⟩⟩
    · exact absurd (hiff.mp hr) q
    · omega
    · rw [e1, q1, q2]; exact ⟨rfl, k2⟩
  · rw [hcx] at e2
    subst e2
    refine ⟨hI.cm, fun r2 w2 h2 => ?_⟩
    unfold p4_negated at h2
    rcases h2 with ⟨q, -⟩ | ⟨-, ⟨-, q1, q2⟩ | ⟨q, -⟩⟩
    · exact absurd (hiff.mp hr) q
    · rw [e1, q1, q2]; exact ⟨rfl, hI.rf0 _⟩
    · omega
  · obtain ⟨k1, k2⟩ := st_lnk hI hf hP4 (nI 7) _ pv ov 7 rfl (Or.inr rfl) (fun c hc => by
        obtain ⟨a, ha, ea⟩ := ix0 (n := 15) (by decide) ((rg_16 _).mp hr.1)
        obtain ⟨b, hb, eb9⟩ := ix0 (n := 15) (by decide) ((rg_16 _).mp (hr.2.resolve_left ho))
        rw [if_neg h70, ea, eb9, nI_sh, nI_sh, b_and, b_xor, b_or, b_65535, b_m1 c (by omega), b_sh a c (by omega) (by omega), b_sh b c (by omega) (by omega), nI_eq (by omega) (by omega), nI_eq (by omega) (by omega)]
        simp [hc]) e2
    refine ⟨k1, fun r2 w2 h2 => ?_⟩
    unfold p4_negated at h2
    rcases h2 with ⟨q, -⟩ | ⟨-, ⟨q, -⟩ | ⟨-, q1, q2⟩⟩
    · exact absurd (hiff.mp hr) q
    · omega
    · rw [e1, q1, q2]; exact ⟨rfl, k2⟩
theorem st_path {g : gX} {x : Nat} {w : wd_M} {σ : St} (hI : IV g x w σ) {kd av bv r1 : Int32} {w1 : wd_M} (h1 : p3_path g w x σ kd av bv r1 w1) : mS9 g w1 x σ = w1 ∧ ∀ r2 w2, p4_path g w1 x σ kd av bv r2 w2 → r1 = r2 ∧ ∃ σ', IV g x w2 σ' := by
  have hcx : xW g w x (nI σ.P) σ.mo σ.no (nI σ.T) (nI σ.N) σ.wr σ.lk σ.ps σ.fs σ.ss σ.ds σ.lv = w := hI.c.cx
  have hP := hI.t.hP
  have kr : ∀ c n m, c ≤ 6 → n ≤ 6 → m ≤ 6 → ((nI n ≤ nI c ∧ nI c ≤ nI m) ↔ (n ≤ c ∧ c ≤ m)) := fun c n m h1 h2 h3 => by rw [nI_leI (by omega) (by omega), nI_leI (by omega) (by omega)]
  unfold p3_path at h1
  rcases h1 with ⟨rfl, h1⟩ | ⟨hk, h1⟩ | ⟨hk, h1⟩ | ⟨hk, e1, e2⟩
  · have n1 : ¬ ((nI 1 ≤ nI 0 ∧ nI 0 ≤ nI 6) ∧ ¬ (nI 1 ≤ av ∧ av ≤ nI σ.P) ∨ (nI 2 ≤ nI 0 ∧ nI 0 ≤ nI 3) ∧ ¬ (nI 1 ≤ bv ∧ bv ≤ nI σ.P)) := by
      rw [kr 0 1 6 (by omega) (by omega) (by omega), kr 0 2 3 (by omega) (by omega) (by omega)]
      omega
    rcases h1 with ⟨hn, e1, e2⟩ | ⟨hr, ⟨hP4, e1, e2⟩ | ⟨hP4, q, hq, hf, e1, e2⟩⟩
    · rw [hcx] at e2
      subst e2
      refine ⟨hI.cm, fun r2 w2 h2 => ?_⟩
      unfold p4_path at h2
      rcases h2 with ⟨q, -⟩ | ⟨-, -, q1, q2⟩ | ⟨-, q, -⟩
      · exact absurd q n1
      · rw [e1, q1, q2]; exact ⟨rfl, hI.rf0 _⟩
      · exact absurd (Or.inr ⟨nI_0, fun q9 => hn ((rg_16 _).mpr q9)⟩) q
    · rw [hcx] at e2
      subst e2
      refine ⟨hI.cm, fun r2 w2 h2 => ?_⟩
      unfold p4_path at h2
      rcases h2 with ⟨q, -⟩ | ⟨-, q, -⟩ | ⟨-, -, ⟨-, q1, q2⟩ | ⟨q, -⟩⟩
      · exact absurd q n1
      · exact absurd q (fun q9 => q9.elim (fun z => z ((kr 0 0 6 (by omega) (by omega) (by omega)).mpr (by omega))) (fun z => z.2 ((rg_16 _).mp hr)))
      · rw [e1, q1, q2]; exact ⟨rfl, hI.rf0 _⟩
      · omega
    · obtain ⟨k1, k2⟩ := st_lnk hI hf hP4 (nI 0) _ av bv 0 rfl (Or.inl rfl) (fun c hc => by
        obtain ⟨a, ha, ea⟩ := ix0 (n := 15) (by decide) ((rg_16 _).mp hr)
        rw [if_pos nI_0, ea, nI_sh, b_sh a c (by omega) (by omega), nI_eq (by omega) (by omega), decide_eq_true_eq]) e2
      refine ⟨k1, fun r2 w2 h2 => ?_⟩
      unfold p4_path at h2
      rcases h2 with ⟨q, -⟩ | ⟨-, q, -⟩ | ⟨-, -, ⟨q, -⟩ | ⟨-, q1, q2⟩⟩
      · exact absurd q n1
      · exact absurd q (fun q9 => q9.elim (fun z => z ((kr 0 0 6 (by omega) (by omega) (by omega)).mpr (by omega))) (fun z => z.2 ((rg_16 _).mp hr)))
      · omega
      · rw [e1, q1, q2]; exact ⟨rfl, k2⟩
  · obtain ⟨c, hc, hkc⟩ : ∃ c, (c = 1 ∨ c = 4 ∨ c = 5 ∨ c = 6) ∧ kd = nI c := by
      rcases hk with h | h | h | h
      · exact ⟨1, by omega, h⟩
      · exact ⟨4, by omega, h⟩
      · exact ⟨5, by omega, h⟩
      · exact ⟨6, by omega, h⟩
    subst hkc
    have c16 : 1 ≤ c ∧ c ≤ 6 := by clear h1; omega
    have c23 : ¬ (2 ≤ c ∧ c ≤ 3) := by clear h1; omega
    have n0 : ¬ (¬ (nI 0 ≤ nI c ∧ nI c ≤ nI 6) ∨ (nI c = 0 ∧ ¬ (nI 0 ≤ av ∧ av ≤ nI 15))) := by
      rintro (z | z)
      · exact z ((kr c 0 6 (by omega) (by omega) (by omega)).mpr (by omega))
      · have := (nI_eq (a := c) (b := 0) (by omega) (by omega)).mp (z.1.trans nI_0.symm)
        omega
    have n1 : ((nI 1 ≤ nI c ∧ nI c ≤ nI 6) ∧ ¬ (nI 1 ≤ av ∧ av ≤ nI σ.P) ∨ (nI 2 ≤ nI c ∧ nI c ≤ nI 3) ∧ ¬ (nI 1 ≤ bv ∧ bv ≤ nI σ.P)) ↔ ¬ (nI 1 ≤ av ∧ av ≤ nI σ.P) := by
      rw [kr c 1 6 (by omega) (by omega) (by omega), kr c 2 3 (by omega) (by omega) (by omega)]
      exact ⟨fun z => z.elim (fun z => z.2) (fun z => absurd z.1 c23), fun z => Or.inl ⟨c16, z⟩⟩
    rcases h1 with ⟨hn, e1, e2⟩ | ⟨u, hu1, hu2, rfl, ⟨hP4, e1, e2⟩ | ⟨hP4, q, hq, hf, e1, e2⟩⟩
    · rw [hcx] at e2
      subst e2
      refine ⟨hI.cm, fun r2 w2 h2 => ?_⟩
      unfold p4_path at h2
      rcases h2 with ⟨-, q1, q2⟩ | ⟨q, -⟩ | ⟨q, -⟩
      · rw [e1, q1, q2]; exact ⟨rfl, hI.rf0 _⟩
      · exact absurd (n1.mpr hn) q
      · exact absurd (n1.mpr hn) q
    · rw [hcx] at e2
      subst e2
      refine ⟨hI.cm, fun r2 w2 h2 => ?_⟩
      unfold p4_path at h2
      rcases h2 with ⟨q, -⟩ | ⟨-, q, -⟩ | ⟨-, -, ⟨-, q1, q2⟩ | ⟨q, -⟩⟩
      · exact absurd (isP hu1 hu2 hP) (n1.mp q)
      · exact absurd q n0
      · rw [e1, q1, q2]; exact ⟨rfl, hI.rf0 _⟩
      · omega
    · obtain ⟨k1, k2⟩ := st_one hI hf hP4 (nI c) (nI u) bv c u hu1 hu2 rfl hc rfl e2
      refine ⟨k1, fun r2 w2 h2 => ?_⟩
      unfold p4_path at h2
      rcases h2 with ⟨q, -⟩ | ⟨-, q, -⟩ | ⟨-, -, ⟨q, -⟩ | ⟨-, q1, q2⟩⟩
      · exact absurd (isP hu1 hu2 hP) (n1.mp q)
      · exact absurd q n0
      · omega
      · rw [e1, q1, q2]; exact ⟨rfl, k2⟩
  · obtain ⟨c, hc, hkc⟩ : ∃ c, (c = 2 ∨ c = 3) ∧ kd = nI c := by
      rcases hk with h | h
      · exact ⟨2, by omega, h⟩
      · exact ⟨3, by omega, h⟩
    subst hkc
    have c16 : 1 ≤ c ∧ c ≤ 6 := by clear h1; omega
    have c23 : 2 ≤ c ∧ c ≤ 3 := by clear h1; omega
    have n0 : ¬ (¬ (nI 0 ≤ nI c ∧ nI c ≤ nI 6) ∨ (nI c = 0 ∧ ¬ (nI 0 ≤ av ∧ av ≤ nI 15))) := by
      rintro (z | z)
      · exact z ((kr c 0 6 (by omega) (by omega) (by omega)).mpr (by omega))
      · have := (nI_eq (a := c) (b := 0) (by omega) (by omega)).mp (z.1.trans nI_0.symm)
        omega
    have n1 : ((nI 1 ≤ nI c ∧ nI c ≤ nI 6) ∧ ¬ (nI 1 ≤ av ∧ av ≤ nI σ.P) ∨ (nI 2 ≤ nI c ∧ nI c ≤ nI 3) ∧ ¬ (nI 1 ≤ bv ∧ bv ≤ nI σ.P)) ↔ ¬ ((nI 1 ≤ av ∧ av ≤ nI σ.P) ∧ (nI 1 ≤ bv ∧ bv ≤ nI σ.P)) := by
      rw [kr c 1 6 (by omega) (by omega) (by omega), kr c 2 3 (by omega) (by omega) (by omega)]
      constructor
      · rintro (z | z) q
        · exact z.2 q.1
        · exact z.2 q.2
      · intro z
        by_cases c9 : nI 1 ≤ av ∧ av ≤ nI σ.P
        · exact Or.inr ⟨c23, fun q => z ⟨c9, q⟩⟩
        · exact Or.inl ⟨c16, c9⟩
    rcases h1 with ⟨hn, e1, e2⟩ | ⟨u, v, hu1, hu2, rfl, hv1, hv2, rfl, ⟨hP4, e1, e2⟩ | ⟨hP4, q, hq, hf, e1, e2⟩⟩
    · rw [hcx] at e2
      subst e2
      refine ⟨hI.cm, fun r2 w2 h2 => ?_⟩
      unfold p4_path at h2
      rcases h2 with ⟨-, q1, q2⟩ | ⟨q, -⟩ | ⟨q, -⟩
      · rw [e1, q1, q2]; exact ⟨rfl, hI.rf0 _⟩
      · exact absurd (n1.mpr hn) q
      · exact absurd (n1.mpr hn) q
    · rw [hcx] at e2
      subst e2
      refine ⟨hI.cm, fun r2 w2 h2 => ?_⟩
      unfold p4_path at h2
      rcases h2 with ⟨q, -⟩ | ⟨-, q, -⟩ | ⟨-, -, ⟨-, q1, q2⟩ | ⟨q, -⟩⟩
      · exact absurd ⟨isP hu1 hu2 hP, isP hv1 hv2 hP⟩ (n1.mp q)
      · exact absurd q n0
      · rw [e1, q1, q2]; exact ⟨rfl, hI.rf0 _⟩
      · omega
    · obtain ⟨k1, k2⟩ := st_two hI hf hP4 (nI c) (nI u) (nI v) c u v hu1 hu2 hv1 hv2 rfl hc rfl rfl e2
      refine ⟨k1, fun r2 w2 h2 => ?_⟩
      unfold p4_path at h2
      rcases h2 with ⟨q, -⟩ | ⟨-, q, -⟩ | ⟨-, -, ⟨q, -⟩ | ⟨-, q1, q2⟩⟩
      · exact absurd ⟨isP hu1 hu2 hP, isP hv1 hv2 hP⟩ (n1.mp q)
      · exact absurd q n0
      · omega
      · rw [e1, q1, q2]; exact ⟨rfl, k2⟩
  · rw [hcx] at e2
    subst e2
    have h06 : ¬ (nI 0 ≤ kd ∧ kd ≤ nI 6) := fun q => by
      obtain ⟨c, hc, e⟩ := ix0 (by decide) q
      obtain ⟨q0, q1, q2, q3, q4, q5, q6⟩ := hk
      rcases (show c = 0 ∨ c = 1 ∨ c = 2 ∨ c = 3 ∨ c = 4 ∨ c = 5 ∨ c = 6 by omega) with z | z | z | z | z | z | z <;> subst z
      · exact q0 e
      · exact q1 e
      · exact q2 e
      · exact q3 e
      · exact q4 e
      · exact q5 e
      · exact q6 e
    have l0 : ∀ n, n ≤ 6 → nI n ≤ kd → nI 0 ≤ kd := fun n hn z => by
      have h9 := (nI_leI (a := 0) (b := n) (by omega) (by omega)).mpr (by omega)
      rw [Int32.le_iff_toInt_le] at h9 z ⊢
      omega
    have h6 : kd ≤ nI 3 → kd ≤ nI 6 := fun z => by
      have h9 := (nI_leI (a := 3) (b := 6) (by omega) (by omega)).mpr (by omega)
      rw [Int32.le_iff_toInt_le] at h9 z ⊢
      omega
    refine ⟨hI.cm, fun r2 w2 h2 => ?_⟩
    unfold p4_path at h2
    rcases h2 with ⟨q, -⟩ | ⟨-, -, q1, q2⟩ | ⟨-, q, -⟩
    · rcases q with q | q
      · exact absurd ⟨l0 1 (by omega) q.1.1, q.1.2⟩ h06
      · exact absurd ⟨l0 2 (by omega) q.1.1, h6 q.1.2⟩ h06
    · rw [e1, q1, q2]; exact ⟨rfl, hI.rf0 _⟩
    · exact absurd (Or.inl h06) q
