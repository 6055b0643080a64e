/-! THE CLASS: countParts, goesBeyond -/
theorem c_made (l : Launch) (g : gX) (s0 : Nat) (W9 : wd_M) (q : Nat) (hs0 : s0 ≤ q) (k kd li : Int32) (inn oth : Option Nat) (cs cg : Int32) (f j : Nat → Int32) (n9 : Nat) (hn9 : n9 < 64) (pm : Nat) (hpm : pm < 2 ^ 63) (h0 : W9 q = some (pO k kd li inn oth (lN pm) (q + 1) (q + 2) cs cg)) (h1 : W9 (q + 1) = some (wd_iA (g.2 0) 1024 f)) (h2 : W9 (q + 2) = some (wd_iA (g.2 0) 32 j)) : Met l yX0_isMadeOf (Cond.code yX0_isMadeOf cX0_isMadeOf 2 (some .boolean) :: tg) ({ frames := 0, cells := 0, slots := 0, locals := 0 }) (cP g s0 W9 [.ref q, .int (nI n9)]) (cI g s0 (fun r w' => r = zB (pm / 2 ^ n9 % 2 = 1) ∧ w' = W9)) 0 0 (cA s0) := by
  have h9 := c_X0_isMadeOf l g s0 W9 q hs0 k kd li inn oth cs cg f j n9 hn9 pm hpm
  rw [pW_self h0 h1 h2] at h9
  exact h9
theorem c_prs (l : Launch) (g : gX) (s0 : Nat) (W9 : wd_M) (q : Nat) (hs0 : s0 ≤ q) (k kd li : Int32) (inn oth : Option Nat) (cs cg : Int32) (f j : Nat → Int32) (pm : Nat) (h0 : W9 q = some (pO k kd li inn oth (lN pm) (q + 1) (q + 2) cs cg)) (h1 : W9 (q + 1) = some (wd_iA (g.2 0) 1024 f)) (h2 : W9 (q + 2) = some (wd_iA (g.2 0) 32 j)) : Met l yX0_pairs (Cond.code yX0_pairs cX0_pairs 3 (some .int) :: tg) ({ frames := 1, cells := 0, slots := 0, locals := 20 }) (cP g s0 W9 [.ref q]) (cI g s0 (fun r w' => r = nI (pr1 j 32) ∧ w' = W9)) 0 0 (cA s0) := by
  have h9 := c_X0_pairs l g s0 W9 q hs0 k kd li inn oth (lN pm) cs cg f j
  rw [pW_self h0 h1 h2] at h9
  exact h9
set_option maxHeartbeats 2000000 in
theorem c_cin (l : Launch) (g : gX) (s0 : Nat) (w : wd_M) (x : Nat) (hs0 : s0 ≤ x) (mo : Int32) (no : Int32) (rs : Int32) (wr : Int32) (lk : Nat → Int32) (ps : Nat → Option Nat) (fs : Nat → Int32) (ss : Nat → Int32) (ds : Nat → Int32) (lv : Nat → Int32) (P : Nat) (hP4 : P ≤ 40) (Z : Nat) (qa : Nat → Nat) (KD LI : Nat → Int32) (ia ib PM : Nat → Nat) (hsh : shp P qa ia ib PM) (w0 : wd_M) (gr : Int32) (a : Nat) (ha1 : 1 ≤ a) (haP : a ≤ P) (i : Nat) (CS CG : Nat → Int32) (TF : Nat → Nat → Nat) (JF : Nat → Nat → Int32) (hI : cpI g w0 x P ps qa KD LI ia ib PM lk Z gr a i w CS CG TF JF) (hi1 : 1 ≤ i) (hia : i ≤ a) (hb : pmb (PM a) i) : Met l yX0_countIn (Cond.code yX0_countIn cX0_countIn 3 (none) :: tg) ({ frames := 5, cells := 0, slots := 0, locals := 116 }) (cP g s0 (xW g w x (nI P) mo no (nI Z) rs wr lk ps fs ss ds lv) [.ref (qa i), .ref (x + 1), .int (gr)]) (cV g s0 (fun w' => ∃ w3 CS3 CG3 TF3 JF3, w' = (xW g w3 x (nI P) mo no (nI Z) rs wr lk ps fs ss ds lv) ∧ cpI g w0 x P ps qa KD LI ia ib PM lk Z gr a (i + 1) w3 CS3 CG3 TF3 JF3)) 0 0 (cA s0) := by
  obtain ⟨a1, a2, a3, a4, a5, a6⟩ := hI.1 i hi1 (by omega)
  obtain ⟨q1, -, -⟩ := hI.2.1 i hi1 (by omega)
  obtain ⟨s1, s2, s3, -⟩ := hsh.2.1 i hi1 (by omega)
  by_cases c0 : ia i = 0
  · have c1 := s3 c0
    have e_a : oN qa (ia i) = none := by rw [c0]; exact oN_0
    have e_b : oN qa (ib i) = none := by rw [c1]; exact oN_0
    dsimp only at a4
    rw [e_a, e_b] at a4
    by_cases cS : CS i = nI Z ∧ CG i = gr
    · have h9 := c_X0_countIn_n l g s0 (xW g w x (nI P) mo no (nI Z) rs wr lk ps fs ss ds lv) (qa i) (by omega) (nI i) (KD i) (LI i) (lN (PM i)) (CS i) (CG i) (JF i) (TF i) q1 gr (x + 1) no (nI Z) lk xW_1 xW_2 (by omega)
      rw [pW_self ((xW_out (by omega)).trans a4) ((xW_out (by omega)).trans a5) ((xW_out (by omega)).trans a6)] at h9
      refine h9.mono (fun _ _ h => h) (fun _ _ _ _ _ => cV_mono (fun w9 hw => ?_) _ _ _ _)
      refine ⟨w, CS, CG, TF, JF, ?_, cp_same hI cS.1 cS.2⟩
      rcases hw with ⟨-, -, hw⟩ | ⟨hw, -⟩
      · exact hw
      · exact absurd cS hw
    · have h9 := c_X0_countIn_n l g s0 (xW g w x (nI P) mo no (nI Z) rs wr lk ps fs ss ds lv) (qa i) (by omega) (nI i) (KD i) (LI i) (lN (PM i)) (CS i) (CG i) (cutI 32 (JF i)) (cut 1024 (TF i)) (cut_B q1) gr (x + 1) no (nI Z) lk xW_1 xW_2 (by omega)
      refine h9.mono (cP_eq (fun H9 hP9 => pW_nrm (f9 := tN (TF i)) (j9 := JF i) (fun k hk => by unfold tN cut; rw [if_pos hk]) (fun k hk => by unfold cutI; rw [if_pos hk]) (by rw [pW_self ((xW_out (by omega)).trans a4) ((xW_out (by omega)).trans a5) ((xW_out (by omega)).trans a6)]; exact hP9))) (fun _ _ _ _ _ => cV_mono (fun w9 hw => ?_) _ _ _ _)
      refine ⟨_, _, _, _, _, ?_, cp_new hsh hi1 (by omega) hI⟩
      rcases hw with ⟨h1, h2, -⟩ | ⟨-, hw⟩
      · exact absurd ⟨h1, h2⟩ cS
      · rw [t0_cut] at hw
        rw [← (tv_n c0 : _ = _), xW_pW2 (by omega)] at hw
        rw [e_a, e_b]
        exact hw
  · obtain ⟨b1, b2, b3, b4, b5, b6⟩ := hI.1 (ia i) (by omega) (by omega)
    obtain ⟨p1, -, -⟩ := hI.2.1 (ia i) (by omega) (by omega)
    have hq2 := hsh.2.2 (ia i) i (by omega) s1 (by omega)
    have v1 := cp_val hsh haP hI (u := ia i) (by omega) s1 ((shp_sub hsh a haP i hi1 hb).2 _ (shp_a hsh hi1 (by omega) c0))
    have e_a : oN qa (ia i) = some (qa (ia i)) := oN_s c0
    dsimp only at a4 b4
    rw [e_a] at a4
    by_cases c1 : ib i = 0
    · have e_b : oN qa (ib i) = none := by rw [c1]; exact oN_0
      rw [e_b] at a4
      by_cases cS : CS i = nI Z ∧ CG i = gr
      · have h9 := c_X0_countIn_i l g s0 (xW g w x (nI P) mo no (nI Z) rs wr lk ps fs ss ds lv) (qa i) (by omega) (nI i) (KD i) (LI i) (lN (PM i)) (CS i) (CG i) (JF i) (TF i) q1 gr (x + 1) no (nI Z) lk xW_1 xW_2 (by omega) (qa (ia i)) (nI (ia i)) (KD (ia i)) (LI (ia i)) (oN qa (ia (ia i))) (oN qa (ib (ia i))) (lN (PM (ia i))) (CS (ia i)) (CG (ia i)) (TF (ia i)) p1 ((xW_out (by omega)).trans b4) ((xW_out (by omega)).trans b5) (Or.inl hq2) (JF (ia i)) ((xW_out (by omega)).trans b6)
        rw [pW_self ((xW_out (by omega)).trans a4) ((xW_out (by omega)).trans a5) ((xW_out (by omega)).trans a6)] at h9
        refine h9.mono (fun _ _ h => h) (fun _ _ _ _ _ => cV_mono (fun w9 hw => ?_) _ _ _ _)
        refine ⟨w, CS, CG, TF, JF, ?_, cp_same hI cS.1 cS.2⟩
        rcases hw with ⟨-, -, hw⟩ | ⟨hw, -⟩
        · exact hw
        · exact absurd cS hw
      · have h9 := c_X0_countIn_i l g s0 (xW g w x (nI P) mo no (nI Z) rs wr lk ps fs ss ds lv) (qa i) (by omega) (nI i) (KD i) (LI i) (lN (PM i)) (CS i) (CG i) (cutI 32 (JF i)) (cut 1024 (TF i)) (cut_B q1) gr (x + 1) no (nI Z) lk xW_1 xW_2 (by omega) (qa (ia i)) (nI (ia i)) (KD (ia i)) (LI (ia i)) (oN qa (ia (ia i))) (oN qa (ib (ia i))) (lN (PM (ia i))) (CS (ia i)) (CG (ia i)) (TF (ia i)) p1 ((xW_out (by omega)).trans b4) ((xW_out (by omega)).trans b5) (Or.inl hq2) (JF (ia i)) ((xW_out (by omega)).trans b6)
        refine h9.mono (cP_eq (fun H9 hP9 => pW_nrm (f9 := tN (TF i)) (j9 := JF i) (fun k hk => by unfold tN cut; rw [if_pos hk]) (fun k hk => by unfold cutI; rw [if_pos hk]) (by rw [pW_self ((xW_out (by omega)).trans a4) ((xW_out (by omega)).trans a5) ((xW_out (by omega)).trans a6)]; exact hP9))) (fun _ _ _ _ _ => cV_mono (fun w9 hw => ?_) _ _ _ _)
        refine ⟨_, _, _, _, _, ?_, cp_new hsh hi1 (by omega) hI⟩
        rcases hw with ⟨h1, h2, -⟩ | ⟨-, hw⟩
        · exact absurd ⟨h1, h2⟩ cS
        · rw [t0_cut] at hw
          rw [v1.1, v1.2] at hw
          rw [← (tv_i c0 s1 c1 : _ = _), xW_pW2 (by omega)] at hw
          rw [e_a, e_b]
          exact hw
    · obtain ⟨d1, d2, d3, d4, d5, d6⟩ := hI.1 (ib i) (by omega) (by omega)
      obtain ⟨r1, -, -⟩ := hI.2.1 (ib i) (by omega) (by omega)
      have hq3 := hsh.2.2 (ib i) i (by omega) s2 (by omega)
      have v2 := cp_val hsh haP hI (u := ib i) (by omega) s2 ((shp_sub hsh a haP i hi1 hb).2 _ (shp_b hsh hi1 (by omega) c1))
      have e_b : oN qa (ib i) = some (qa (ib i)) := oN_s c1
      dsimp only at d4
      rw [e_b] at a4
      by_cases cS : CS i = nI Z ∧ CG i = gr
      · have h9 := c_X0_countIn_b l g s0 (xW g w x (nI P) mo no (nI Z) rs wr lk ps fs ss ds lv) (qa i) (by omega) (nI i) (KD i) (LI i) (lN (PM i)) (CS i) (CG i) (JF i) (TF i) q1 gr (x + 1) no (nI Z) lk xW_1 xW_2 (by omega) (qa (ia i)) (nI (ia i)) (KD (ia i)) (LI (ia i)) (oN qa (ia (ia i))) (oN qa (ib (ia i))) (lN (PM (ia i))) (CS (ia i)) (CG (ia i)) (TF (ia i)) p1 ((xW_out (by omega)).trans b4) ((xW_out (by omega)).trans b5) (Or.inl hq2) (qa (ib i)) (nI (ib i)) (KD (ib i)) (LI (ib i)) (oN qa (ia (ib i))) (oN qa (ib (ib i))) (lN (PM (ib i))) (CS (ib i)) (CG (ib i)) (TF (ib i)) r1 ((xW_out (by omega)).trans d4) ((xW_out (by omega)).trans d5) (Or.inl hq3) (JF (ib i)) ((xW_out (by omega)).trans d6)
        rw [pW_self ((xW_out (by omega)).trans a4) ((xW_out (by omega)).trans a5) ((xW_out (by omega)).trans a6)] at h9
        refine h9.mono (fun _ _ h => h) (fun _ _ _ _ _ => cV_mono (fun w9 hw => ?_) _ _ _ _)
        refine ⟨w, CS, CG, TF, JF, ?_, cp_same hI cS.1 cS.2⟩
        rcases hw with ⟨-, -, hw⟩ | ⟨hw, -⟩
        · exact hw
        · exact absurd cS hw
      · have h9 := c_X0_countIn_b l g s0 (xW g w x (nI P) mo no (nI Z) rs wr lk ps fs ss ds lv) (qa i) (by omega) (nI i) (KD i) (LI i) (lN (PM i)) (CS i) (CG i) (cutI 32 (JF i)) (cut 1024 (TF i)) (cut_B q1) gr (x + 1) no (nI Z) lk xW_1 xW_2 (by omega) (qa (ia i)) (nI (ia i)) (KD (ia i)) (LI (ia i)) (oN qa (ia (ia i))) (oN qa (ib (ia i))) (lN (PM (ia i))) (CS (ia i)) (CG (ia i)) (TF (ia i)) p1 ((xW_out (by omega)).trans b4) ((xW_out (by omega)).trans b5) (Or.inl hq2) (qa (ib i)) (nI (ib i)) (KD (ib i)) (LI (ib i)) (oN qa (ia (ib i))) (oN qa (ib (ib i))) (lN (PM (ib i))) (CS (ib i)) (CG (ib i)) (TF (ib i)) r1 ((xW_out (by omega)).trans d4) ((xW_out (by omega)).trans d5) (Or.inl hq3) (JF (ib i)) ((xW_out (by omega)).trans d6)
        refine h9.mono (cP_eq (fun H9 hP9 => pW_nrm (f9 := tN (TF i)) (j9 := JF i) (fun k hk => by unfold tN cut; rw [if_pos hk]) (fun k hk => by unfold cutI; rw [if_pos hk]) (by rw [pW_self ((xW_out (by omega)).trans a4) ((xW_out (by omega)).trans a5) ((xW_out (by omega)).trans a6)]; exact hP9))) (fun _ _ _ _ _ => cV_mono (fun w9 hw => ?_) _ _ _ _)
        refine ⟨_, _, _, _, _, ?_, cp_new hsh hi1 (by omega) hI⟩
        rcases hw with ⟨h1, h2, -⟩ | ⟨-, hw⟩
        · exact absurd ⟨h1, h2⟩ cS
        · rw [t0_cut] at hw
          rw [v1.1, v2.1, v2.2] at hw
          rw [← (tv_b c0 s1 c1 s2 : _ = _), xW_pW2 (by omega)] at hw
          rw [e_a, e_b]
          exact hw
