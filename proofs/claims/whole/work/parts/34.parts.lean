/-! THE CLASS: what a PATH's rows are; a PATH's count as a step of countParts -/
theorem Met.mono {l : Launch} {y : MethodName} {ws : List Cond} {rm : Room} {Pc Pc' : Array Value → State → Prop} {Qc Qc' : Array Value → State → Outcome → State → Prop} {mc ms : Nat} {free : Addr → Prop} (h : Met l y ws rm Pc Qc mc ms free) (hP : ∀ a s, Pc' a s → Pc a s) (hQ : ∀ a s o t, Pc' a s → Qc a s o t → Qc' a s o t) : Met l y ws rm Pc' Qc' mc ms free :=
  MetFree.mono h hP (fun _ _ _ _ _ h => h) (fun a s o t hp h => ⟨hQ a s o t hp h.1, h.2⟩)
theorem cP_eq {g : gX} {s0 : Nat} {w w' : wd_M} {av : List Value} (h : ∀ H : Heap, gP g w H → gP g w' H) : ∀ a s, cP g s0 w av a s → cP g s0 w' av a s := fun _ _ h9 => ⟨h9.1, h9.2.1, h _ h9.2.2.1, h9.2.2.2⟩
theorem cV_mono {g : gX} {s0 : Nat} {P Q : wd_M → Prop} (h : ∀ w, P w → Q w) : ∀ a s o t, cV g s0 P a s o t → cV g s0 Q a s o t := fun _ _ _ _ h9 => by
  obtain ⟨⟨u, h1, h2, h3⟩, h4⟩ := h9
  exact ⟨⟨u, h1, h u h2, h3⟩, h4⟩
theorem cI_mono {g : gX} {s0 : Nat} {P Q : Int32 → wd_M → Prop} (h : ∀ r w, P r w → Q r w) : ∀ a s o t, cI g s0 P a s o t → cI g s0 Q a s o t := fun _ _ _ _ h9 => by
  obtain ⟨⟨r, u, h1, h2, h3⟩, h4⟩ := h9
  exact ⟨⟨r, u, h1, h r u h2, h3⟩, h4⟩
/-- a map with other contents beyond an array's length says the same of a heap -/
theorem arr_same {cA : ClassId} {n : Nat} {f f' : Nat → Int32} (h : ∀ k, k < n → f k = f' k) : vp_cell cA (n, .inl f) = vp_cell cA (n, .inl f') := by
  rw [vp_cell_i, vp_cell_i]
  unfold arrV
  congr 2
  funext j
  show Value.int (f j.val) = Value.int (f' j.val)
  rw [h j.val j.isLt]
theorem pW_nrm {g : gX} {w : wd_M} {q : Nat} {k9 : Int32} {kd9 : Int32} {li9 : Int32} {inn9 : Option Nat} {oth9 : Option Nat} {pa9 : Int64} {cs9 : Int32} {cg9 : Int32} {f9 : Nat → Int32} {j9 : Nat → Int32} {f' j' : Nat → Int32} (hf : ∀ k, k < 1024 → f9 k = f' k) (hj : ∀ k, k < 32 → j9 k = j' k) {H : Heap} (h : gP g (pW g w q k9 kd9 li9 inn9 oth9 pa9 cs9 cg9 f9 j9) H) : gP g (pW g w q k9 kd9 li9 inn9 oth9 pa9 cs9 cg9 f' j') H := by
  intro a e9 ha
  by_cases e0 : a = q
  · subst e0
    rw [pW_0] at ha
    exact h a e9 (pW_0.trans ha)
  · by_cases e1 : a = q + 1
    · subst e1
      rw [pW_1] at ha
      cases ha
      have h1 := h (q + 1) _ pW_1
      show H[q + 1]? = some (vp_cell _ _)
      rw [← arr_same hf]
      exact h1
    · by_cases e2 : a = q + 2
      · subst e2
        rw [pW_2] at ha
        cases ha
        have h1 := h (q + 2) _ pW_2
        show H[q + 2]? = some (vp_cell _ _)
        rw [← arr_same hj]
        exact h1
      · rw [pW_out (by omega)] at ha
        exact h a e9 ((pW_out (by omega)).trans ha)
theorem xW_pW2 {g : gX} {w : wd_M} {x q : Nat} {pc : Int32} {mo : Int32} {no : Int32} {sz : Int32} {rs : Int32} {wr : Int32} {lk : Nat → Int32} {ps : Nat → Option Nat} {fs : Nat → Int32} {ss : Nat → Int32} {ds : Nat → Int32} {lv : Nat → Int32} {k9 : Int32} {kd9 : Int32} {li9 : Int32} {inn9 : Option Nat} {oth9 : Option Nat} {pa9 : Int64} {cs9 : Int32} {cg9 : Int32} {f9 : Nat → Int32} {j9 : Nat → Int32} (h : x + 9 ≤ q) : pW g (xW g w x pc mo no sz rs wr lk ps fs ss ds lv) q k9 kd9 li9 inn9 oth9 pa9 cs9 cg9 f9 j9 = xW g (pW g w q k9 kd9 li9 inn9 oth9 pa9 cs9 cg9 f9 j9) x pc mo no sz rs wr lk ps fs ss ds lv := by
  funext b
  unfold pW xW
  dsimp only
  by_cases e0 : b = q
  · rw [if_pos e0, if_neg (by omega), if_neg (by omega), if_neg (by omega), if_neg (by omega), if_neg (by omega), if_neg (by omega), if_neg (by omega), if_neg (by omega), if_neg (by omega), if_pos e0]
  · by_cases e1 : b = q + 1
    · rw [if_neg e0, if_pos e1, if_neg (by omega), if_neg (by omega), if_neg (by omega), if_neg (by omega), if_neg (by omega), if_neg (by omega), if_neg (by omega), if_neg (by omega), if_neg (by omega), if_neg e0, if_pos e1]
    · by_cases e2 : b = q + 2
      · rw [if_neg e0, if_neg e1, if_pos e2, if_neg (by omega), if_neg (by omega), if_neg (by omega), if_neg (by omega), if_neg (by omega), if_neg (by omega), if_neg (by omega), if_neg (by omega), if_neg (by omega), if_neg e0, if_neg e1, if_pos e2]
      · rw [if_neg e0, if_neg e1, if_neg e2, if_neg e0, if_neg e1, if_neg e2]
def oN (qa : Nat → Nat) (v : Nat) : Option Nat := if v = 0 then none else some (qa v)
theorem oN_0 {qa : Nat → Nat} : oN qa 0 = none := if_pos rfl
theorem oN_s {qa : Nat → Nat} {v : Nat} (h : ¬ v = 0) : oN qa v = some (qa v) := if_neg h
def z0 : aT := (fun _ => 0, fun _ => 0)
theorem z0_B : mB z0.1 := fun _ => Nat.zero_le _
theorem fN_0 : ∀ k j, fN (fun _ => 0) k j = 0 := by
  intro k
  induction k with
  | zero => intro j; rw [fN]
  | succ k ih =>
    intro j
    rw [fN]
    unfold va_up
    split
    · rfl
    · exact ih j
theorem fo1_0 : ∀ k j, fo1 (fun _ => 0) k j = 0 := by
  intro k
  induction k with
  | zero => intro j; rw [fo1]
  | succ k ih =>
    intro j
    rw [fo1]
    unfold upd
    split
    · rfl
    · exact ih j
theorem t0_z : t0 (fun _ => 0) (fun _ => 0) = z0 := by
  unfold t0 z0
  congr 1
  · funext j; exact fN_0 1024 j
  · funext j; exact fo1_0 32 j
/-- beyond the rows a table may be read as 0; t0 of it is z0 -/
theorem fN_lt {F : Nat → Nat} : ∀ k j, fN F k j = if j < k then 0 else F j := by
  intro k
  induction k with
  | zero => intro j; rw [fN, if_neg (by omega)]
  | succ k ih =>
    intro j
    rw [fN]
    unfold va_up
    by_cases h : j = k
    · rw [if_pos h, if_pos (by omega)]
    · rw [if_neg h, ih]
      by_cases h2 : j < k
      · rw [if_pos h2, if_pos (by omega)]
      · rw [if_neg h2, if_neg (by omega)]
theorem fo1_lt {F : Nat → Int32} : ∀ k j, fo1 F k j = if j < k then 0 else F j := by
  intro k
  induction k with
  | zero => intro j; rw [fo1, if_neg (by omega)]
  | succ k ih =>
    intro j
    rw [fo1]
    unfold upd
    by_cases h : j = k
    · rw [if_pos h, if_pos (by omega)]; rfl
    · rw [if_neg h, ih]
      by_cases h2 : j < k
      · rw [if_pos h2, if_pos (by omega)]
      · rw [if_neg h2, if_neg (by omega)]
def cut (n : Nat) (F : Nat → Nat) : Nat → Nat := fun k => if k < n then F k else 0
def cutI (n : Nat) (F : Nat → Int32) : Nat → Int32 := fun k => if k < n then F k else 0
theorem t0_cut {F : Nat → Nat} {j : Nat → Int32} : t0 (cut 1024 F) (cutI 32 j) = z0 := by
  unfold t0 z0
  congr 1
  · funext k
    rw [fN_lt]
    unfold cut
    split
    · rfl
    · rfl
  · funext k
    rw [fo1_lt]
    unfold cutI
    split
    · rfl
    · rfl
theorem cut_B {F : Nat → Nat} {n : Nat} (h : mB F) : mB (cut n F) := by
  intro k
  unfold cut
  split
  · exact h k
  · exact Nat.zero_le _
theorem cj2_B {j : Nat → Int32} {x : Nat} {F : Nat → Nat} (h : mB F) : ∀ y, mB (cj2 j x F y) := by
  intro y
  induction y with
  | zero => rw [cj2]; exact h
  | succ y ih =>
    rw [cj2]
    intro k
    unfold va_up
    split
    · unfold bn
      split <;> decide
    · exact ih k
theorem cj1_B {j : Nat → Int32} {F : Nat → Nat} (h : mB F) : ∀ x, mB (cj1 j F x) := by
  intro x
  induction x with
  | zero => rw [cj1]; exact h
  | succ x ih => rw [cj1]; exact cj2_B ih 32
theorem coO_B {kd : Int32} {G : Nat → Nat} {J2 : Nat → Int32} {gr : Int32} {t : aT} (h : mB t.1) : mB (coO kd G J2 gr t).1 := by
  unfold coO
  split
  · exact ct1_B h 32
  · exact cj1_B h 32
theorem coT_B {kd : Int32} {G G3 : Nat → Nat} {J3 : Nat → Int32} {t : aT} (h : mB t.1) : mB (coT kd G G3 J3 t).1 := by
  unfold coT
  split
  · exact ca1_B (ca1_B h 32) 32
  · exact cb1_B h 32
/-- THE ROWS OF PATH u over the links lk and the nodes gr -/
def tv (KD LI : Nat → Int32) (ia ib : Nat → Nat) (lk : Nat → Int32) (gr : Int32) (u : Nat) : aT :=
  if ia u = 0 then cl1 lk (LI u) z0 32 else
  if h1 : ia u < u then
    if ib u = 0 then coO (KD u) (tv KD LI ia ib lk gr (ia u)).1 (tv KD LI ia ib lk gr (ia u)).2 gr z0
    else if h2 : ib u < u then coT (KD u) (tv KD LI ia ib lk gr (ia u)).1 (tv KD LI ia ib lk gr (ib u)).1 (tv KD LI ia ib lk gr (ib u)).2 z0 else z0
  else z0
termination_by u
theorem tv_n {KD LI : Nat → Int32} {ia ib : Nat → Nat} {lk : Nat → Int32} {gr : Int32} {u : Nat} (h : ia u = 0) : tv KD LI ia ib lk gr u = cl1 lk (LI u) z0 32 := by
  rw [tv, if_pos h]
theorem tv_i {KD LI : Nat → Int32} {ia ib : Nat → Nat} {lk : Nat → Int32} {gr : Int32} {u : Nat} (h : ¬ ia u = 0) (h1 : ia u < u) (h2 : ib u = 0) : tv KD LI ia ib lk gr u = coO (KD u) (tv KD LI ia ib lk gr (ia u)).1 (tv KD LI ia ib lk gr (ia u)).2 gr z0 := by
  rw [tv, if_neg h, dif_pos h1, if_pos h2]
theorem tv_b {KD LI : Nat → Int32} {ia ib : Nat → Nat} {lk : Nat → Int32} {gr : Int32} {u : Nat} (h : ¬ ia u = 0) (h1 : ia u < u) (h2 : ¬ ib u = 0) (h3 : ib u < u) : tv KD LI ia ib lk gr u = coT (KD u) (tv KD LI ia ib lk gr (ia u)).1 (tv KD LI ia ib lk gr (ib u)).1 (tv KD LI ia ib lk gr (ib u)).2 z0 := by
  rw [tv, if_neg h, dif_pos h1, if_neg h2, dif_pos h3]
theorem tv_B {KD LI : Nat → Int32} {ia ib : Nat → Nat} {lk : Nat → Int32} {gr : Int32} {u : Nat} : mB (tv KD LI ia ib lk gr u).1 := by
  rw [tv]
  split
  · exact cl1_B z0_B 32
  · split
    · split
      · exact coO_B z0_B
      · split
        · exact coT_B z0_B
        · exact z0_B
    · exact z0_B
/-- PATH u's mask has number k -/
abbrev pmb (pm k : Nat) : Prop := pm / 2 ^ k % 2 = 1
theorem pmb_tb {pm k : Nat} : pmb pm k ↔ pm.testBit k = true := by
  unfold pmb
  rw [Nat.testBit_eq_decide_div_mod_eq]
  simp
/-- the PATHS' shape -/
def shp (P : Nat) (qa ia ib PM : Nat → Nat) : Prop := PM 0 = 0 ∧ (∀ u, 1 ≤ u → u ≤ P → ia u < u ∧ ib u < u ∧ (ia u = 0 → ib u = 0) ∧ PM u = 1 * 2 ^ u ||| PM (ia u) ||| PM (ib u)) ∧ ∀ u v, 1 ≤ u → u < v → v ≤ P → qa u + 3 ≤ qa v
theorem shp_sub {P : Nat} {qa ia ib PM : Nat → Nat} (h : shp P qa ia ib PM) : ∀ a, a ≤ P → ∀ i, 1 ≤ i → pmb (PM a) i → i ≤ a ∧ ∀ k, pmb (PM i) k → pmb (PM a) k := by
  intro a
  induction a using Nat.strongRecOn with
  | _ a ih =>
    intro ha i hi hb
    by_cases h0 : a = 0
    · subst h0
      rw [h.1] at hb
      simp [pmb] at hb
    · obtain ⟨h1, h2, h3, h4⟩ := h.2.1 a (by omega) ha
      rw [pmb_tb, h4, Nat.testBit_or, Nat.testBit_or, Nat.one_mul, Nat.testBit_two_pow, Bool.or_eq_true, Bool.or_eq_true, decide_eq_true_eq] at hb
      rcases hb with (hb | hb) | hb
      · subst hb
        exact ⟨Nat.le_refl _, fun k hk => hk⟩
      · obtain ⟨q1, q2⟩ := ih (ia a) h1 (by omega) i hi (pmb_tb.mpr hb)
        refine ⟨by omega, fun k hk => ?_⟩
        rw [pmb_tb, h4, Nat.testBit_or, Nat.testBit_or, Bool.or_eq_true, Bool.or_eq_true]
        exact Or.inl (Or.inr (pmb_tb.mp (q2 k hk)))
      · obtain ⟨q1, q2⟩ := ih (ib a) h2 (by omega) i hi (pmb_tb.mpr hb)
        refine ⟨by omega, fun k hk => ?_⟩
        rw [pmb_tb, h4, Nat.testBit_or, Nat.testBit_or, Bool.or_eq_true, Bool.or_eq_true]
        exact Or.inr (pmb_tb.mp (q2 k hk))
theorem shp_self {P : Nat} {qa ia ib PM : Nat → Nat} (h : shp P qa ia ib PM) {u : Nat} (h1 : 1 ≤ u) (h2 : u ≤ P) : pmb (PM u) u := by
  obtain ⟨-, -, -, h4⟩ := h.2.1 u h1 h2
  rw [pmb_tb, h4, Nat.testBit_or, Nat.testBit_or, Nat.one_mul, Nat.testBit_two_pow]
  simp
theorem shp_a {P : Nat} {qa ia ib PM : Nat → Nat} (h : shp P qa ia ib PM) {u : Nat} (h1 : 1 ≤ u) (h2 : u ≤ P) (h3 : ¬ ia u = 0) : pmb (PM u) (ia u) := by
  obtain ⟨q1, -, -, h4⟩ := h.2.1 u h1 h2
  have := pmb_tb.mp (shp_self h (u := ia u) (by omega) (by omega))
  rw [pmb_tb, h4, Nat.testBit_or, Nat.testBit_or, this]
  simp
theorem shp_b {P : Nat} {qa ia ib PM : Nat → Nat} (h : shp P qa ia ib PM) {u : Nat} (h1 : 1 ≤ u) (h2 : u ≤ P) (h3 : ¬ ib u = 0) : pmb (PM u) (ib u) := by
  obtain ⟨-, q1, -, h4⟩ := h.2.1 u h1 h2
  have := pmb_tb.mp (shp_self h (u := ib u) (by omega) (by omega))
  rw [pmb_tb, h4, Nat.testBit_or, Nat.testBit_or, this]
  simp
/-- what the PATHS hold is what they held in the graph in which they were counted last -/
def cch (P Z : Nat) (KD LI : Nat → Int32) (ia ib : Nat → Nat) (lk : Nat → Int32) (CS CG : Nat → Int32) (TF : Nat → Nat → Nat) (JF : Nat → Nat → Int32) : Prop :=
  ∀ u, 1 ≤ u → u ≤ P → mB (TF u) ∧ (CS u = nI Z → TF u = (tv KD LI ia ib lk (CG u) u).1 ∧ JF u = (tv KD LI ia ib lk (CG u) u).2) ∧ (CS u = -1 ∨ ∃ c, c ≤ Z ∧ CS u = nI c)
def agr (P : Nat) (qa : Nat → Nat) (w w' : wd_M) : Prop := ∀ b, (∀ u, 1 ≤ u → u ≤ P → b < qa u ∨ qa u + 3 ≤ b) → w' b = w b
abbrev poolN (g : gX) (w : wd_M) (x P : Nat) (ps : Nat → Option Nat) (qa : Nat → Nat) (KD LI : Nat → Int32) (ia ib PM : Nat → Nat) (CS CG : Nat → Int32) (TF : Nat → Nat → Nat) (JF : Nat → Nat → Int32) : Prop := pool g w x P ps qa KD LI (fun u => oN qa (ia u)) (fun u => oN qa (ib u)) PM CS CG TF JF
/-- countParts, before number i: the parts below i are counted in gr -/
def cpI (g : gX) (w0 : wd_M) (x P : Nat) (ps : Nat → Option Nat) (qa : Nat → Nat) (KD LI : Nat → Int32) (ia ib PM : Nat → Nat) (lk : Nat → Int32) (Z : Nat) (gr : Int32) (a i : Nat) (w : wd_M) (CS CG : Nat → Int32) (TF : Nat → Nat → Nat) (JF : Nat → Nat → Int32) : Prop :=
  poolN g w x P ps qa KD LI ia ib PM CS CG TF JF ∧ cch P Z KD LI ia ib lk CS CG TF JF ∧ agr P qa w0 w ∧ ∀ u, 1 ≤ u → u < i → pmb (PM a) u → CS u = nI Z ∧ CG u = gr
theorem cp_skip {g : gX} {w0 : wd_M} {x P : Nat} {ps : Nat → Option Nat} {qa : Nat → Nat} {KD LI : Nat → Int32} {ia ib PM : Nat → Nat} {lk : Nat → Int32} {Z : Nat} {gr : Int32} {a i : Nat} {w : wd_M} {CS CG : Nat → Int32} {TF : Nat → Nat → Nat} {JF : Nat → Nat → Int32} (h : cpI g w0 x P ps qa KD LI ia ib PM lk Z gr a i w CS CG TF JF) (hb : ¬ pmb (PM a) i) : cpI g w0 x P ps qa KD LI ia ib PM lk Z gr a (i + 1) w CS CG TF JF :=
  ⟨h.1, h.2.1, h.2.2.1, fun u h1 h2 h3 => by
    by_cases e : u = i
    · subst e; exact absurd h3 hb
    · exact h.2.2.2 u h1 (by omega) h3⟩
theorem cp_same {g : gX} {w0 : wd_M} {x P : Nat} {ps : Nat → Option Nat} {qa : Nat → Nat} {KD LI : Nat → Int32} {ia ib PM : Nat → Nat} {lk : Nat → Int32} {Z : Nat} {gr : Int32} {a i : Nat} {w : wd_M} {CS CG : Nat → Int32} {TF : Nat → Nat → Nat} {JF : Nat → Nat → Int32} (h : cpI g w0 x P ps qa KD LI ia ib PM lk Z gr a i w CS CG TF JF) (h1 : CS i = nI Z) (h2 : CG i = gr) : cpI g w0 x P ps qa KD LI ia ib PM lk Z gr a (i + 1) w CS CG TF JF :=
  ⟨h.1, h.2.1, h.2.2.1, fun u h3 h4 h5 => by
    by_cases e : u = i
    · subst e; exact ⟨h1, h2⟩
    · exact h.2.2.2 u h3 (by omega) h5⟩
theorem cp_new {g : gX} {w0 : wd_M} {x P : Nat} {ps : Nat → Option Nat} {qa : Nat → Nat} {KD LI : Nat → Int32} {ia ib PM : Nat → Nat} {lk : Nat → Int32} {Z : Nat} {gr : Int32} {a i : Nat} {w : wd_M} {CS CG : Nat → Int32} {TF : Nat → Nat → Nat} {JF : Nat → Nat → Int32} (hsh : shp P qa ia ib PM) (hi1 : 1 ≤ i) (hi2 : i ≤ P) (h : cpI g w0 x P ps qa KD LI ia ib PM lk Z gr a i w CS CG TF JF) : cpI g w0 x P ps qa KD LI ia ib PM lk Z gr a (i + 1) (pW g w (qa i) (nI i) (KD i) (LI i) (oN qa (ia i)) (oN qa (ib i)) (lN (PM i)) (nI Z) gr (tN (tv KD LI ia ib lk gr i).1) (tv KD LI ia ib lk gr i).2) (va_up CS i (nI Z)) (va_up CG i gr) (va_up TF i (tv KD LI ia ib lk gr i).1) (va_up JF i (tv KD LI ia ib lk gr i).2) := by
  refine ⟨?_, ?_, ?_, ?_⟩
  · intro u h1 h2
    obtain ⟨a1, a2, a3, a4, a5, a6⟩ := h.1 u h1 h2
    unfold va_up
    by_cases e : u = i
    · subst e
      rw [if_pos rfl, if_pos rfl, if_pos rfl, if_pos rfl]
      exact ⟨a1, a2, a3, pW_0, pW_1, pW_2⟩
    · rw [if_neg e, if_neg e, if_neg e, if_neg e]
      have hq : qa u + 3 ≤ qa i ∨ qa i + 3 ≤ qa u := by
        by_cases e2 : u < i
        · exact Or.inl (hsh.2.2 u i h1 e2 hi2)
        · exact Or.inr (hsh.2.2 i u hi1 (by omega) h2)
      exact ⟨a1, a2, a3, (pW_out (by omega)).trans a4, (pW_out (by omega)).trans a5, (pW_out (by omega)).trans a6⟩
  · intro u h1 h2
    obtain ⟨a1, a2, a3⟩ := h.2.1 u h1 h2
    unfold va_up
    by_cases e : u = i
    · subst e
      rw [if_pos rfl, if_pos rfl, if_pos rfl, if_pos rfl]
      exact ⟨tv_B, fun _ => ⟨rfl, rfl⟩, Or.inr ⟨Z, Nat.le_refl _, rfl⟩⟩
    · rw [if_neg e, if_neg e, if_neg e, if_neg e]
      exact ⟨a1, a2, a3⟩
  · intro b hb
    rw [pW_out (by have := hb i hi1 hi2; omega)]
    exact h.2.2.1 b hb
  · intro u h1 h2 h3
    unfold va_up
    by_cases e : u = i
    · subst e
      rw [if_pos rfl, if_pos rfl]
      exact ⟨rfl, rfl⟩
    · rw [if_neg e, if_neg e]
      exact h.2.2.2 u h1 (by omega) h3
theorem cp_val {g : gX} {w0 : wd_M} {x P : Nat} {ps : Nat → Option Nat} {qa : Nat → Nat} {KD LI : Nat → Int32} {ia ib PM : Nat → Nat} {lk : Nat → Int32} {Z : Nat} {gr : Int32} {a i : Nat} {w : wd_M} {CS CG : Nat → Int32} {TF : Nat → Nat → Nat} {JF : Nat → Nat → Int32} (hsh : shp P qa ia ib PM) (ha : a ≤ P) (h : cpI g w0 x P ps qa KD LI ia ib PM lk Z gr a i w CS CG TF JF) {u : Nat} (h1 : 1 ≤ u) (h2 : u < i) (h3 : pmb (PM a) u) : TF u = (tv KD LI ia ib lk gr u).1 ∧ JF u = (tv KD LI ia ib lk gr u).2 := by
  obtain ⟨q1, q2⟩ := h.2.2.2 u h1 h2 h3
  obtain ⟨-, q3, -⟩ := h.2.1 u h1 (Nat.le_trans (shp_sub hsh a ha u h1 h3).1 ha)
  have := q3 q1
  rw [q2] at this
  exact this
