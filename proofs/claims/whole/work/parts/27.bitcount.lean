theorem nx_and (a b : Nat) : nI a &&& nI b = nI (a &&& b) := by
  apply Int32.toBitVec_inj.1
  show BitVec.ofNat 32 a &&& BitVec.ofNat 32 b = BitVec.ofNat 32 (a &&& b)
  apply BitVec.eq_of_getLsbD_eq
  intro i hi
  simp [hi]
/-! Integer.bitCount: the number of bits -/
theorem ld16 {d m u M : Nat} (hd : d < 16) (hu : u < 16) : (d + 16 * m) &&& (u + 16 * M) = (d &&& u) + 16 * (m &&& M) := by
  have h1 : ((d + 16 * m) &&& (u + 16 * M)) / 2 ^ 4 = (d + 16 * m) / 2 ^ 4 &&& (u + 16 * M) / 2 ^ 4 := Nat.and_div_two_pow
  have h2 : ((d + 16 * m) &&& (u + 16 * M)) % 2 ^ 4 = (d + 16 * m) % 2 ^ 4 &&& (u + 16 * M) % 2 ^ 4 := Nat.and_mod_two_pow
  rw [show (d + 16 * m) / 2 ^ 4 = m by omega, show (u + 16 * M) / 2 ^ 4 = M by omega] at h1
  rw [show (d + 16 * m) % 2 ^ 4 = d by omega, show (u + 16 * M) % 2 ^ 4 = u by omega] at h2
  generalize (d + 16 * m) &&& (u + 16 * M) = X at h1 h2 ⊢
  generalize m &&& M = Y at h1 ⊢
  generalize d &&& u = Z at h2 ⊢
  omega
def h8 (a0 a1 a2 a3 a4 a5 a6 a7 : Nat) : Nat := a0 + 16 * (a1 + 16 * (a2 + 16 * (a3 + 16 * (a4 + 16 * (a5 + 16 * (a6 + 16 * a7))))))
theorem ld8 {a0 a1 a2 a3 a4 a5 a6 a7 u0 u1 u2 u3 u4 u5 u6 u7 : Nat} (h0 : a0 < 16) (h1 : a1 < 16) (h2 : a2 < 16) (h3 : a3 < 16) (h4 : a4 < 16) (h5 : a5 < 16) (h6 : a6 < 16) (g0 : u0 < 16) (g1 : u1 < 16) (g2 : u2 < 16) (g3 : u3 < 16) (g4 : u4 < 16) (g5 : u5 < 16) (g6 : u6 < 16) :
    h8 a0 a1 a2 a3 a4 a5 a6 a7 &&& h8 u0 u1 u2 u3 u4 u5 u6 u7 = h8 (a0 &&& u0) (a1 &&& u1) (a2 &&& u2) (a3 &&& u3) (a4 &&& u4) (a5 &&& u5) (a6 &&& u6) (a7 &&& u7) := by
  unfold h8
  rw [ld16 h0 g0, ld16 h1 g1, ld16 h2 g2, ld16 h3 g3, ld16 h4 g4, ld16 h5 g5, ld16 h6 g6]
def pq (a : Nat) : Nat := a - (a / 2 &&& 5)
theorem t_h : ∀ a, a < 16 → ∀ r, r < 2 → (a / 2 + 8 * r) &&& 5 = a / 2 &&& 5 := by decide +kernel
theorem t_p : ∀ a, a < 16 → (a / 2 &&& 5) ≤ a ∧ pq a < 16 := by decide +kernel
theorem t_q : ∀ p, p < 16 → ∀ r, r < 4 → (p / 4 + 4 * r) &&& 3 = p / 4 := by decide +kernel
theorem t_r : ∀ p, p < 16 → p &&& 3 = p % 4 := by decide +kernel
def p4 (a : Nat) : Nat := (if a.testBit 0 then 1 else 0) + (if a.testBit 1 then 1 else 0) + (if a.testBit 2 then 1 else 0) + (if a.testBit 3 then 1 else 0)
theorem t_c : ∀ a, a < 16 → pq a % 4 + pq a / 4 = p4 a := by decide +kernel
theorem p4_le (a : Nat) : p4 a ≤ 4 := by
  unfold p4
  repeat' split
  all_goals omega
theorem t_f : ∀ d, d < 16 → d &&& 15 = d ∧ d &&& 0 = 0 := by decide +kernel
theorem st_1 {a0 a1 a2 a3 a4 a5 a6 a7 : Nat} (h0 : a0 < 16) (h1 : a1 < 16) (h2 : a2 < 16) (h3 : a3 < 16) (h4 : a4 < 16) (h5 : a5 < 16) (h6 : a6 < 16) (h7 : a7 < 16) :
    h8 a0 a1 a2 a3 a4 a5 a6 a7 - (h8 a0 a1 a2 a3 a4 a5 a6 a7 / 2 &&& 1431655765) = h8 (pq a0) (pq a1) (pq a2) (pq a3) (pq a4) (pq a5) (pq a6) (pq a7) ∧ (h8 a0 a1 a2 a3 a4 a5 a6 a7 / 2 &&& 1431655765) ≤ h8 a0 a1 a2 a3 a4 a5 a6 a7 := by
  have e1 : h8 a0 a1 a2 a3 a4 a5 a6 a7 / 2 = h8 (a0 / 2 + 8 * (a1 % 2)) (a1 / 2 + 8 * (a2 % 2)) (a2 / 2 + 8 * (a3 % 2)) (a3 / 2 + 8 * (a4 % 2)) (a4 / 2 + 8 * (a5 % 2)) (a5 / 2 + 8 * (a6 % 2)) (a6 / 2 + 8 * (a7 % 2)) (a7 / 2 + 8 * (0 % 2)) := by
    unfold h8
    omega
  rw [e1, show (1431655765 : Nat) = h8 5 5 5 5 5 5 5 5 from rfl, ld8 (by omega) (by omega) (by omega) (by omega) (by omega) (by omega) (by omega) (by decide) (by decide) (by decide) (by decide) (by decide) (by decide) (by decide)]
  rw [t_h a0 h0 _ (by omega), t_h a1 h1 _ (by omega), t_h a2 h2 _ (by omega), t_h a3 h3 _ (by omega), t_h a4 h4 _ (by omega), t_h a5 h5 _ (by omega), t_h a6 h6 _ (by omega), t_h a7 h7 _ (by omega)]
  have q0 := (t_p a0 h0).1
  have q1 := (t_p a1 h1).1
  have q2 := (t_p a2 h2).1
  have q3 := (t_p a3 h3).1
  have q4 := (t_p a4 h4).1
  have q5 := (t_p a5 h5).1
  have q6 := (t_p a6 h6).1
  have q7 := (t_p a7 h7).1
  unfold pq h8
  generalize a0 / 2 &&& 5 = b0 at q0 ⊢
  generalize a1 / 2 &&& 5 = b1 at q1 ⊢
  generalize a2 / 2 &&& 5 = b2 at q2 ⊢
  generalize a3 / 2 &&& 5 = b3 at q3 ⊢
  generalize a4 / 2 &&& 5 = b4 at q4 ⊢
  generalize a5 / 2 &&& 5 = b5 at q5 ⊢
  generalize a6 / 2 &&& 5 = b6 at q6 ⊢
  generalize a7 / 2 &&& 5 = b7 at q7 ⊢
  omega
theorem st_2 {p0 p1 p2 p3 p4' p5 p6 p7 : Nat} (h0 : p0 < 16) (h1 : p1 < 16) (h2 : p2 < 16) (h3 : p3 < 16) (h4 : p4' < 16) (h5 : p5 < 16) (h6 : p6 < 16) (h7 : p7 < 16) :
    (h8 p0 p1 p2 p3 p4' p5 p6 p7 &&& 858993459) + (h8 p0 p1 p2 p3 p4' p5 p6 p7 / 4 &&& 858993459) = h8 (p0 % 4 + p0 / 4) (p1 % 4 + p1 / 4) (p2 % 4 + p2 / 4) (p3 % 4 + p3 / 4) (p4' % 4 + p4' / 4) (p5 % 4 + p5 / 4) (p6 % 4 + p6 / 4) (p7 % 4 + p7 / 4) := by
  have e1 : h8 p0 p1 p2 p3 p4' p5 p6 p7 / 4 = h8 (p0 / 4 + 4 * (p1 % 4)) (p1 / 4 + 4 * (p2 % 4)) (p2 / 4 + 4 * (p3 % 4)) (p3 / 4 + 4 * (p4' % 4)) (p4' / 4 + 4 * (p5 % 4)) (p5 / 4 + 4 * (p6 % 4)) (p6 / 4 + 4 * (p7 % 4)) (p7 / 4 + 4 * (0 % 4)) := by
    unfold h8
    omega
  rw [e1, show (858993459 : Nat) = h8 3 3 3 3 3 3 3 3 from rfl, ld8 h0 h1 h2 h3 h4 h5 h6 (by decide) (by decide) (by decide) (by decide) (by decide) (by decide) (by decide), ld8 (by omega) (by omega) (by omega) (by omega) (by omega) (by omega) (by omega) (by decide) (by decide) (by decide) (by decide) (by decide) (by decide) (by decide)]
  rw [t_q p0 h0 _ (by omega), t_q p1 h1 _ (by omega), t_q p2 h2 _ (by omega), t_q p3 h3 _ (by omega), t_q p4' h4 _ (by omega), t_q p5 h5 _ (by omega), t_q p6 h6 _ (by omega), t_q p7 h7 _ (by omega)]
  rw [t_r p0 h0, t_r p1 h1, t_r p2 h2, t_r p3 h3, t_r p4' h4, t_r p5 h5, t_r p6 h6, t_r p7 h7]
  unfold h8
  omega
theorem st_3 {c0 c1 c2 c3 c4 c5 c6 c7 : Nat} (h0 : c0 ≤ 4) (h1 : c1 ≤ 4) (h2 : c2 ≤ 4) (h3 : c3 ≤ 4) (h4 : c4 ≤ 4) (h5 : c5 ≤ 4) (h6 : c6 ≤ 4) (h7 : c7 ≤ 4) :
    (h8 c0 c1 c2 c3 c4 c5 c6 c7 + h8 c0 c1 c2 c3 c4 c5 c6 c7 / 16) &&& 252645135 = h8 (c0 + c1) 0 (c2 + c3) 0 (c4 + c5) 0 (c6 + c7) 0 := by
  have e1 : h8 c0 c1 c2 c3 c4 c5 c6 c7 + h8 c0 c1 c2 c3 c4 c5 c6 c7 / 16 = h8 (c0 + c1) (c1 + c2) (c2 + c3) (c3 + c4) (c4 + c5) (c5 + c6) (c6 + c7) c7 := by
    unfold h8
    omega
  rw [e1, show (252645135 : Nat) = h8 15 0 15 0 15 0 15 0 from rfl, ld8 (by omega) (by omega) (by omega) (by omega) (by omega) (by omega) (by omega) (by decide) (by decide) (by decide) (by decide) (by decide) (by decide) (by decide)]
  rw [(t_f (c0 + c1) (by omega)).1, (t_f (c1 + c2) (by omega)).2, (t_f (c2 + c3) (by omega)).1, (t_f (c3 + c4) (by omega)).2, (t_f (c4 + c5) (by omega)).1, (t_f (c5 + c6) (by omega)).2, (t_f (c6 + c7) (by omega)).1, (t_f c7 (by omega)).2]
def bN1 (n : Nat) : Nat := n - (n / 2 &&& 1431655765)
def bN2 (x : Nat) : Nat := (x &&& 858993459) + (x / 4 &&& 858993459)
def bN3 (x : Nat) : Nat := (x + x / 16) &&& 252645135
def bN5 (x : Nat) : Nat := ((x + x / 256) + (x + x / 256) / 65536) % 64
def bc1 (v : Int32) : Int32 := v - (ush v 1 &&& 1431655765)
def bc2 (v : Int32) : Int32 := (v &&& 858993459) + (ush v 2 &&& 858993459)
def bc3 (v : Int32) : Int32 := (v + ush v 4) &&& 252645135
def bc4 (v : Int32) : Int32 := v + ush v 8
def bc5 (v : Int32) : Int32 := v + ush v 16
def bcF (v : Int32) : Int32 := bc5 (bc4 (bc3 (bc2 (bc1 v)))) &&& nI 63
theorem us_n {n k : Nat} (h : n < 2 ^ 32) (hk : k < 32) : ush (nI n) k = nI (n / 2 ^ k) := pk_ushrN h (nI k) k (s_u k hk)
theorem bcF_8 {a0 a1 a2 a3 a4 a5 a6 a7 : Nat} (h0 : a0 < 16) (h1 : a1 < 16) (h2 : a2 < 16) (h3 : a3 < 16) (h4 : a4 < 16) (h5 : a5 < 16) (h6 : a6 < 16) (h7 : a7 < 16) :
    bcF (nI (h8 a0 a1 a2 a3 a4 a5 a6 a7)) = nI (p4 a0 + p4 a1 + p4 a2 + p4 a3 + p4 a4 + p4 a5 + p4 a6 + p4 a7) := by
  have b0 : h8 a0 a1 a2 a3 a4 a5 a6 a7 < 2 ^ 32 := by unfold h8; omega
  have s1 := st_1 h0 h1 h2 h3 h4 h5 h6 h7
  have g0 := (t_p a0 h0).2
  have g1 := (t_p a1 h1).2
  have g2 := (t_p a2 h2).2
  have g3 := (t_p a3 h3).2
  have g4 := (t_p a4 h4).2
  have g5 := (t_p a5 h5).2
  have g6 := (t_p a6 h6).2
  have g7 := (t_p a7 h7).2
  have e1 : bc1 (nI (h8 a0 a1 a2 a3 a4 a5 a6 a7)) = nI (h8 (pq a0) (pq a1) (pq a2) (pq a3) (pq a4) (pq a5) (pq a6) (pq a7)) := by
    rw [bc1, us_n b0 (by decide), show (1431655765 : Int32) = nI 1431655765 from rfl, nx_and, show (2 : Nat) ^ 1 = 2 from rfl, pk_sub s1.2, s1.1]
  have b1 : h8 (pq a0) (pq a1) (pq a2) (pq a3) (pq a4) (pq a5) (pq a6) (pq a7) < 2 ^ 32 := by unfold h8; omega
  have s2 := st_2 g0 g1 g2 g3 g4 g5 g6 g7
  rw [t_c a0 h0, t_c a1 h1, t_c a2 h2, t_c a3 h3, t_c a4 h4, t_c a5 h5, t_c a6 h6, t_c a7 h7] at s2
  have e2 : bc2 (nI (h8 (pq a0) (pq a1) (pq a2) (pq a3) (pq a4) (pq a5) (pq a6) (pq a7))) = nI (h8 (p4 a0) (p4 a1) (p4 a2) (p4 a3) (p4 a4) (p4 a5) (p4 a6) (p4 a7)) := by
    rw [bc2, us_n b1 (by decide), show (858993459 : Int32) = nI 858993459 from rfl, nx_and, nx_and, nI_add, show (2 : Nat) ^ 2 = 4 from rfl, s2]
  have q0 := p4_le a0
  have q1 := p4_le a1
  have q2 := p4_le a2
  have q3 := p4_le a3
  have q4 := p4_le a4
  have q5 := p4_le a5
  have q6 := p4_le a6
  have q7 := p4_le a7
  rw [bcF, e1, e2]
  clear e1 e2 s1 s2 b0 b1 g0 g1 g2 g3 g4 g5 g6 g7 h0 h1 h2 h3 h4 h5 h6 h7
  generalize p4 a0 = c0 at q0 ⊢
  generalize p4 a1 = c1 at q1 ⊢
  generalize p4 a2 = c2 at q2 ⊢
  generalize p4 a3 = c3 at q3 ⊢
  generalize p4 a4 = c4 at q4 ⊢
  generalize p4 a5 = c5 at q5 ⊢
  generalize p4 a6 = c6 at q6 ⊢
  generalize p4 a7 = c7 at q7 ⊢
  have b2 : h8 c0 c1 c2 c3 c4 c5 c6 c7 < 2 ^ 32 := by unfold h8; omega
  have e3 : bc3 (nI (h8 c0 c1 c2 c3 c4 c5 c6 c7)) = nI (h8 (c0 + c1) 0 (c2 + c3) 0 (c4 + c5) 0 (c6 + c7) 0) := by
    rw [bc3, us_n b2 (by decide), show (252645135 : Int32) = nI 252645135 from rfl, nI_add, nx_and, show (2 : Nat) ^ 4 = 16 from rfl, st_3 q0 q1 q2 q3 q4 q5 q6 q7]
  rw [e3]
  have b3 : h8 (c0 + c1) 0 (c2 + c3) 0 (c4 + c5) 0 (c6 + c7) 0 < 2 ^ 30 := by unfold h8; omega
  rw [bc4, us_n (by omega) (by decide), nI_add, bc5, us_n (by omega) (by decide), nI_add, pk_andN (by omega) 6 (by decide)]
  congr 1
  simp only [Nat.reducePow]
  have r0 : h8 (c0 + c1) 0 (c2 + c3) 0 (c4 + c5) 0 (c6 + c7) 0 = (c0 + c1) + 256 * ((c2 + c3) + 256 * ((c4 + c5) + 256 * (c6 + c7))) := by unfold h8; omega
  rw [r0]
  obtain ⟨f0, hf0⟩ : ∃ f, f = c0 + c1 := ⟨_, rfl⟩
  obtain ⟨f1, hf1⟩ : ∃ f, f = c2 + c3 := ⟨_, rfl⟩
  obtain ⟨f2, hf2⟩ : ∃ f, f = c4 + c5 := ⟨_, rfl⟩
  obtain ⟨f3, hf3⟩ : ∃ f, f = c6 + c7 := ⟨_, rfl⟩
  rw [← hf0, ← hf1, ← hf2, ← hf3]
  rw [show f0 + c2 + c3 + c4 + c5 + c6 + c7 = f0 + f1 + f2 + f3 by omega]
  have k0 : f0 ≤ 8 := by omega
  have k1 : f1 ≤ 8 := by omega
  have k2 : f2 ≤ 8 := by omega
  have k3 : f3 ≤ 8 := by omega
  clear hf0 hf1 hf2 hf3 r0 b2 b3 e3 q0 q1 q2 q3 q4 q5 q6 q7
  rw [show (f0 + 256 * (f1 + 256 * (f2 + 256 * f3))) / 256 = f1 + 256 * (f2 + 256 * f3) by omega]
  rw [show f0 + 256 * (f1 + 256 * (f2 + 256 * f3)) + (f1 + 256 * (f2 + 256 * f3)) = (f0 + f1 + 256 * (f1 + f2)) + 65536 * (f2 + f3 + 256 * f3) by omega]
  rw [show (f0 + f1 + 256 * (f1 + f2) + 65536 * (f2 + f3 + 256 * f3)) / 65536 = f2 + f3 + 256 * f3 by omega]
  rw [show f0 + f1 + 256 * (f1 + f2) + 65536 * (f2 + f3 + 256 * f3) + (f2 + f3 + 256 * f3) = (f0 + f1 + f2 + f3) + 64 * (4 * (f1 + f2) + 1024 * (f2 + f3 + 256 * f3) + 4 * f3) by omega]
  omega
def pcb (f : Nat → Bool) : Nat → Nat
  | 0 => 0
  | k + 1 => pcb f k + (if f k = true then 1 else 0)
theorem pcb_le (f : Nat → Bool) : ∀ k, pcb f k ≤ k := by
  intro k
  induction k with
  | zero => exact Nat.le_refl _
  | succ k ih => rw [pcb]; split <;> omega
theorem bt_n {n i : Nat} (hi : i < 32) : bt (nI n) i = n.testBit i := by
  unfold bt
  show (BitVec.ofNat 32 n).getLsbD i = _
  rw [BitVec.getLsbD_ofNat]
  simp [hi]
theorem tb_d (n k i : Nat) (hi : i < 4) : (n / 2 ^ (4 * k) % 16).testBit i = n.testBit (4 * k + i) := by
  rw [show (16 : Nat) = 2 ^ 4 from rfl, Nat.testBit_mod_two_pow, Nat.testBit_div_two_pow]
  simp [hi, Nat.add_comm]
theorem p4_d (n k : Nat) : p4 (n / 2 ^ (4 * k) % 16) = (if n.testBit (4 * k) then 1 else 0) + (if n.testBit (4 * k + 1) then 1 else 0) + (if n.testBit (4 * k + 2) then 1 else 0) + (if n.testBit (4 * k + 3) then 1 else 0) := by
  unfold p4
  rw [tb_d n k 0 (by decide), tb_d n k 1 (by decide), tb_d n k 2 (by decide), tb_d n k 3 (by decide), Nat.add_zero]
theorem h8_d {n : Nat} (h : n < 2 ^ 32) : n = h8 (n / 2 ^ (4 * 0) % 16) (n / 2 ^ (4 * 1) % 16) (n / 2 ^ (4 * 2) % 16) (n / 2 ^ (4 * 3) % 16) (n / 2 ^ (4 * 4) % 16) (n / 2 ^ (4 * 5) % 16) (n / 2 ^ (4 * 6) % 16) (n / 2 ^ (4 * 7) % 16) := by
  unfold h8
  simp only [Nat.reduceMul, Nat.reducePow]
  omega
/-- Integer.bitCount counts the bits -/
theorem bcF_pop (v : Int32) : bcF v = nI (pcb (bt v) 32) := by
  obtain ⟨n, hn, rfl⟩ := wb_of32 v
  have e1 : pcb (bt (nI n)) 32 = p4 (n / 2 ^ (4 * 0) % 16) + p4 (n / 2 ^ (4 * 1) % 16) + p4 (n / 2 ^ (4 * 2) % 16) + p4 (n / 2 ^ (4 * 3) % 16) + p4 (n / 2 ^ (4 * 4) % 16) + p4 (n / 2 ^ (4 * 5) % 16) + p4 (n / 2 ^ (4 * 6) % 16) + p4 (n / 2 ^ (4 * 7) % 16) := by
    have e2 : ∀ k, k ≤ 32 → pcb (bt (nI n)) k = pcb (fun i => n.testBit i) k := by
      intro k
      induction k with
      | zero => intro _; rfl
      | succ k ih => intro hk; rw [pcb, pcb, ih (by omega), bt_n (by omega)]
    rw [e2 32 (Nat.le_refl _)]
    have e3 : ∀ (f : Nat → Bool) (k : Nat), pcb f (k + 4) = pcb f k + ((if f k = true then 1 else 0) + (if f (k + 1) = true then 1 else 0) + (if f (k + 2) = true then 1 else 0) + (if f (k + 3) = true then 1 else 0)) := by
      intro f k
      rw [pcb, pcb, pcb, pcb]
      omega
    rw [p4_d n 0, p4_d n 1, p4_d n 2, p4_d n 3, p4_d n 4, p4_d n 5, p4_d n 6, p4_d n 7]
    rw [show (32 : Nat) = 28 + 4 from rfl, e3, show (28 : Nat) = 24 + 4 from rfl, e3, show (24 : Nat) = 20 + 4 from rfl, e3, show (20 : Nat) = 16 + 4 from rfl, e3, show (16 : Nat) = 12 + 4 from rfl, e3, show (12 : Nat) = 8 + 4 from rfl, e3, show (8 : Nat) = 4 + 4 from rfl, e3, show (4 : Nat) = 0 + 4 from rfl, e3, pcb]
    simp only [Nat.reduceMul, Nat.reduceAdd, Nat.zero_add, Nat.add_assoc]
  rw [e1]
  conv => lhs; rw [h8_d hn]
  exact bcF_8 (Nat.mod_lt _ (by decide)) (Nat.mod_lt _ (by decide)) (Nat.mod_lt _ (by decide)) (Nat.mod_lt _ (by decide)) (Nat.mod_lt _ (by decide)) (Nat.mod_lt _ (by decide)) (Nat.mod_lt _ (by decide)) (Nat.mod_lt _ (by decide))

