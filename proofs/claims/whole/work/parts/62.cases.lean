/-! THE LAW: its cases; printed by wip/m62.py -/
def R_law : String := "PathStepsLaw"
def lw_P (b : Addr) (xs : List Int32) (args : Array Value) (s : State) : Prop := args = #[.ref b] ∧ s.IntsAt b xs ∧ xs.length ≤ 2048 ∧ (Jvm.Cond.and given_1 narrow_1).before args s = true
def lw_Q (_ : Array Value) (s : State) (o : Outcome) (t : State) : Prop := o = .returned (some (.int 1)) ∧ Framed s o t [] 601024 7293034
def lw_Z (below : List Frame) (a : Array Value) (s : State) : State → Prop := fun t => ∃ o, t.status = .running ∧ Ended t below o ∧ lw_Q a s o t
/-- the law's own end, with 1 on the stack, nothing written that was there before, its room as the claim has it -/
theorem lw_ret {p : Program} {l : Launch} {e : Env} {s : State} {m : MethodId} {below : List Frame} {meth : Method} {c : Code} {b : Nat} (hx : p.tables.exec = Jvm.exec) (hb : c.code = code) (hr : meth.sig.returnType = ret) (hlocks : meth.locks = false) {pc : Nat} {H : Heap} {ls : Array Slot} (hdg : decode code pc = .ok (.ireturn, 1)) : W p l e room_1 s m #[Value.ref b] below meth c H [] 601024 7293034 (lw_Z below #[Value.ref b] s) (F0 m pc ls [.int 1]) := by
  intro T hT X
  obtain ⟨fs, hret, hrun, hended, hW, hframe⟩ := X.leave (v := some (.int 1)) (hlocks := hlocks) (fun h => by rw [hr] at h; cases h)
  have hmeth' : T.vm.method? m = some meth := X.method'
  refine ⟨T.setFrames fs, ?_, .returned (some (.int 1)), hrun, hended, rfl, ⟨_, rfl⟩, hW, hframe⟩
  jvm_step X.here [X.here.top, hx, hb, hdg, hmeth', hr, ret, narrow_b1]
  (try refine ⟨rfl, ?_⟩); (try refine ⟨rfl, ?_⟩)
  first | (intro acts; rw [hret _ acts rfl rfl rfl]) | rw [hret _ _ rfl rfl rfl]
  exact Steps.refl _
/-- what holds at the law's entry: the machine, the code, the tables' words (any of lw_tbl by 'hts w (by decide +kernel)'), the script of L ints xs at the cell b, what the Statement gives of the start (any of its parts by flat_of_before) -/
def lw_At (p : Program) (s : State) (m : MethodId) (meth : Method) (c : Code) (b L : Nat) (xs : Nat → Int32) : Prop :=
  p.tables.exec = Jvm.exec ∧ c.code = code ∧ meth.sig.returnType = ret ∧ c.maxLocals = 7 ∧ s.vm.findClass R_law = some m.cls ∧ (∀ w ∈ lw_tbl, w.before #[Value.ref b] s = true) ∧ va_X b L xs s s.heap ∧ b < s.heap.size ∧ meth.locks = false ∧ (Jvm.Cond.and given_1 narrow_1).before #[Value.ref b] s = true
set_option maxHeartbeats 4000000 in
set_option maxRecDepth 100000 in
theorem law_triple {p : Program} {l : Launch} {e : Env} {s : State} {m : MethodId} {below : List Frame} {meth : Method} {c : Code} {b L : Nat} {xs : Nat → Int32} (C0 : lw_At p s m meth c b L xs) {g : gX} (hK : gK g s) {x : Nat} (hs : s.heap.size ≤ x) {k : Nat} (hk : 4 * k + 4 ≤ L) (hL : L ≤ 2048) {w : wd_M} {σ : St} (hI : IV g x w σ) {H : Heap} {locs : List Loc} {ls : Array Slot} (hP : gP g w H) (hS : gS s.heap.size s.heap H locs) (hl : lv_has ls 7 [(0, .ref b), (1, .ref x), (2, .ref (x + 9)), (3, .ref (x + 24)), (4, .int (nI (4 * k)))]) (nx : ∀ (w : wd_M) (σ : St) (H : Heap) (locs : List Loc) (ls : Array Slot), IV g x w σ → gP g w H → gS s.heap.size s.heap H locs → lv_has ls 7 [(0, .ref b), (1, .ref x), (2, .ref (x + 9)), (3, .ref (x + 24)), (4, .int (nI (4 * k)))] → W p l e room_1 s m #[Value.ref b] below meth c H locs (25 + 3 * (k + 1)) (55827 + 1066 * (k + 1)) (lw_Z below #[Value.ref b] s) (F0 m 522 ls [])) : W p l e room_1 s m #[Value.ref b] below meth c H locs (25 + 3 * k) (55827 + 1066 * k) (lw_Z below #[Value.ref b] s) (F0 m 96 ls []) := by
  obtain ⟨hx, hb, hr, hml, hown, hts0, hX, hbl, hlocks, hgv⟩ := C0
  have hts : ∀ w ∈ tg, w.before #[Value.ref b] s = true := fun w h => hts0 w (tg_in w h)
  have hown : s.vm.findClass RL = some m.cls := hown
  have hb : c.code = cL_law := hb
  have hbA : ¬ (fun q : Nat => s.heap.size ≤ q) b := Nat.not_le.mpr hbl
  refine lv_aload_n hx hb dL_law_96 rfl (lv_at hl 1 rfl) ?_
  refine lv_aload_n hx hb dL_law_97 rfl (lv_at hl 0 rfl) ?_
  refine lv_iload hx hb dL_law_98 (lv_at hl 4 rfl) ?_
  refine lv_iconst (v := nI 1) hx hb dL_law_100 (by decide) ?_
  refine lv_iadd hx hb dL_law_101 ?_
  refine wd_ti (x' := nI (4 * k + 1)) (nI_add _ _) ?_
  refine va_sld hx hb hX hbl hbA hS (vp_in_nI (by omega) (by omega)) dL_law_102 ?_
  refine lv_aload_n hx hb dL_law_103 rfl (lv_at hl 0 rfl) ?_
  refine lv_iload hx hb dL_law_104 (lv_at hl 4 rfl) ?_
  refine lv_iconst (v := nI 2) hx hb dL_law_106 (by decide) ?_
  refine lv_iadd hx hb dL_law_107 ?_
  refine wd_ti (x' := nI (4 * k + 2)) (nI_add _ _) ?_
  refine va_sld hx hb hX hbl hbA hS (vp_in_nI (by omega) (by omega)) dL_law_108 ?_
  refine lv_aload_n hx hb dL_law_109 rfl (lv_at hl 0 rfl) ?_
  refine lv_iload hx hb dL_law_110 (lv_at hl 4 rfl) ?_
  refine lv_iconst (v := nI 3) hx hb dL_law_112 (by decide) ?_
  refine lv_iadd hx hb dL_law_113 ?_
  refine wd_ti (x' := nI (4 * k + 3)) (nI_add _ _) ?_
  refine va_sld hx hb hX hbl hbA hS (vp_in_nI (by omega) (by omega)) dL_law_114 ?_
  refine cr_Vi (As := [.int (xs (nI (4 * k + 1)).toNatClampNeg), .int (xs (nI (4 * k + 2)).toNatClampNeg), .int (xs (nI (4 * k + 3)).toNatClampNeg)]) (rest := []) ⟨hx, hb, hml, hown, hts⟩ (k3_triple l g s.heap.size w x hs σ hI.ht (xs (nI (4 * k + 1)).toNatClampNeg) (xs (nI (4 * k + 2)).toNatClampNeg) (xs (nI (4 * k + 3)).toNatClampNeg)) (cw_V 3 hts (fun _ h => h) tw_88 tw_89 tw_90 tw_1 tw_91 rfl rfl (by decide +kernel) ⟨by decide +kernel, by decide +kernel⟩) hK ((congrArg (fun v => gP g v H) hI.c.cx).mpr hP) (Nat.le_refl _) hS (xW_0) rfl rfl rfl hl.1 rfl (Nat.le_of_ble_eq_true rfl) dL_law_115 ⟨show 25 + 3 * k + 0 ≤ 601024 by omega, show 55827 + 1066 * k + 0 ≤ 7293034 by omega⟩ (fun r1 w1 H locs hw1 hP hS => ?_)
  obtain ⟨hm1, hst⟩ := st_triple hI hw1
  refine lv_aload_n hx hb dL_law_118 rfl (lv_at hl 2 rfl) ?_
  refine lv_aload_n hx hb dL_law_119 rfl (lv_at hl 0 rfl) ?_
  refine lv_iload hx hb dL_law_120 (lv_at hl 4 rfl) ?_
  refine lv_iconst (v := nI 1) hx hb dL_law_122 (by decide) ?_
  refine lv_iadd hx hb dL_law_123 ?_
  refine wd_ti (x' := nI (4 * k + 1)) (nI_add _ _) ?_
  refine va_sld hx hb hX hbl hbA hS (vp_in_nI (by omega) (by omega)) dL_law_124 ?_
  refine lv_aload_n hx hb dL_law_125 rfl (lv_at hl 0 rfl) ?_
  refine lv_iload hx hb dL_law_126 (lv_at hl 4 rfl) ?_
  refine lv_iconst (v := nI 2) hx hb dL_law_128 (by decide) ?_
  refine lv_iadd hx hb dL_law_129 ?_
  refine wd_ti (x' := nI (4 * k + 2)) (nI_add _ _) ?_
  refine va_sld hx hb hX hbl hbA hS (vp_in_nI (by omega) (by omega)) dL_law_130 ?_
  refine lv_aload_n hx hb dL_law_131 rfl (lv_at hl 0 rfl) ?_
  refine lv_iload hx hb dL_law_132 (lv_at hl 4 rfl) ?_
  refine lv_iconst (v := nI 3) hx hb dL_law_134 (by decide) ?_
  refine lv_iadd hx hb dL_law_135 ?_
  refine wd_ti (x' := nI (4 * k + 3)) (nI_add _ _) ?_
  refine va_sld hx hb hX hbl hbA hS (vp_in_nI (by omega) (by omega)) dL_law_136 ?_
  refine cr_Vi (As := [.int (xs (nI (4 * k + 1)).toNatClampNeg), .int (xs (nI (4 * k + 2)).toNatClampNeg), .int (xs (nI (4 * k + 3)).toNatClampNeg)]) (rest := [.int r1]) ⟨hx, hb, hml, hown, hts⟩ (k4_triple l g s.heap.size w1 x hs σ hI.ht (xs (nI (4 * k + 1)).toNatClampNeg) (xs (nI (4 * k + 2)).toNatClampNeg) (xs (nI (4 * k + 3)).toNatClampNeg)) (cw_V 3 hts (fun _ h => h) tw_492 tw_493 tw_494 tw_4 tw_495 rfl rfl (by decide +kernel) ⟨by decide +kernel, by decide +kernel⟩) hK ((congrArg (fun v => gP g v H) hm1).mpr hP) (Nat.le_refl _) hS (mW_0) rfl rfl rfl hl.1 rfl (Nat.le_of_ble_eq_true rfl) dL_law_137 ⟨show 25 + 3 * k + 0 + 0 ≤ 601024 by omega, show 55827 + 1066 * k + 0 + 0 ≤ 7293034 by omega⟩ (fun r2 w2 H locs hw2 hP hS => ?_)
  obtain ⟨er, σ', hI'⟩ := hst r2 w2 hw2
  refine lv_icmp_eq (tgt := 522) hx hb dL_law_140 (by decide) (fun c1 => ?_) (fun c1 => ?_)
  · refine W.widen (k := 25 + 3 * (k + 1)) (n := 55827 + 1066 * (k + 1)) (by omega) (by omega) ?_
    exact nx w2 σ' H locs ls hI' hP hS hl
  · exact absurd er c1
set_option maxHeartbeats 4000000 in
set_option maxRecDepth 100000 in
theorem law_path {p : Program} {l : Launch} {e : Env} {s : State} {m : MethodId} {below : List Frame} {meth : Method} {c : Code} {b L : Nat} {xs : Nat → Int32} (C0 : lw_At p s m meth c b L xs) {g : gX} (hK : gK g s) {x : Nat} (hs : s.heap.size ≤ x) {k : Nat} (hk : 4 * k + 4 ≤ L) (hL : L ≤ 2048) {w : wd_M} {σ : St} (hI : IV g x w σ) {H : Heap} {locs : List Loc} {ls : Array Slot} (hP : gP g w H) (hS : gS s.heap.size s.heap H locs) (hl : lv_has ls 7 [(0, .ref b), (1, .ref x), (2, .ref (x + 9)), (3, .ref (x + 24)), (4, .int (nI (4 * k)))]) (nx : ∀ (w : wd_M) (σ : St) (H : Heap) (locs : List Loc) (ls : Array Slot), IV g x w σ → gP g w H → gS s.heap.size s.heap H locs → lv_has ls 7 [(0, .ref b), (1, .ref x), (2, .ref (x + 9)), (3, .ref (x + 24)), (4, .int (nI (4 * k)))] → W p l e room_1 s m #[Value.ref b] below meth c H locs (25 + 3 * (k + 1)) (55827 + 1066 * (k + 1)) (lw_Z below #[Value.ref b] s) (F0 m 522 ls [])) : W p l e room_1 s m #[Value.ref b] below meth c H locs (25 + 3 * k) (55827 + 1066 * k) (lw_Z below #[Value.ref b] s) (F0 m 145 ls []) := by
  obtain ⟨hx, hb, hr, hml, hown, hts0, hX, hbl, hlocks, hgv⟩ := C0
  have hts : ∀ w ∈ tg, w.before #[Value.ref b] s = true := fun w h => hts0 w (tg_in w h)
  have hown : s.vm.findClass RL = some m.cls := hown
  have hb : c.code = cL_law := hb
  have hbA : ¬ (fun q : Nat => s.heap.size ≤ q) b := Nat.not_le.mpr hbl
  refine lv_aload_n hx hb dL_law_145 rfl (lv_at hl 1 rfl) ?_
  refine lv_aload_n hx hb dL_law_146 rfl (lv_at hl 0 rfl) ?_
  refine lv_iload hx hb dL_law_147 (lv_at hl 4 rfl) ?_
  refine lv_iconst (v := nI 1) hx hb dL_law_149 (by decide) ?_
  refine lv_iadd hx hb dL_law_150 ?_
  refine wd_ti (x' := nI (4 * k + 1)) (nI_add _ _) ?_
  refine va_sld hx hb hX hbl hbA hS (vp_in_nI (by omega) (by omega)) dL_law_151 ?_
  refine lv_aload_n hx hb dL_law_152 rfl (lv_at hl 0 rfl) ?_
  refine lv_iload hx hb dL_law_153 (lv_at hl 4 rfl) ?_
  refine lv_iconst (v := nI 2) hx hb dL_law_155 (by decide) ?_
  refine lv_iadd hx hb dL_law_156 ?_
  refine wd_ti (x' := nI (4 * k + 2)) (nI_add _ _) ?_
  refine va_sld hx hb hX hbl hbA hS (vp_in_nI (by omega) (by omega)) dL_law_157 ?_
  refine lv_aload_n hx hb dL_law_158 rfl (lv_at hl 0 rfl) ?_
  refine lv_iload hx hb dL_law_159 (lv_at hl 4 rfl) ?_
  refine lv_iconst (v := nI 3) hx hb dL_law_161 (by decide) ?_
  refine lv_iadd hx hb dL_law_162 ?_
  refine wd_ti (x' := nI (4 * k + 3)) (nI_add _ _) ?_
  refine va_sld hx hb hX hbl hbA hS (vp_in_nI (by omega) (by omega)) dL_law_163 ?_
  refine cr_Vi (As := [.int (xs (nI (4 * k + 1)).toNatClampNeg), .int (xs (nI (4 * k + 2)).toNatClampNeg), .int (xs (nI (4 * k + 3)).toNatClampNeg)]) (rest := []) ⟨hx, hb, hml, hown, hts⟩ (k3_path l g s.heap.size w x hs σ hI.ht (xs (nI (4 * k + 1)).toNatClampNeg) (xs (nI (4 * k + 2)).toNatClampNeg) (xs (nI (4 * k + 3)).toNatClampNeg)) (cw_V 3 hts (fun _ h => h) tw_109 tw_110 tw_111 tw_1 tw_112 rfl rfl (by decide +kernel) ⟨by decide +kernel, by decide +kernel⟩) hK ((congrArg (fun v => gP g v H) hI.c.cx).mpr hP) (Nat.le_refl _) hS (xW_0) rfl rfl rfl hl.1 rfl (Nat.le_of_ble_eq_true rfl) dL_law_164 ⟨show 25 + 3 * k + 3 ≤ 601024 by omega, show 55827 + 1066 * k + 1066 ≤ 7293034 by omega⟩ (fun r1 w1 H locs hw1 hP hS => ?_)
  obtain ⟨hm1, hst⟩ := st_path hI hw1
  refine lv_aload_n hx hb dL_law_167 rfl (lv_at hl 2 rfl) ?_
  refine lv_aload_n hx hb dL_law_168 rfl (lv_at hl 0 rfl) ?_
  refine lv_iload hx hb dL_law_169 (lv_at hl 4 rfl) ?_
  refine lv_iconst (v := nI 1) hx hb dL_law_171 (by decide) ?_
  refine lv_iadd hx hb dL_law_172 ?_
  refine wd_ti (x' := nI (4 * k + 1)) (nI_add _ _) ?_
  refine va_sld hx hb hX hbl hbA hS (vp_in_nI (by omega) (by omega)) dL_law_173 ?_
  refine lv_aload_n hx hb dL_law_174 rfl (lv_at hl 0 rfl) ?_
  refine lv_iload hx hb dL_law_175 (lv_at hl 4 rfl) ?_
  refine lv_iconst (v := nI 2) hx hb dL_law_177 (by decide) ?_
  refine lv_iadd hx hb dL_law_178 ?_
  refine wd_ti (x' := nI (4 * k + 2)) (nI_add _ _) ?_
  refine va_sld hx hb hX hbl hbA hS (vp_in_nI (by omega) (by omega)) dL_law_179 ?_
  refine lv_aload_n hx hb dL_law_180 rfl (lv_at hl 0 rfl) ?_
  refine lv_iload hx hb dL_law_181 (lv_at hl 4 rfl) ?_
  refine lv_iconst (v := nI 3) hx hb dL_law_183 (by decide) ?_
  refine lv_iadd hx hb dL_law_184 ?_
  refine wd_ti (x' := nI (4 * k + 3)) (nI_add _ _) ?_
  refine va_sld hx hb hX hbl hbA hS (vp_in_nI (by omega) (by omega)) dL_law_185 ?_
  refine cr_Vi (As := [.int (xs (nI (4 * k + 1)).toNatClampNeg), .int (xs (nI (4 * k + 2)).toNatClampNeg), .int (xs (nI (4 * k + 3)).toNatClampNeg)]) (rest := [.int r1]) ⟨hx, hb, hml, hown, hts⟩ (k4_path l g s.heap.size w1 x hs σ hI.ht (xs (nI (4 * k + 1)).toNatClampNeg) (xs (nI (4 * k + 2)).toNatClampNeg) (xs (nI (4 * k + 3)).toNatClampNeg)) (cw_V 3 hts (fun _ h => h) tw_502 tw_503 tw_504 tw_4 tw_505 rfl rfl (by decide +kernel) ⟨by decide +kernel, by decide +kernel⟩) hK ((congrArg (fun v => gP g v H) hm1).mpr hP) (Nat.le_refl _) hS (mW_0) rfl rfl rfl hl.1 rfl (Nat.le_of_ble_eq_true rfl) dL_law_186 ⟨show 25 + 3 * k + 3 + 0 ≤ 601024 by omega, show 55827 + 1066 * k + 1066 + 0 ≤ 7293034 by omega⟩ (fun r2 w2 H locs hw2 hP hS => ?_)
  obtain ⟨er, σ', hI'⟩ := hst r2 w2 hw2
  refine lv_icmp_eq (tgt := 522) hx hb dL_law_189 (by decide) (fun c1 => ?_) (fun c1 => ?_)
  · refine W.widen (k := 25 + 3 * (k + 1)) (n := 55827 + 1066 * (k + 1)) (by omega) (by omega) ?_
    exact nx w2 σ' H locs ls hI' hP hS hl
  · exact absurd er c1
set_option maxHeartbeats 4000000 in
set_option maxRecDepth 100000 in
theorem law_from {p : Program} {l : Launch} {e : Env} {s : State} {m : MethodId} {below : List Frame} {meth : Method} {c : Code} {b L : Nat} {xs : Nat → Int32} (C0 : lw_At p s m meth c b L xs) {g : gX} (hK : gK g s) {x : Nat} (hs : s.heap.size ≤ x) {k : Nat} (hk : 4 * k + 4 ≤ L) (hL : L ≤ 2048) {w : wd_M} {σ : St} (hI : IV g x w σ) {H : Heap} {locs : List Loc} {ls : Array Slot} (hP : gP g w H) (hS : gS s.heap.size s.heap H locs) (hl : lv_has ls 7 [(0, .ref b), (1, .ref x), (2, .ref (x + 9)), (3, .ref (x + 24)), (4, .int (nI (4 * k)))]) (nx : ∀ (w : wd_M) (σ : St) (H : Heap) (locs : List Loc) (ls : Array Slot), IV g x w σ → gP g w H → gS s.heap.size s.heap H locs → lv_has ls 7 [(0, .ref b), (1, .ref x), (2, .ref (x + 9)), (3, .ref (x + 24)), (4, .int (nI (4 * k)))] → W p l e room_1 s m #[Value.ref b] below meth c H locs (25 + 3 * (k + 1)) (55827 + 1066 * (k + 1)) (lw_Z below #[Value.ref b] s) (F0 m 522 ls [])) : W p l e room_1 s m #[Value.ref b] below meth c H locs (25 + 3 * k) (55827 + 1066 * k) (lw_Z below #[Value.ref b] s) (F0 m 194 ls []) := by
  obtain ⟨hx, hb, hr, hml, hown, hts0, hX, hbl, hlocks, hgv⟩ := C0
  have hts : ∀ w ∈ tg, w.before #[Value.ref b] s = true := fun w h => hts0 w (tg_in w h)
  have hown : s.vm.findClass RL = some m.cls := hown
  have hb : c.code = cL_law := hb
  have hbA : ¬ (fun q : Nat => s.heap.size ≤ q) b := Nat.not_le.mpr hbl
  refine lv_aload_n hx hb dL_law_194 rfl (lv_at hl 1 rfl) ?_
  refine lv_aload_n hx hb dL_law_195 rfl (lv_at hl 0 rfl) ?_
  refine lv_iload hx hb dL_law_196 (lv_at hl 4 rfl) ?_
  refine lv_iconst (v := nI 1) hx hb dL_law_198 (by decide) ?_
  refine lv_iadd hx hb dL_law_199 ?_
  refine wd_ti (x' := nI (4 * k + 1)) (nI_add _ _) ?_
  refine va_sld hx hb hX hbl hbA hS (vp_in_nI (by omega) (by omega)) dL_law_200 ?_
  refine cr_Vi (As := [.int (xs (nI (4 * k + 1)).toNatClampNeg)]) (rest := []) ⟨hx, hb, hml, hown, hts⟩ (k3_from l g s.heap.size w x hs σ hI.ht (xs (nI (4 * k + 1)).toNatClampNeg)) (cw_V 1 hts (fun _ h => h) tw_167 tw_168 tw_169 tw_1 tw_170 rfl rfl (by decide +kernel) ⟨by decide +kernel, by decide +kernel⟩) hK ((congrArg (fun v => gP g v H) hI.c.cx).mpr hP) (Nat.le_refl _) hS (xW_0) rfl rfl rfl hl.1 rfl (Nat.le_of_ble_eq_true rfl) dL_law_201 ⟨show 25 + 3 * k + 0 ≤ 601024 by omega, show 55827 + 1066 * k + 0 ≤ 7293034 by omega⟩ (fun r1 w1 H locs hw1 hP hS => ?_)
  obtain ⟨hm1, hst⟩ := st_from hI hw1
  refine lv_aload_n hx hb dL_law_204 rfl (lv_at hl 2 rfl) ?_
  refine lv_aload_n hx hb dL_law_205 rfl (lv_at hl 0 rfl) ?_
  refine lv_iload hx hb dL_law_206 (lv_at hl 4 rfl) ?_
  refine lv_iconst (v := nI 1) hx hb dL_law_208 (by decide) ?_
  refine lv_iadd hx hb dL_law_209 ?_
  refine wd_ti (x' := nI (4 * k + 1)) (nI_add _ _) ?_
  refine va_sld hx hb hX hbl hbA hS (vp_in_nI (by omega) (by omega)) dL_law_210 ?_
  refine cr_Vi (As := [.int (xs (nI (4 * k + 1)).toNatClampNeg)]) (rest := [.int r1]) ⟨hx, hb, hml, hown, hts⟩ (k4_from l g s.heap.size w1 x hs σ hI.ht (xs (nI (4 * k + 1)).toNatClampNeg)) (cw_V 1 hts (fun _ h => h) tw_522 tw_523 tw_524 tw_4 tw_525 rfl rfl (by decide +kernel) ⟨by decide +kernel, by decide +kernel⟩) hK ((congrArg (fun v => gP g v H) hm1).mpr hP) (Nat.le_refl _) hS (mW_0) rfl rfl rfl hl.1 rfl (Nat.le_of_ble_eq_true rfl) dL_law_211 ⟨show 25 + 3 * k + 0 + 0 ≤ 601024 by omega, show 55827 + 1066 * k + 0 + 0 ≤ 7293034 by omega⟩ (fun r2 w2 H locs hw2 hP hS => ?_)
  obtain ⟨er, σ', hI'⟩ := hst r2 w2 hw2
  refine lv_icmp_eq (tgt := 522) hx hb dL_law_214 (by decide) (fun c1 => ?_) (fun c1 => ?_)
  · refine W.widen (k := 25 + 3 * (k + 1)) (n := 55827 + 1066 * (k + 1)) (by omega) (by omega) ?_
    exact nx w2 σ' H locs ls hI' hP hS hl
  · exact absurd er c1
set_option maxHeartbeats 4000000 in
set_option maxRecDepth 100000 in
theorem law_run {p : Program} {l : Launch} {e : Env} {s : State} {m : MethodId} {below : List Frame} {meth : Method} {c : Code} {b L : Nat} {xs : Nat → Int32} (C0 : lw_At p s m meth c b L xs) {g : gX} (hK : gK g s) {x : Nat} (hs : s.heap.size ≤ x) {k : Nat} (hk : 4 * k + 4 ≤ L) (hL : L ≤ 2048) {w : wd_M} {σ : St} (hI : IV g x w σ) {H : Heap} {locs : List Loc} {ls : Array Slot} (hP : gP g w H) (hS : gS s.heap.size s.heap H locs) (hl : lv_has ls 7 [(0, .ref b), (1, .ref x), (2, .ref (x + 9)), (3, .ref (x + 24)), (4, .int (nI (4 * k)))]) (nx : ∀ (w : wd_M) (σ : St) (H : Heap) (locs : List Loc) (ls : Array Slot), IV g x w σ → gP g w H → gS s.heap.size s.heap H locs → lv_has ls 7 [(0, .ref b), (1, .ref x), (2, .ref (x + 9)), (3, .ref (x + 24)), (4, .int (nI (4 * k)))] → W p l e room_1 s m #[Value.ref b] below meth c H locs (25 + 3 * (k + 1)) (55827 + 1066 * (k + 1)) (lw_Z below #[Value.ref b] s) (F0 m 522 ls [])) : W p l e room_1 s m #[Value.ref b] below meth c H locs (25 + 3 * k) (55827 + 1066 * k) (lw_Z below #[Value.ref b] s) (F0 m 219 ls []) := by
  obtain ⟨hx, hb, hr, hml, hown, hts0, hX, hbl, hlocks, hgv⟩ := C0
  have hts : ∀ w ∈ tg, w.before #[Value.ref b] s = true := fun w h => hts0 w (tg_in w h)
  have hown : s.vm.findClass RL = some m.cls := hown
  have hb : c.code = cL_law := hb
  have hbA : ¬ (fun q : Nat => s.heap.size ≤ q) b := Nat.not_le.mpr hbl
  refine lv_aload_n hx hb dL_law_219 rfl (lv_at hl 1 rfl) ?_
  refine lv_aload_n hx hb dL_law_220 rfl (lv_at hl 0 rfl) ?_
  refine lv_iload hx hb dL_law_221 (lv_at hl 4 rfl) ?_
  refine lv_iconst (v := nI 1) hx hb dL_law_223 (by decide) ?_
  refine lv_iadd hx hb dL_law_224 ?_
  refine wd_ti (x' := nI (4 * k + 1)) (nI_add _ _) ?_
  refine va_sld hx hb hX hbl hbA hS (vp_in_nI (by omega) (by omega)) dL_law_225 ?_
  refine lv_aload_n hx hb dL_law_226 rfl (lv_at hl 0 rfl) ?_
  refine lv_iload hx hb dL_law_227 (lv_at hl 4 rfl) ?_
  refine lv_iconst (v := nI 2) hx hb dL_law_229 (by decide) ?_
  refine lv_iadd hx hb dL_law_230 ?_
  refine wd_ti (x' := nI (4 * k + 2)) (nI_add _ _) ?_
  refine va_sld hx hb hX hbl hbA hS (vp_in_nI (by omega) (by omega)) dL_law_231 ?_
  refine lv_aload_n hx hb dL_law_232 rfl (lv_at hl 0 rfl) ?_
  refine lv_iload hx hb dL_law_233 (lv_at hl 4 rfl) ?_
  refine lv_iconst (v := nI 3) hx hb dL_law_235 (by decide) ?_
  refine lv_iadd hx hb dL_law_236 ?_
  refine wd_ti (x' := nI (4 * k + 3)) (nI_add _ _) ?_
  refine va_sld hx hb hX hbl hbA hS (vp_in_nI (by omega) (by omega)) dL_law_237 ?_
  refine cr_Vi (As := [.int (xs (nI (4 * k + 1)).toNatClampNeg), .int (xs (nI (4 * k + 2)).toNatClampNeg), .int (xs (nI (4 * k + 3)).toNatClampNeg)]) (rest := []) ⟨hx, hb, hml, hown, hts⟩ (k3_run l g s.heap.size w x hs σ hI.ht (xs (nI (4 * k + 1)).toNatClampNeg) (xs (nI (4 * k + 2)).toNatClampNeg) (xs (nI (4 * k + 3)).toNatClampNeg)) (cw_V 3 hts (fun _ h => h) tw_181 tw_182 tw_183 tw_1 tw_184 rfl rfl (by decide +kernel) ⟨by decide +kernel, by decide +kernel⟩) hK ((congrArg (fun v => gP g v H) hI.c.cx).mpr hP) (Nat.le_refl _) hS (xW_0) rfl rfl rfl hl.1 rfl (Nat.le_of_ble_eq_true rfl) dL_law_238 ⟨show 25 + 3 * k + 0 ≤ 601024 by omega, show 55827 + 1066 * k + 0 ≤ 7293034 by omega⟩ (fun r1 w1 H locs hw1 hP hS => ?_)
  obtain ⟨hm1, hst⟩ := st_run hI hw1
  refine lv_aload_n hx hb dL_law_241 rfl (lv_at hl 2 rfl) ?_
  refine lv_aload_n hx hb dL_law_242 rfl (lv_at hl 0 rfl) ?_
  refine lv_iload hx hb dL_law_243 (lv_at hl 4 rfl) ?_
  refine lv_iconst (v := nI 1) hx hb dL_law_245 (by decide) ?_
  refine lv_iadd hx hb dL_law_246 ?_
  refine wd_ti (x' := nI (4 * k + 1)) (nI_add _ _) ?_
  refine va_sld hx hb hX hbl hbA hS (vp_in_nI (by omega) (by omega)) dL_law_247 ?_
  refine lv_aload_n hx hb dL_law_248 rfl (lv_at hl 0 rfl) ?_
  refine lv_iload hx hb dL_law_249 (lv_at hl 4 rfl) ?_
  refine lv_iconst (v := nI 2) hx hb dL_law_251 (by decide) ?_
  refine lv_iadd hx hb dL_law_252 ?_
  refine wd_ti (x' := nI (4 * k + 2)) (nI_add _ _) ?_
  refine va_sld hx hb hX hbl hbA hS (vp_in_nI (by omega) (by omega)) dL_law_253 ?_
  refine lv_aload_n hx hb dL_law_254 rfl (lv_at hl 0 rfl) ?_
  refine lv_iload hx hb dL_law_255 (lv_at hl 4 rfl) ?_
  refine lv_iconst (v := nI 3) hx hb dL_law_257 (by decide) ?_
  refine lv_iadd hx hb dL_law_258 ?_
  refine wd_ti (x' := nI (4 * k + 3)) (nI_add _ _) ?_
  refine va_sld hx hb hX hbl hbA hS (vp_in_nI (by omega) (by omega)) dL_law_259 ?_
  refine cr_Vi (As := [.int (xs (nI (4 * k + 1)).toNatClampNeg), .int (xs (nI (4 * k + 2)).toNatClampNeg), .int (xs (nI (4 * k + 3)).toNatClampNeg)]) (rest := [.int r1]) ⟨hx, hb, hml, hown, hts⟩ (k4_run l g s.heap.size w1 x hs σ hI.ht (xs (nI (4 * k + 1)).toNatClampNeg) (xs (nI (4 * k + 2)).toNatClampNeg) (xs (nI (4 * k + 3)).toNatClampNeg)) (cw_V 3 hts (fun _ h => h) tw_530 tw_531 tw_532 tw_4 tw_533 rfl rfl (by decide +kernel) ⟨by decide +kernel, by decide +kernel⟩) hK ((congrArg (fun v => gP g v H) hm1).mpr hP) (Nat.le_refl _) hS (mW_0) rfl rfl rfl hl.1 rfl (Nat.le_of_ble_eq_true rfl) dL_law_260 ⟨show 25 + 3 * k + 0 + 0 ≤ 601024 by omega, show 55827 + 1066 * k + 0 + 0 ≤ 7293034 by omega⟩ (fun r2 w2 H locs hw2 hP hS => ?_)
  obtain ⟨er, σ', hI'⟩ := hst r2 w2 hw2
  refine lv_icmp_eq (tgt := 522) hx hb dL_law_263 (by decide) (fun c1 => ?_) (fun c1 => ?_)
  · refine W.widen (k := 25 + 3 * (k + 1)) (n := 55827 + 1066 * (k + 1)) (by omega) (by omega) ?_
    exact nx w2 σ' H locs ls hI' hP hS hl
  · exact absurd er c1
set_option maxHeartbeats 4000000 in
set_option maxRecDepth 100000 in
theorem law_at {p : Program} {l : Launch} {e : Env} {s : State} {m : MethodId} {below : List Frame} {meth : Method} {c : Code} {b L : Nat} {xs : Nat → Int32} (C0 : lw_At p s m meth c b L xs) {g : gX} (hK : gK g s) {x : Nat} (hs : s.heap.size ≤ x) {k : Nat} (hk : 4 * k + 4 ≤ L) (hL : L ≤ 2048) {w : wd_M} {σ : St} (hI : IV g x w σ) {H : Heap} {locs : List Loc} {ls : Array Slot} (hP : gP g w H) (hS : gS s.heap.size s.heap H locs) (hl : lv_has ls 7 [(0, .ref b), (1, .ref x), (2, .ref (x + 9)), (3, .ref (x + 24)), (4, .int (nI (4 * k)))]) (nx : ∀ (w : wd_M) (σ : St) (H : Heap) (locs : List Loc) (ls : Array Slot), IV g x w σ → gP g w H → gS s.heap.size s.heap H locs → lv_has ls 7 [(0, .ref b), (1, .ref x), (2, .ref (x + 9)), (3, .ref (x + 24)), (4, .int (nI (4 * k)))] → W p l e room_1 s m #[Value.ref b] below meth c H locs (25 + 3 * (k + 1)) (55827 + 1066 * (k + 1)) (lw_Z below #[Value.ref b] s) (F0 m 522 ls [])) : W p l e room_1 s m #[Value.ref b] below meth c H locs (25 + 3 * k) (55827 + 1066 * k) (lw_Z below #[Value.ref b] s) (F0 m 268 ls []) := by
  obtain ⟨hx, hb, hr, hml, hown, hts0, hX, hbl, hlocks, hgv⟩ := C0
  have hts : ∀ w ∈ tg, w.before #[Value.ref b] s = true := fun w h => hts0 w (tg_in w h)
  have hown : s.vm.findClass RL = some m.cls := hown
  have hb : c.code = cL_law := hb
  have hbA : ¬ (fun q : Nat => s.heap.size ≤ q) b := Nat.not_le.mpr hbl
  refine lv_aload_n hx hb dL_law_268 rfl (lv_at hl 1 rfl) ?_
  refine lv_aload_n hx hb dL_law_269 rfl (lv_at hl 0 rfl) ?_
  refine lv_iload hx hb dL_law_270 (lv_at hl 4 rfl) ?_
  refine lv_iconst (v := nI 1) hx hb dL_law_272 (by decide) ?_
  refine lv_iadd hx hb dL_law_273 ?_
  refine wd_ti (x' := nI (4 * k + 1)) (nI_add _ _) ?_
  refine va_sld hx hb hX hbl hbA hS (vp_in_nI (by omega) (by omega)) dL_law_274 ?_
  refine lv_aload_n hx hb dL_law_275 rfl (lv_at hl 0 rfl) ?_
  refine lv_iload hx hb dL_law_276 (lv_at hl 4 rfl) ?_
  refine lv_iconst (v := nI 2) hx hb dL_law_278 (by decide) ?_
  refine lv_iadd hx hb dL_law_279 ?_
  refine wd_ti (x' := nI (4 * k + 2)) (nI_add _ _) ?_
  refine va_sld hx hb hX hbl hbA hS (vp_in_nI (by omega) (by omega)) dL_law_280 ?_
  refine cr_Vi (As := [.int (xs (nI (4 * k + 1)).toNatClampNeg), .int (xs (nI (4 * k + 2)).toNatClampNeg)]) (rest := []) ⟨hx, hb, hml, hown, hts⟩ (k3_at l g s.heap.size w x hs σ hI.ht (xs (nI (4 * k + 1)).toNatClampNeg) (xs (nI (4 * k + 2)).toNatClampNeg)) (cw_V 2 hts (fun _ h => h) tw_308 tw_309 tw_310 tw_1 tw_311 rfl rfl (by decide +kernel) ⟨by decide +kernel, by decide +kernel⟩) hK ((congrArg (fun v => gP g v H) hI.c.cx).mpr hP) (Nat.le_refl _) hS (xW_0) rfl rfl rfl hl.1 rfl (Nat.le_of_ble_eq_true rfl) dL_law_281 ⟨show 25 + 3 * k + 0 ≤ 601024 by omega, show 55827 + 1066 * k + 0 ≤ 7293034 by omega⟩ (fun r1 w1 H locs hw1 hP hS => ?_)
  obtain ⟨hm1, hst⟩ := st_at hI hw1
  refine lv_aload_n hx hb dL_law_284 rfl (lv_at hl 2 rfl) ?_
  refine lv_aload_n hx hb dL_law_285 rfl (lv_at hl 0 rfl) ?_
  refine lv_iload hx hb dL_law_286 (lv_at hl 4 rfl) ?_
  refine lv_iconst (v := nI 1) hx hb dL_law_288 (by decide) ?_
  refine lv_iadd hx hb dL_law_289 ?_
  refine wd_ti (x' := nI (4 * k + 1)) (nI_add _ _) ?_
  refine va_sld hx hb hX hbl hbA hS (vp_in_nI (by omega) (by omega)) dL_law_290 ?_
  refine lv_aload_n hx hb dL_law_291 rfl (lv_at hl 0 rfl) ?_
  refine lv_iload hx hb dL_law_292 (lv_at hl 4 rfl) ?_
  refine lv_iconst (v := nI 2) hx hb dL_law_294 (by decide) ?_
  refine lv_iadd hx hb dL_law_295 ?_
  refine wd_ti (x' := nI (4 * k + 2)) (nI_add _ _) ?_
  refine va_sld hx hb hX hbl hbA hS (vp_in_nI (by omega) (by omega)) dL_law_296 ?_
  refine cr_Vi (As := [.int (xs (nI (4 * k + 1)).toNatClampNeg), .int (xs (nI (4 * k + 2)).toNatClampNeg)]) (rest := [.int r1]) ⟨hx, hb, hml, hown, hts⟩ (k4_at l g s.heap.size w1 x hs σ hI.ht (xs (nI (4 * k + 1)).toNatClampNeg) (xs (nI (4 * k + 2)).toNatClampNeg)) (cw_V 2 hts (fun _ h => h) tw_585 tw_586 tw_587 tw_4 tw_588 rfl rfl (by decide +kernel) ⟨by decide +kernel, by decide +kernel⟩) hK ((congrArg (fun v => gP g v H) hm1).mpr hP) (Nat.le_refl _) hS (mW_0) rfl rfl rfl hl.1 rfl (Nat.le_of_ble_eq_true rfl) dL_law_297 ⟨show 25 + 3 * k + 0 + 0 ≤ 601024 by omega, show 55827 + 1066 * k + 0 + 0 ≤ 7293034 by omega⟩ (fun r2 w2 H locs hw2 hP hS => ?_)
  obtain ⟨er, σ', hI'⟩ := hst r2 w2 hw2
  refine lv_icmp_eq (tgt := 522) hx hb dL_law_300 (by decide) (fun c1 => ?_) (fun c1 => ?_)
  · refine W.widen (k := 25 + 3 * (k + 1)) (n := 55827 + 1066 * (k + 1)) (by omega) (by omega) ?_
    exact nx w2 σ' H locs ls hI' hP hS hl
  · exact absurd er c1
set_option maxHeartbeats 4000000 in
set_option maxRecDepth 100000 in
theorem law_plain {p : Program} {l : Launch} {e : Env} {s : State} {m : MethodId} {below : List Frame} {meth : Method} {c : Code} {b L : Nat} {xs : Nat → Int32} (C0 : lw_At p s m meth c b L xs) {g : gX} (hK : gK g s) {x : Nat} (hs : s.heap.size ≤ x) {k : Nat} (hk : 4 * k + 4 ≤ L) (hL : L ≤ 2048) {w : wd_M} {σ : St} (hI : IV g x w σ) {H : Heap} {locs : List Loc} {ls : Array Slot} (hP : gP g w H) (hS : gS s.heap.size s.heap H locs) (hl : lv_has ls 7 [(0, .ref b), (1, .ref x), (2, .ref (x + 9)), (3, .ref (x + 24)), (4, .int (nI (4 * k)))]) (nx : ∀ (w : wd_M) (σ : St) (H : Heap) (locs : List Loc) (ls : Array Slot), IV g x w σ → gP g w H → gS s.heap.size s.heap H locs → lv_has ls 7 [(0, .ref b), (1, .ref x), (2, .ref (x + 9)), (3, .ref (x + 24)), (4, .int (nI (4 * k)))] → W p l e room_1 s m #[Value.ref b] below meth c H locs (25 + 3 * (k + 1)) (55827 + 1066 * (k + 1)) (lw_Z below #[Value.ref b] s) (F0 m 522 ls [])) : W p l e room_1 s m #[Value.ref b] below meth c H locs (25 + 3 * k) (55827 + 1066 * k) (lw_Z below #[Value.ref b] s) (F0 m 305 ls []) := by
  obtain ⟨hx, hb, hr, hml, hown, hts0, hX, hbl, hlocks, hgv⟩ := C0
  have hts : ∀ w ∈ tg, w.before #[Value.ref b] s = true := fun w h => hts0 w (tg_in w h)
  have hown : s.vm.findClass RL = some m.cls := hown
  have hb : c.code = cL_law := hb
  have hbA : ¬ (fun q : Nat => s.heap.size ≤ q) b := Nat.not_le.mpr hbl
  refine lv_aload_n hx hb dL_law_305 rfl (lv_at hl 1 rfl) ?_
  refine lv_aload_n hx hb dL_law_306 rfl (lv_at hl 0 rfl) ?_
  refine lv_iload hx hb dL_law_307 (lv_at hl 4 rfl) ?_
  refine lv_iconst (v := nI 1) hx hb dL_law_309 (by decide) ?_
  refine lv_iadd hx hb dL_law_310 ?_
  refine wd_ti (x' := nI (4 * k + 1)) (nI_add _ _) ?_
  refine va_sld hx hb hX hbl hbA hS (vp_in_nI (by omega) (by omega)) dL_law_311 ?_
  refine lv_aload_n hx hb dL_law_312 rfl (lv_at hl 0 rfl) ?_
  refine lv_iload hx hb dL_law_313 (lv_at hl 4 rfl) ?_
  refine lv_iconst (v := nI 2) hx hb dL_law_315 (by decide) ?_
  refine lv_iadd hx hb dL_law_316 ?_
  refine wd_ti (x' := nI (4 * k + 2)) (nI_add _ _) ?_
  refine va_sld hx hb hX hbl hbA hS (vp_in_nI (by omega) (by omega)) dL_law_317 ?_
  refine lv_aload_n hx hb dL_law_318 rfl (lv_at hl 0 rfl) ?_
  refine lv_iload hx hb dL_law_319 (lv_at hl 4 rfl) ?_
  refine lv_iconst (v := nI 3) hx hb dL_law_321 (by decide) ?_
  refine lv_iadd hx hb dL_law_322 ?_
  refine wd_ti (x' := nI (4 * k + 3)) (nI_add _ _) ?_
  refine va_sld hx hb hX hbl hbA hS (vp_in_nI (by omega) (by omega)) dL_law_323 ?_
  refine cr_Vi (As := [.int (xs (nI (4 * k + 1)).toNatClampNeg), .int (xs (nI (4 * k + 2)).toNatClampNeg), .int (xs (nI (4 * k + 3)).toNatClampNeg)]) (rest := []) ⟨hx, hb, hml, hown, hts⟩ (k3_plain l g s.heap.size w x hs σ hI.ht (xs (nI (4 * k + 1)).toNatClampNeg) (xs (nI (4 * k + 2)).toNatClampNeg) (xs (nI (4 * k + 3)).toNatClampNeg)) (cw_V 3 hts (fun _ h => h) tw_316 tw_317 tw_318 tw_1 tw_319 rfl rfl (by decide +kernel) ⟨by decide +kernel, by decide +kernel⟩) hK ((congrArg (fun v => gP g v H) hI.c.cx).mpr hP) (Nat.le_refl _) hS (xW_0) rfl rfl rfl hl.1 rfl (Nat.le_of_ble_eq_true rfl) dL_law_324 ⟨show 25 + 3 * k + 0 ≤ 601024 by omega, show 55827 + 1066 * k + 0 ≤ 7293034 by omega⟩ (fun r1 w1 H locs hw1 hP hS => ?_)
  obtain ⟨hm1, hst⟩ := st_plain hI hw1
  refine lv_aload_n hx hb dL_law_327 rfl (lv_at hl 2 rfl) ?_
  refine lv_aload_n hx hb dL_law_328 rfl (lv_at hl 0 rfl) ?_
  refine lv_iload hx hb dL_law_329 (lv_at hl 4 rfl) ?_
  refine lv_iconst (v := nI 1) hx hb dL_law_331 (by decide) ?_
  refine lv_iadd hx hb dL_law_332 ?_
  refine wd_ti (x' := nI (4 * k + 1)) (nI_add _ _) ?_
  refine va_sld hx hb hX hbl hbA hS (vp_in_nI (by omega) (by omega)) dL_law_333 ?_
  refine lv_aload_n hx hb dL_law_334 rfl (lv_at hl 0 rfl) ?_
  refine lv_iload hx hb dL_law_335 (lv_at hl 4 rfl) ?_
  refine lv_iconst (v := nI 2) hx hb dL_law_337 (by decide) ?_
  refine lv_iadd hx hb dL_law_338 ?_
  refine wd_ti (x' := nI (4 * k + 2)) (nI_add _ _) ?_
  refine va_sld hx hb hX hbl hbA hS (vp_in_nI (by omega) (by omega)) dL_law_339 ?_
  refine lv_aload_n hx hb dL_law_340 rfl (lv_at hl 0 rfl) ?_
  refine lv_iload hx hb dL_law_341 (lv_at hl 4 rfl) ?_
  refine lv_iconst (v := nI 3) hx hb dL_law_343 (by decide) ?_
  refine lv_iadd hx hb dL_law_344 ?_
  refine wd_ti (x' := nI (4 * k + 3)) (nI_add _ _) ?_
  refine va_sld hx hb hX hbl hbA hS (vp_in_nI (by omega) (by omega)) dL_law_345 ?_
  refine cr_Vi (As := [.int (xs (nI (4 * k + 1)).toNatClampNeg), .int (xs (nI (4 * k + 2)).toNatClampNeg), .int (xs (nI (4 * k + 3)).toNatClampNeg)]) (rest := [.int r1]) ⟨hx, hb, hml, hown, hts⟩ (k4_plain l g s.heap.size w1 x hs σ hI.ht (xs (nI (4 * k + 1)).toNatClampNeg) (xs (nI (4 * k + 2)).toNatClampNeg) (xs (nI (4 * k + 3)).toNatClampNeg)) (cw_V 3 hts (fun _ h => h) tw_581 tw_582 tw_583 tw_4 tw_584 rfl rfl (by decide +kernel) ⟨by decide +kernel, by decide +kernel⟩) hK ((congrArg (fun v => gP g v H) hm1).mpr hP) (Nat.le_refl _) hS (mW_0) rfl rfl rfl hl.1 rfl (Nat.le_of_ble_eq_true rfl) dL_law_346 ⟨show 25 + 3 * k + 0 + 0 ≤ 601024 by omega, show 55827 + 1066 * k + 0 + 0 ≤ 7293034 by omega⟩ (fun r2 w2 H locs hw2 hP hS => ?_)
  obtain ⟨er, σ', hI'⟩ := hst r2 w2 hw2
  refine lv_icmp_eq (tgt := 522) hx hb dL_law_349 (by decide) (fun c1 => ?_) (fun c1 => ?_)
  · refine W.widen (k := 25 + 3 * (k + 1)) (n := 55827 + 1066 * (k + 1)) (by omega) (by omega) ?_
    exact nx w2 σ' H locs ls hI' hP hS hl
  · exact absurd er c1
set_option maxHeartbeats 4000000 in
set_option maxRecDepth 100000 in
theorem law_steps {p : Program} {l : Launch} {e : Env} {s : State} {m : MethodId} {below : List Frame} {meth : Method} {c : Code} {b L : Nat} {xs : Nat → Int32} (C0 : lw_At p s m meth c b L xs) {g : gX} (hK : gK g s) {x : Nat} (hs : s.heap.size ≤ x) {k : Nat} (hk : 4 * k + 4 ≤ L) (hL : L ≤ 2048) {w : wd_M} {σ : St} (hI : IV g x w σ) {H : Heap} {locs : List Loc} {ls : Array Slot} (hP : gP g w H) (hS : gS s.heap.size s.heap H locs) (hl : lv_has ls 7 [(0, .ref b), (1, .ref x), (2, .ref (x + 9)), (3, .ref (x + 24)), (4, .int (nI (4 * k)))]) (nx : ∀ (w : wd_M) (σ : St) (H : Heap) (locs : List Loc) (ls : Array Slot), IV g x w σ → gP g w H → gS s.heap.size s.heap H locs → lv_has ls 7 [(0, .ref b), (1, .ref x), (2, .ref (x + 9)), (3, .ref (x + 24)), (4, .int (nI (4 * k)))] → W p l e room_1 s m #[Value.ref b] below meth c H locs (25 + 3 * (k + 1)) (55827 + 1066 * (k + 1)) (lw_Z below #[Value.ref b] s) (F0 m 522 ls [])) : W p l e room_1 s m #[Value.ref b] below meth c H locs (25 + 3 * k) (55827 + 1066 * k) (lw_Z below #[Value.ref b] s) (F0 m 354 ls []) := by
  obtain ⟨hx, hb, hr, hml, hown, hts0, hX, hbl, hlocks, hgv⟩ := C0
  have hts : ∀ w ∈ tg, w.before #[Value.ref b] s = true := fun w h => hts0 w (tg_in w h)
  have hown : s.vm.findClass RL = some m.cls := hown
  have hb : c.code = cL_law := hb
  have hbA : ¬ (fun q : Nat => s.heap.size ≤ q) b := Nat.not_le.mpr hbl
  refine lv_aload_n hx hb dL_law_354 rfl (lv_at hl 1 rfl) ?_
  refine lv_aload_n hx hb dL_law_355 rfl (lv_at hl 0 rfl) ?_
  refine lv_iload hx hb dL_law_356 (lv_at hl 4 rfl) ?_
  refine lv_iconst (v := nI 1) hx hb dL_law_358 (by decide) ?_
  refine lv_iadd hx hb dL_law_359 ?_
  refine wd_ti (x' := nI (4 * k + 1)) (nI_add _ _) ?_
  refine va_sld hx hb hX hbl hbA hS (vp_in_nI (by omega) (by omega)) dL_law_360 ?_
  refine cr_Vi (As := [.int (xs (nI (4 * k + 1)).toNatClampNeg)]) (rest := []) ⟨hx, hb, hml, hown, hts⟩ (k3_steps l g s.heap.size w x hs σ hI.ht (xs (nI (4 * k + 1)).toNatClampNeg)) (cw_V 1 hts (fun _ h => h) tw_320 tw_321 tw_322 tw_1 tw_323 rfl rfl (by decide +kernel) ⟨by decide +kernel, by decide +kernel⟩) hK ((congrArg (fun v => gP g v H) hI.c.cx).mpr hP) (Nat.le_refl _) hS (xW_0) rfl rfl rfl hl.1 rfl (Nat.le_of_ble_eq_true rfl) dL_law_361 ⟨show 25 + 3 * k + 0 ≤ 601024 by omega, show 55827 + 1066 * k + 0 ≤ 7293034 by omega⟩ (fun r1 w1 H locs hw1 hP hS => ?_)
  obtain ⟨hm1, hst⟩ := st_steps hI hw1
  refine lv_aload_n hx hb dL_law_364 rfl (lv_at hl 2 rfl) ?_
  refine lv_aload_n hx hb dL_law_365 rfl (lv_at hl 0 rfl) ?_
  refine lv_iload hx hb dL_law_366 (lv_at hl 4 rfl) ?_
  refine lv_iconst (v := nI 1) hx hb dL_law_368 (by decide) ?_
  refine lv_iadd hx hb dL_law_369 ?_
  refine wd_ti (x' := nI (4 * k + 1)) (nI_add _ _) ?_
  refine va_sld hx hb hX hbl hbA hS (vp_in_nI (by omega) (by omega)) dL_law_370 ?_
  refine cr_Vi (As := [.int (xs (nI (4 * k + 1)).toNatClampNeg)]) (rest := [.int r1]) ⟨hx, hb, hml, hown, hts⟩ (k4_steps l g s.heap.size w1 x hs σ hI.ht (xs (nI (4 * k + 1)).toNatClampNeg)) (cw_V 1 hts (fun _ h => h) tw_526 tw_527 tw_528 tw_4 tw_529 rfl rfl (by decide +kernel) ⟨by decide +kernel, by decide +kernel⟩) hK ((congrArg (fun v => gP g v H) hm1).mpr hP) (Nat.le_refl _) hS (mW_0) rfl rfl rfl hl.1 rfl (Nat.le_of_ble_eq_true rfl) dL_law_371 ⟨show 25 + 3 * k + 0 + 0 ≤ 601024 by omega, show 55827 + 1066 * k + 0 + 0 ≤ 7293034 by omega⟩ (fun r2 w2 H locs hw2 hP hS => ?_)
  obtain ⟨er, σ', hI'⟩ := hst r2 w2 hw2
  refine lv_icmp_eq (tgt := 522) hx hb dL_law_374 (by decide) (fun c1 => ?_) (fun c1 => ?_)
  · refine W.widen (k := 25 + 3 * (k + 1)) (n := 55827 + 1066 * (k + 1)) (by omega) (by omega) ?_
    exact nx w2 σ' H locs ls hI' hP hS hl
  · exact absurd er c1
set_option maxHeartbeats 4000000 in
set_option maxRecDepth 100000 in
theorem law_cycle {p : Program} {l : Launch} {e : Env} {s : State} {m : MethodId} {below : List Frame} {meth : Method} {c : Code} {b L : Nat} {xs : Nat → Int32} (C0 : lw_At p s m meth c b L xs) {g : gX} (hK : gK g s) {x : Nat} (hs : s.heap.size ≤ x) {k : Nat} (hk : 4 * k + 4 ≤ L) (hL : L ≤ 2048) {w : wd_M} {σ : St} (hI : IV g x w σ) {H : Heap} {locs : List Loc} {ls : Array Slot} (hP : gP g w H) (hS : gS s.heap.size s.heap H locs) (hl : lv_has ls 7 [(0, .ref b), (1, .ref x), (2, .ref (x + 9)), (3, .ref (x + 24)), (4, .int (nI (4 * k)))]) (nx : ∀ (w : wd_M) (σ : St) (H : Heap) (locs : List Loc) (ls : Array Slot), IV g x w σ → gP g w H → gS s.heap.size s.heap H locs → lv_has ls 7 [(0, .ref b), (1, .ref x), (2, .ref (x + 9)), (3, .ref (x + 24)), (4, .int (nI (4 * k)))] → W p l e room_1 s m #[Value.ref b] below meth c H locs (25 + 3 * (k + 1)) (55827 + 1066 * (k + 1)) (lw_Z below #[Value.ref b] s) (F0 m 522 ls [])) : W p l e room_1 s m #[Value.ref b] below meth c H locs (25 + 3 * k) (55827 + 1066 * k) (lw_Z below #[Value.ref b] s) (F0 m 379 ls []) := by
  obtain ⟨hx, hb, hr, hml, hown, hts0, hX, hbl, hlocks, hgv⟩ := C0
  have hts : ∀ w ∈ tg, w.before #[Value.ref b] s = true := fun w h => hts0 w (tg_in w h)
  have hown : s.vm.findClass RL = some m.cls := hown
  have hb : c.code = cL_law := hb
  have hbA : ¬ (fun q : Nat => s.heap.size ≤ q) b := Nat.not_le.mpr hbl
  refine lv_aload_n hx hb dL_law_379 rfl (lv_at hl 1 rfl) ?_
  refine lv_aload_n hx hb dL_law_380 rfl (lv_at hl 0 rfl) ?_
  refine lv_iload hx hb dL_law_381 (lv_at hl 4 rfl) ?_
  refine lv_iconst (v := nI 1) hx hb dL_law_383 (by decide) ?_
  refine lv_iadd hx hb dL_law_384 ?_
  refine wd_ti (x' := nI (4 * k + 1)) (nI_add _ _) ?_
  refine va_sld hx hb hX hbl hbA hS (vp_in_nI (by omega) (by omega)) dL_law_385 ?_
  refine cr_Vi (As := [.int (xs (nI (4 * k + 1)).toNatClampNeg)]) (rest := []) ⟨hx, hb, hml, hown, hts⟩ (k3_cycle l g s.heap.size w x hs σ hI.ht (xs (nI (4 * k + 1)).toNatClampNeg)) (cw_V 1 hts (fun _ h => h) tw_324 tw_325 tw_326 tw_1 tw_327 rfl rfl (by decide +kernel) ⟨by decide +kernel, by decide +kernel⟩) hK ((congrArg (fun v => gP g v H) hI.c.cx).mpr hP) (Nat.le_refl _) hS (xW_0) rfl rfl rfl hl.1 rfl (Nat.le_of_ble_eq_true rfl) dL_law_386 ⟨show 25 + 3 * k + 0 ≤ 601024 by omega, show 55827 + 1066 * k + 0 ≤ 7293034 by omega⟩ (fun r1 w1 H locs hw1 hP hS => ?_)
  obtain ⟨hm1, hst⟩ := st_cycle hI hw1
  refine lv_aload_n hx hb dL_law_389 rfl (lv_at hl 2 rfl) ?_
  refine lv_aload_n hx hb dL_law_390 rfl (lv_at hl 0 rfl) ?_
  refine lv_iload hx hb dL_law_391 (lv_at hl 4 rfl) ?_
  refine lv_iconst (v := nI 1) hx hb dL_law_393 (by decide) ?_
  refine lv_iadd hx hb dL_law_394 ?_
  refine wd_ti (x' := nI (4 * k + 1)) (nI_add _ _) ?_
  refine va_sld hx hb hX hbl hbA hS (vp_in_nI (by omega) (by omega)) dL_law_395 ?_
  refine cr_Vi (As := [.int (xs (nI (4 * k + 1)).toNatClampNeg)]) (rest := [.int r1]) ⟨hx, hb, hml, hown, hts⟩ (k4_cycle l g s.heap.size w1 x hs σ hI.ht (xs (nI (4 * k + 1)).toNatClampNeg)) (cw_V 1 hts (fun _ h => h) tw_593 tw_594 tw_595 tw_4 tw_596 rfl rfl (by decide +kernel) ⟨by decide +kernel, by decide +kernel⟩) hK ((congrArg (fun v => gP g v H) hm1).mpr hP) (Nat.le_refl _) hS (mW_0) rfl rfl rfl hl.1 rfl (Nat.le_of_ble_eq_true rfl) dL_law_396 ⟨show 25 + 3 * k + 0 + 0 ≤ 601024 by omega, show 55827 + 1066 * k + 0 + 0 ≤ 7293034 by omega⟩ (fun r2 w2 H locs hw2 hP hS => ?_)
  obtain ⟨er, σ', hI'⟩ := hst r2 w2 hw2
  refine lv_icmp_eq (tgt := 522) hx hb dL_law_399 (by decide) (fun c1 => ?_) (fun c1 => ?_)
  · refine W.widen (k := 25 + 3 * (k + 1)) (n := 55827 + 1066 * (k + 1)) (by omega) (by omega) ?_
    exact nx w2 σ' H locs ls hI' hP hS hl
  · exact absurd er c1
set_option maxHeartbeats 4000000 in
set_option maxRecDepth 100000 in
theorem law_inverse {p : Program} {l : Launch} {e : Env} {s : State} {m : MethodId} {below : List Frame} {meth : Method} {c : Code} {b L : Nat} {xs : Nat → Int32} (C0 : lw_At p s m meth c b L xs) {g : gX} (hK : gK g s) {x : Nat} (hs : s.heap.size ≤ x) {k : Nat} (hk : 4 * k + 4 ≤ L) (hL : L ≤ 2048) {w : wd_M} {σ : St} (hI : IV g x w σ) {H : Heap} {locs : List Loc} {ls : Array Slot} (hP : gP g w H) (hS : gS s.heap.size s.heap H locs) (hl : lv_has ls 7 [(0, .ref b), (1, .ref x), (2, .ref (x + 9)), (3, .ref (x + 24)), (4, .int (nI (4 * k)))]) (nx : ∀ (w : wd_M) (σ : St) (H : Heap) (locs : List Loc) (ls : Array Slot), IV g x w σ → gP g w H → gS s.heap.size s.heap H locs → lv_has ls 7 [(0, .ref b), (1, .ref x), (2, .ref (x + 9)), (3, .ref (x + 24)), (4, .int (nI (4 * k)))] → W p l e room_1 s m #[Value.ref b] below meth c H locs (25 + 3 * (k + 1)) (55827 + 1066 * (k + 1)) (lw_Z below #[Value.ref b] s) (F0 m 522 ls [])) : W p l e room_1 s m #[Value.ref b] below meth c H locs (25 + 3 * k) (55827 + 1066 * k) (lw_Z below #[Value.ref b] s) (F0 m 460 ls []) := by
  obtain ⟨hx, hb, hr, hml, hown, hts0, hX, hbl, hlocks, hgv⟩ := C0
  have hts : ∀ w ∈ tg, w.before #[Value.ref b] s = true := fun w h => hts0 w (tg_in w h)
  have hown : s.vm.findClass RL = some m.cls := hown
  have hb : c.code = cL_law := hb
  have hbA : ¬ (fun q : Nat => s.heap.size ≤ q) b := Nat.not_le.mpr hbl
  refine lv_aload_n hx hb dL_law_460 rfl (lv_at hl 1 rfl) ?_
  refine lv_aload_n hx hb dL_law_461 rfl (lv_at hl 0 rfl) ?_
  refine lv_iload hx hb dL_law_462 (lv_at hl 4 rfl) ?_
  refine lv_iconst (v := nI 1) hx hb dL_law_464 (by decide) ?_
  refine lv_iadd hx hb dL_law_465 ?_
  refine wd_ti (x' := nI (4 * k + 1)) (nI_add _ _) ?_
  refine va_sld hx hb hX hbl hbA hS (vp_in_nI (by omega) (by omega)) dL_law_466 ?_
  refine cr_Vi (As := [.int (xs (nI (4 * k + 1)).toNatClampNeg)]) (rest := []) ⟨hx, hb, hml, hown, hts⟩ (k3_inverse l g s.heap.size w x hs σ hI.ht (xs (nI (4 * k + 1)).toNatClampNeg)) (cw_V 1 hts (fun _ h => h) tw_328 tw_329 tw_330 tw_1 tw_331 rfl rfl (by decide +kernel) ⟨by decide +kernel, by decide +kernel⟩) hK ((congrArg (fun v => gP g v H) hI.c.cx).mpr hP) (Nat.le_refl _) hS (xW_0) rfl rfl rfl hl.1 rfl (Nat.le_of_ble_eq_true rfl) dL_law_467 ⟨show 25 + 3 * k + 3 ≤ 601024 by omega, show 55827 + 1066 * k + 1066 ≤ 7293034 by omega⟩ (fun r1 w1 H locs hw1 hP hS => ?_)
  obtain ⟨hm1, hst⟩ := st_inverse hI hw1
  refine lv_aload_n hx hb dL_law_470 rfl (lv_at hl 2 rfl) ?_
  refine lv_aload_n hx hb dL_law_471 rfl (lv_at hl 0 rfl) ?_
  refine lv_iload hx hb dL_law_472 (lv_at hl 4 rfl) ?_
  refine lv_iconst (v := nI 1) hx hb dL_law_474 (by decide) ?_
  refine lv_iadd hx hb dL_law_475 ?_
  refine wd_ti (x' := nI (4 * k + 1)) (nI_add _ _) ?_
  refine va_sld hx hb hX hbl hbA hS (vp_in_nI (by omega) (by omega)) dL_law_476 ?_
  refine cr_Vi (As := [.int (xs (nI (4 * k + 1)).toNatClampNeg)]) (rest := [.int r1]) ⟨hx, hb, hml, hown, hts⟩ (k4_inverse l g s.heap.size w1 x hs σ hI.ht (xs (nI (4 * k + 1)).toNatClampNeg)) (cw_V 1 hts (fun _ h => h) tw_514 tw_515 tw_516 tw_4 tw_517 rfl rfl (by decide +kernel) ⟨by decide +kernel, by decide +kernel⟩) hK ((congrArg (fun v => gP g v H) hm1).mpr hP) (Nat.le_refl _) hS (mW_0) rfl rfl rfl hl.1 rfl (Nat.le_of_ble_eq_true rfl) dL_law_477 ⟨show 25 + 3 * k + 3 + 0 ≤ 601024 by omega, show 55827 + 1066 * k + 1066 + 0 ≤ 7293034 by omega⟩ (fun r2 w2 H locs hw2 hP hS => ?_)
  obtain ⟨er, σ', hI'⟩ := hst r2 w2 hw2
  refine lv_icmp_eq (tgt := 522) hx hb dL_law_480 (by decide) (fun c1 => ?_) (fun c1 => ?_)
  · refine W.widen (k := 25 + 3 * (k + 1)) (n := 55827 + 1066 * (k + 1)) (by omega) (by omega) ?_
    exact nx w2 σ' H locs ls hI' hP hS hl
  · exact absurd er c1
set_option maxHeartbeats 4000000 in
set_option maxRecDepth 100000 in
theorem law_negated {p : Program} {l : Launch} {e : Env} {s : State} {m : MethodId} {below : List Frame} {meth : Method} {c : Code} {b L : Nat} {xs : Nat → Int32} (C0 : lw_At p s m meth c b L xs) {g : gX} (hK : gK g s) {x : Nat} (hs : s.heap.size ≤ x) {k : Nat} (hk : 4 * k + 4 ≤ L) (hL : L ≤ 2048) {w : wd_M} {σ : St} (hI : IV g x w σ) {H : Heap} {locs : List Loc} {ls : Array Slot} (hP : gP g w H) (hS : gS s.heap.size s.heap H locs) (hl : lv_has ls 7 [(0, .ref b), (1, .ref x), (2, .ref (x + 9)), (3, .ref (x + 24)), (4, .int (nI (4 * k)))]) (nx : ∀ (w : wd_M) (σ : St) (H : Heap) (locs : List Loc) (ls : Array Slot), IV g x w σ → gP g w H → gS s.heap.size s.heap H locs → lv_has ls 7 [(0, .ref b), (1, .ref x), (2, .ref (x + 9)), (3, .ref (x + 24)), (4, .int (nI (4 * k)))] → W p l e room_1 s m #[Value.ref b] below meth c H locs (25 + 3 * (k + 1)) (55827 + 1066 * (k + 1)) (lw_Z below #[Value.ref b] s) (F0 m 522 ls [])) : W p l e room_1 s m #[Value.ref b] below meth c H locs (25 + 3 * k) (55827 + 1066 * k) (lw_Z below #[Value.ref b] s) (F0 m 485 ls []) := by
  obtain ⟨hx, hb, hr, hml, hown, hts0, hX, hbl, hlocks, hgv⟩ := C0
  have hts : ∀ w ∈ tg, w.before #[Value.ref b] s = true := fun w h => hts0 w (tg_in w h)
  have hown : s.vm.findClass RL = some m.cls := hown
  have hb : c.code = cL_law := hb
  have hbA : ¬ (fun q : Nat => s.heap.size ≤ q) b := Nat.not_le.mpr hbl
  refine lv_aload_n hx hb dL_law_485 rfl (lv_at hl 1 rfl) ?_
  refine lv_aload_n hx hb dL_law_486 rfl (lv_at hl 0 rfl) ?_
  refine lv_iload hx hb dL_law_487 (lv_at hl 4 rfl) ?_
  refine lv_iconst (v := nI 1) hx hb dL_law_489 (by decide) ?_
  refine lv_iadd hx hb dL_law_490 ?_
  refine wd_ti (x' := nI (4 * k + 1)) (nI_add _ _) ?_
  refine va_sld hx hb hX hbl hbA hS (vp_in_nI (by omega) (by omega)) dL_law_491 ?_
  refine lv_aload_n hx hb dL_law_492 rfl (lv_at hl 0 rfl) ?_
  refine lv_iload hx hb dL_law_493 (lv_at hl 4 rfl) ?_
  refine lv_iconst (v := nI 2) hx hb dL_law_495 (by decide) ?_
  refine lv_iadd hx hb dL_law_496 ?_
  refine wd_ti (x' := nI (4 * k + 2)) (nI_add _ _) ?_
  refine va_sld hx hb hX hbl hbA hS (vp_in_nI (by omega) (by omega)) dL_law_497 ?_
  refine cr_Vi (As := [.int (xs (nI (4 * k + 1)).toNatClampNeg), .int (xs (nI (4 * k + 2)).toNatClampNeg)]) (rest := []) ⟨hx, hb, hml, hown, hts⟩ (k3_negated l g s.heap.size w x hs σ hI.ht (xs (nI (4 * k + 1)).toNatClampNeg) (xs (nI (4 * k + 2)).toNatClampNeg)) (cw_V 2 hts (fun _ h => h) tw_332 tw_333 tw_334 tw_1 tw_335 rfl rfl (by decide +kernel) ⟨by decide +kernel, by decide +kernel⟩) hK ((congrArg (fun v => gP g v H) hI.c.cx).mpr hP) (Nat.le_refl _) hS (xW_0) rfl rfl rfl hl.1 rfl (Nat.le_of_ble_eq_true rfl) dL_law_498 ⟨show 25 + 3 * k + 3 ≤ 601024 by omega, show 55827 + 1066 * k + 1066 ≤ 7293034 by omega⟩ (fun r1 w1 H locs hw1 hP hS => ?_)
  obtain ⟨hm1, hst⟩ := st_negated hI hw1
  refine lv_aload_n hx hb dL_law_501 rfl (lv_at hl 2 rfl) ?_
  refine lv_aload_n hx hb dL_law_502 rfl (lv_at hl 0 rfl) ?_
  refine lv_iload hx hb dL_law_503 (lv_at hl 4 rfl) ?_
  refine lv_iconst (v := nI 1) hx hb dL_law_505 (by decide) ?_
  refine lv_iadd hx hb dL_law_506 ?_
  refine wd_ti (x' := nI (4 * k + 1)) (nI_add _ _) ?_
  refine va_sld hx hb hX hbl hbA hS (vp_in_nI (by omega) (by omega)) dL_law_507 ?_
  refine lv_aload_n hx hb dL_law_508 rfl (lv_at hl 0 rfl) ?_
  refine lv_iload hx hb dL_law_509 (lv_at hl 4 rfl) ?_
  refine lv_iconst (v := nI 2) hx hb dL_law_511 (by decide) ?_
  refine lv_iadd hx hb dL_law_512 ?_
  refine wd_ti (x' := nI (4 * k + 2)) (nI_add _ _) ?_
  refine va_sld hx hb hX hbl hbA hS (vp_in_nI (by omega) (by omega)) dL_law_513 ?_
  refine cr_Vi (As := [.int (xs (nI (4 * k + 1)).toNatClampNeg), .int (xs (nI (4 * k + 2)).toNatClampNeg)]) (rest := [.int r1]) ⟨hx, hb, hml, hown, hts⟩ (k4_negated l g s.heap.size w1 x hs σ hI.ht (xs (nI (4 * k + 1)).toNatClampNeg) (xs (nI (4 * k + 2)).toNatClampNeg)) (cw_V 2 hts (fun _ h => h) tw_518 tw_519 tw_520 tw_4 tw_521 rfl rfl (by decide +kernel) ⟨by decide +kernel, by decide +kernel⟩) hK ((congrArg (fun v => gP g v H) hm1).mpr hP) (Nat.le_refl _) hS (mW_0) rfl rfl rfl hl.1 rfl (Nat.le_of_ble_eq_true rfl) dL_law_514 ⟨show 25 + 3 * k + 3 + 0 ≤ 601024 by omega, show 55827 + 1066 * k + 1066 + 0 ≤ 7293034 by omega⟩ (fun r2 w2 H locs hw2 hP hS => ?_)
  obtain ⟨er, σ', hI'⟩ := hst r2 w2 hw2
  refine lv_icmp_eq (tgt := 522) hx hb dL_law_517 (by decide) (fun c1 => ?_) (fun c1 => ?_)
  · refine W.widen (k := 25 + 3 * (k + 1)) (n := 55827 + 1066 * (k + 1)) (by omega) (by omega) ?_
    exact nx w2 σ' H locs ls hI' hP hS hl
  · exact absurd er c1
