/-! THE LAW: what holds at its entry; printed by wip/m61.py -/
theorem ivJx00060 : ∀ w ∈ u_ws RJx00060 TJx00060 6, w ∈ tg := by
  show ∀ w ∈ [u_lay RJx00060 TJx00060 0, u_lay RJx00060 TJx00060 1, u_lay RJx00060 TJx00060 2, u_lay RJx00060 TJx00060 3, u_lay RJx00060 TJx00060 4, u_lay RJx00060 TJx00060 5], w ∈ tg
  exact List.forall_mem_cons.mpr ⟨tw_358, List.forall_mem_cons.mpr ⟨tw_360, List.forall_mem_cons.mpr ⟨tw_362, List.forall_mem_cons.mpr ⟨tw_364, List.forall_mem_cons.mpr ⟨tw_366, List.forall_mem_cons.mpr ⟨tw_411, fun _ h => absurd h List.not_mem_nil⟩⟩⟩⟩⟩⟩
theorem arr_of {ty : FieldType} {args : Array Value} {s : State} (h : (Cond.arrayClass ty).before args s = true) : ∃ cA : ClassId, ArrOfT s cA ty ∧ s.vm.findClass ("[" ++ ty.toString) = some cA := by
  obtain ⟨cA, kA, comp, h1, h2, h3⟩ := Cond.arrayClass_spec (args := args) (first := s) (o := none) (s := s) (idx := []) h
  exact ⟨cA, fun n z => ⟨fun k h => (by cases h), kA, h2, comp, h3⟩, h1⟩
theorem arr_ov {C : String} {args : Array Value} {s : State} (h : (Cond.arrayOver (.object C)).before args s = true) : ∃ cA : ClassId, ArrOfT s cA (.object C) ∧ va_RA s cA (.object C) := by
  obtain ⟨comp, cA, kA, h1, h2, h3, h4, h5⟩ := Cond.arrayOver_spec (args := args) (first := s) (o := none) (s := s) (idx := []) h
  exact ⟨cA, fun n z => ⟨fun k h => (by cases h), kA, h3, comp, h4⟩, kA, comp, h3, h4, h1, h5⟩
theorem gK_start {s : State} {args : Array Value} (hts : ∀ w ∈ lw_tbl, w.before args s = true) : ∃ g : gX, gK g s := by
  obtain ⟨c0, i0, k0⟩ := u_known (C := RJx00060) (T := TJx00060) (N := 6) (n := 6) hts (fun w h => tg_in _ (ivJx00060 w h)) (hts (.instantiable RJx00060 6) (tg_in _ tw_346))
  obtain ⟨c1, i1, k1⟩ := u_known (C := RX0) (T := TX0) (N := 10) (n := 10) hts (fun w h => tg_in _ (ivX0 w h)) (hts (.instantiable RX0 10) (tg_in _ tw_117))
  obtain ⟨c2, i2, k2⟩ := u_known (C := RX1) (T := TX1) (N := 5) (n := 5) hts (fun w h => tg_in _ (ivX1 w h)) (hts (.instantiable RX1 5) (tg_in _ tw_44))
  obtain ⟨c3, i3, k3⟩ := u_known (C := RX2) (T := TX2) (N := 3) (n := 3) hts (fun w h => tg_in _ (ivX2 w h)) (hts (.instantiable RX2 3) (tg_in _ tw_21))
  obtain ⟨c4, i4, k4⟩ := u_known (C := RX3) (T := TX3) (N := 6) (n := 6) hts (fun w h => tg_in _ (ivX3 w h)) (hts (.instantiable RX3 6) (tg_in _ tw_13))
  obtain ⟨c5, i5, k5⟩ := u_known (C := RX4) (T := TX4) (N := 21) (n := 21) hts (fun w h => tg_in _ (ivX4 w h)) (hts (.instantiable RX4 21) (tg_in _ tw_417))
  obtain ⟨a0, f0, g0⟩ := arr_of (hts _ (tg_in _ tw_40))
  obtain ⟨a1, f1, g1⟩ := arr_of (hts _ (tg_in _ tw_487))
  obtain ⟨a2, f2, g2⟩ := arr_ov (hts _ tn_42)
  obtain ⟨a3, f3, g3⟩ := arr_of (hts _ (tg_in _ tw_601))
  refine ⟨((fun k => if k = 0 then c0 else if k = 1 then c1 else if k = 2 then c2 else if k = 3 then c3 else if k = 4 then c4 else c5, fun k => if k = 0 then i0 else if k = 1 then i1 else if k = 2 then i2 else if k = 3 then i3 else if k = 4 then i4 else i5), fun k => if k = 0 then a0 else if k = 1 then a1 else if k = 2 then a2 else a3), ⟨fun k q hq => ?_, fun k q hq => ?_⟩, va_AO.of (hts _ tn_42), va_Nw.of rfl (hts _ tn_102), va_Nw.of rfl (hts _ tn_242), va_Nw.of rfl (hts _ tn_280), va_Nw.of rfl (hts _ tn_283)⟩
  · match k, hq with
    | 0, hq => cases hq; exact k0
    | 1, hq => cases hq; exact k1
    | 2, hq => cases hq; exact k2
    | 3, hq => cases hq; exact k3
    | 4, hq => cases hq; exact k4
    | 5, hq => cases hq; exact k5
    | k + 6, hq => simp [vwCl] at hq
  · match k, hq with
    | 0, hq => cases hq; exact ⟨f0, g0⟩
    | 1, hq => cases hq; exact ⟨f1, g1⟩
    | 2, hq => cases hq; exact ⟨f2, g2⟩
    | 3, hq => cases hq; exact ⟨f3, g3⟩
    | k + 4, hq => simp at hq
theorem tE_start {s : State} {args : Array Value} (hts : ∀ w ∈ lw_tbl, w.before args s = true) (hgv : (Jvm.Cond.and given_1 narrow_1).before args s = true) : ∃ sa, tE s.heap.size sa s := by
  have hs := flat_of_before _ hgv
  have r1 : (Cond.isRef (.static "java/lang/Throwable" "UNASSIGNED_STACK" "[Ljava/lang/StackTraceElement;")).before args s = true := hs _ (by decide +kernel)
  have r2 : (Cond.isRef (.static "java/lang/Throwable" "SUPPRESSED_SENTINEL" "Ljava/util/List;")).before args s = true := hs _ (by decide +kernel)
  have r3 : (Cond.exactly (.string "PathSteps" 110) "java/lang/String").before args s = true := hs _ (by decide +kernel)
  obtain ⟨a, c, cA, kA, q1, -⟩ := Cond.exactly_spec (args := args) (first := s) (o := none) (s := s) (idx := []) (t := .string "PathSteps" 110) (cls := "java/lang/String") r3
  have ha : ∀ w ∈ tnE, w.before args s = true := List.forall_mem_cons.mpr ⟨hts _ tn_347, List.forall_mem_cons.mpr ⟨hts _ tn_349, List.forall_mem_cons.mpr ⟨hts _ tn_351, List.forall_mem_cons.mpr ⟨hts _ tn_353, List.forall_mem_cons.mpr ⟨hts _ tn_355, fun _ h => absurd h List.not_mem_nil⟩⟩⟩⟩⟩
  exact ⟨a, fun w hw => va_tabs (tnE_ok w hw).2 rfl (ha w hw), ⟨stO.of (hts _ tn_374) r1, stO.of (hts _ tn_376) r2⟩, vk_R.of (A := args) (hts _ tn_386) q1⟩
