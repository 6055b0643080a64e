/-! FRAMES: the reference's cells, a PATH's, the fixed cells of the class: each block as one map -/
def mW (g : gX) (w : wd_M) (h : Nat) (rf : Int32) (nt : Int32) (np : Int32) (mo : Int32) (gb : Int32) (wr : Int32) (nr : Int32) (su : Nat → Int32) (pr : Nat → Int32) (ob : Nat → Int32) (ki : Nat → Int32) (fi : Nat → Int32) (se : Nat → Int32) (ta : Nat → Int32) (nd : Nat → Int32) (ii : Nat → Int32) (sp : Nat → Int32) (qu : Nat → Int32) (rF : Nat → Int32) (rT : Nat → Int32) (rD : Nat → Int32) : wd_M := fun a => if a = h then some (.inr (5, [.int (rf), .ref (h + 1), .ref (h + 2), .ref (h + 3), .int (nt), .ref (h + 4), .ref (h + 5), .ref (h + 6), .int (np), .int (mo), .ref (h + 7), .ref (h + 8), .ref (h + 9), .int (gb), .ref (h + 10), .ref (h + 11), .int (wr), .int (nr), .ref (h + 12), .ref (h + 13), .ref (h + 14)])) else if a = (h + 1) then some (wd_iA (g.2 0) 150 (su)) else if a = (h + 2) then some (wd_iA (g.2 0) 150 (pr)) else if a = (h + 3) then some (wd_iA (g.2 0) 150 (ob)) else if a = (h + 4) then some (wd_iA (g.2 0) 41 (ki)) else if a = (h + 5) then some (wd_iA (g.2 0) 41 (fi)) else if a = (h + 6) then some (wd_iA (g.2 0) 41 (se)) else if a = (h + 7) then some (wd_iA (g.2 0) 41984 (ta)) else if a = (h + 8) then some (wd_iA (g.2 1) 41 (nd)) else if a = (h + 9) then some (wd_iA (g.2 1) 32 (ii)) else if a = (h + 10) then some (wd_iA (g.2 0) 32 (sp)) else if a = (h + 11) then some (wd_iA (g.2 0) 32 (qu)) else if a = (h + 12) then some (wd_iA (g.2 0) 2000 (rF)) else if a = (h + 13) then some (wd_iA (g.2 0) 2000 (rT)) else if a = (h + 14) then some (wd_iA (g.2 0) 2000 (rD)) else w a
theorem mW_0 {g : gX} {w : wd_M} {h : Nat} {rf : Int32} {nt : Int32} {np : Int32} {mo : Int32} {gb : Int32} {wr : Int32} {nr : Int32} {su : Nat → Int32} {pr : Nat → Int32} {ob : Nat → Int32} {ki : Nat → Int32} {fi : Nat → Int32} {se : Nat → Int32} {ta : Nat → Int32} {nd : Nat → Int32} {ii : Nat → Int32} {sp : Nat → Int32} {qu : Nat → Int32} {rF : Nat → Int32} {rT : Nat → Int32} {rD : Nat → Int32} : (mW g w h rf nt np mo gb wr nr su pr ob ki fi se ta nd ii sp qu rF rT rD) h = some (.inr (5, [.int (rf), .ref (h + 1), .ref (h + 2), .ref (h + 3), .int (nt), .ref (h + 4), .ref (h + 5), .ref (h + 6), .int (np), .int (mo), .ref (h + 7), .ref (h + 8), .ref (h + 9), .int (gb), .ref (h + 10), .ref (h + 11), .int (wr), .int (nr), .ref (h + 12), .ref (h + 13), .ref (h + 14)])) := by
  unfold mW
  rw [if_pos rfl]
theorem mW_1 {g : gX} {w : wd_M} {h : Nat} {rf : Int32} {nt : Int32} {np : Int32} {mo : Int32} {gb : Int32} {wr : Int32} {nr : Int32} {su : Nat → Int32} {pr : Nat → Int32} {ob : Nat → Int32} {ki : Nat → Int32} {fi : Nat → Int32} {se : Nat → Int32} {ta : Nat → Int32} {nd : Nat → Int32} {ii : Nat → Int32} {sp : Nat → Int32} {qu : Nat → Int32} {rF : Nat → Int32} {rT : Nat → Int32} {rD : Nat → Int32} : (mW g w h rf nt np mo gb wr nr su pr ob ki fi se ta nd ii sp qu rF rT rD) (h + 1) = some (wd_iA (g.2 0) 150 (su)) := by
  unfold mW
  rw [if_neg (by omega)]
  rw [if_pos rfl]
theorem mW_2 {g : gX} {w : wd_M} {h : Nat} {rf : Int32} {nt : Int32} {np : Int32} {mo : Int32} {gb : Int32} {wr : Int32} {nr : Int32} {su : Nat → Int32} {pr : Nat → Int32} {ob : Nat → Int32} {ki : Nat → Int32} {fi : Nat → Int32} {se : Nat → Int32} {ta : Nat → Int32} {nd : Nat → Int32} {ii : Nat → Int32} {sp : Nat → Int32} {qu : Nat → Int32} {rF : Nat → Int32} {rT : Nat → Int32} {rD : Nat → Int32} : (mW g w h rf nt np mo gb wr nr su pr ob ki fi se ta nd ii sp qu rF rT rD) (h + 2) = some (wd_iA (g.2 0) 150 (pr)) := by
  unfold mW
  rw [if_neg (by omega)]
  rw [if_neg (by omega)]
  rw [if_pos rfl]
theorem mW_3 {g : gX} {w : wd_M} {h : Nat} {rf : Int32} {nt : Int32} {np : Int32} {mo : Int32} {gb : Int32} {wr : Int32} {nr : Int32} {su : Nat → Int32} {pr : Nat → Int32} {ob : Nat → Int32} {ki : Nat → Int32} {fi : Nat → Int32} {se : Nat → Int32} {ta : Nat → Int32} {nd : Nat → Int32} {ii : Nat → Int32} {sp : Nat → Int32} {qu : Nat → Int32} {rF : Nat → Int32} {rT : Nat → Int32} {rD : Nat → Int32} : (mW g w h rf nt np mo gb wr nr su pr ob ki fi se ta nd ii sp qu rF rT rD) (h + 3) = some (wd_iA (g.2 0) 150 (ob)) := by
  unfold mW
  rw [if_neg (by omega)]
  rw [if_neg (by omega)]
  rw [if_neg (by omega)]
  rw [if_pos rfl]
theorem mW_4 {g : gX} {w : wd_M} {h : Nat} {rf : Int32} {nt : Int32} {np : Int32} {mo : Int32} {gb : Int32} {wr : Int32} {nr : Int32} {su : Nat → Int32} {pr : Nat → Int32} {ob : Nat → Int32} {ki : Nat → Int32} {fi : Nat → Int32} {se : Nat → Int32} {ta : Nat → Int32} {nd : Nat → Int32} {ii : Nat → Int32} {sp : Nat → Int32} {qu : Nat → Int32} {rF : Nat → Int32} {rT : Nat → Int32} {rD : Nat → Int32} : (mW g w h rf nt np mo gb wr nr su pr ob ki fi se ta nd ii sp qu rF rT rD) (h + 4) = some (wd_iA (g.2 0) 41 (ki)) := by
  unfold mW
  rw [if_neg (by omega)]
  rw [if_neg (by omega)]
  rw [if_neg (by omega)]
  rw [if_neg (by omega)]
  rw [if_pos rfl]
theorem mW_5 {g : gX} {w : wd_M} {h : Nat} {rf : Int32} {nt : Int32} {np : Int32} {mo : Int32} {gb : Int32} {wr : Int32} {nr : Int32} {su : Nat → Int32} {pr : Nat → Int32} {ob : Nat → Int32} {ki : Nat → Int32} {fi : Nat → Int32} {se : Nat → Int32} {ta : Nat → Int32} {nd : Nat → Int32} {ii : Nat → Int32} {sp : Nat → Int32} {qu : Nat → Int32} {rF : Nat → Int32} {rT : Nat → Int32} {rD : Nat → Int32} : (mW g w h rf nt np mo gb wr nr su pr ob ki fi se ta nd ii sp qu rF rT rD) (h + 5) = some (wd_iA (g.2 0) 41 (fi)) := by
  unfold mW
  rw [if_neg (by omega)]
  rw [if_neg (by omega)]
  rw [if_neg (by omega)]
  rw [if_neg (by omega)]
  rw [if_neg (by omega)]
  rw [if_pos rfl]
theorem mW_6 {g : gX} {w : wd_M} {h : Nat} {rf : Int32} {nt : Int32} {np : Int32} {mo : Int32} {gb : Int32} {wr : Int32} {nr : Int32} {su : Nat → Int32} {pr : Nat → Int32} {ob : Nat → Int32} {ki : Nat → Int32} {fi : Nat → Int32} {se : Nat → Int32} {ta : Nat → Int32} {nd : Nat → Int32} {ii : Nat → Int32} {sp : Nat → Int32} {qu : Nat → Int32} {rF : Nat → Int32} {rT : Nat → Int32} {rD : Nat → Int32} : (mW g w h rf nt np mo gb wr nr su pr ob ki fi se ta nd ii sp qu rF rT rD) (h + 6) = some (wd_iA (g.2 0) 41 (se)) := by
  unfold mW
  rw [if_neg (by omega)]
  rw [if_neg (by omega)]
  rw [if_neg (by omega)]
  rw [if_neg (by omega)]
  rw [if_neg (by omega)]
  rw [if_neg (by omega)]
  rw [if_pos rfl]
theorem mW_7 {g : gX} {w : wd_M} {h : Nat} {rf : Int32} {nt : Int32} {np : Int32} {mo : Int32} {gb : Int32} {wr : Int32} {nr : Int32} {su : Nat → Int32} {pr : Nat → Int32} {ob : Nat → Int32} {ki : Nat → Int32} {fi : Nat → Int32} {se : Nat → Int32} {ta : Nat → Int32} {nd : Nat → Int32} {ii : Nat → Int32} {sp : Nat → Int32} {qu : Nat → Int32} {rF : Nat → Int32} {rT : Nat → Int32} {rD : Nat → Int32} : (mW g w h rf nt np mo gb wr nr su pr ob ki fi se ta nd ii sp qu rF rT rD) (h + 7) = some (wd_iA (g.2 0) 41984 (ta)) := by
  unfold mW
  rw [if_neg (by omega)]
  rw [if_neg (by omega)]
  rw [if_neg (by omega)]
  rw [if_neg (by omega)]
  rw [if_neg (by omega)]
  rw [if_neg (by omega)]
  rw [if_neg (by omega)]
  rw [if_pos rfl]
theorem mW_8 {g : gX} {w : wd_M} {h : Nat} {rf : Int32} {nt : Int32} {np : Int32} {mo : Int32} {gb : Int32} {wr : Int32} {nr : Int32} {su : Nat → Int32} {pr : Nat → Int32} {ob : Nat → Int32} {ki : Nat → Int32} {fi : Nat → Int32} {se : Nat → Int32} {ta : Nat → Int32} {nd : Nat → Int32} {ii : Nat → Int32} {sp : Nat → Int32} {qu : Nat → Int32} {rF : Nat → Int32} {rT : Nat → Int32} {rD : Nat → Int32} : (mW g w h rf nt np mo gb wr nr su pr ob ki fi se ta nd ii sp qu rF rT rD) (h + 8) = some (wd_iA (g.2 1) 41 (nd)) := by
  unfold mW
  rw [if_neg (by omega)]
  rw [if_neg (by omega)]
  rw [if_neg (by omega)]
  rw [if_neg (by omega)]
  rw [if_neg (by omega)]
  rw [if_neg (by omega)]
  rw [if_neg (by omega)]
  rw [if_neg (by omega)]
  rw [if_pos rfl]
theorem mW_9 {g : gX} {w : wd_M} {h : Nat} {rf : Int32} {nt : Int32} {np : Int32} {mo : Int32} {gb : Int32} {wr : Int32} {nr : Int32} {su : Nat → Int32} {pr : Nat → Int32} {ob : Nat → Int32} {ki : Nat → Int32} {fi : Nat → Int32} {se : Nat → Int32} {ta : Nat → Int32} {nd : Nat → Int32} {ii : Nat → Int32} {sp : Nat → Int32} {qu : Nat → Int32} {rF : Nat → Int32} {rT : Nat → Int32} {rD : Nat → Int32} : (mW g w h rf nt np mo gb wr nr su pr ob ki fi se ta nd ii sp qu rF rT rD) (h + 9) = some (wd_iA (g.2 1) 32 (ii)) := by
  unfold mW
  rw [if_neg (by omega)]
  rw [if_neg (by omega)]
  rw [if_neg (by omega)]
  rw [if_neg (by omega)]
  rw [if_neg (by omega)]
  rw [if_neg (by omega)]
  rw [if_neg (by omega)]
  rw [if_neg (by omega)]
  rw [if_neg (by omega)]
  rw [if_pos rfl]
theorem mW_10 {g : gX} {w : wd_M} {h : Nat} {rf : Int32} {nt : Int32} {np : Int32} {mo : Int32} {gb : Int32} {wr : Int32} {nr : Int32} {su : Nat → Int32} {pr : Nat → Int32} {ob : Nat → Int32} {ki : Nat → Int32} {fi : Nat → Int32} {se : Nat → Int32} {ta : Nat → Int32} {nd : Nat → Int32} {ii : Nat → Int32} {sp : Nat → Int32} {qu : Nat → Int32} {rF : Nat → Int32} {rT : Nat → Int32} {rD : Nat → Int32} : (mW g w h rf nt np mo gb wr nr su pr ob ki fi se ta nd ii sp qu rF rT rD) (h + 10) = some (wd_iA (g.2 0) 32 (sp)) := by
  unfold mW
  rw [if_neg (by omega)]
  rw [if_neg (by omega)]
  rw [if_neg (by omega)]
  rw [if_neg (by omega)]
  rw [if_neg (by omega)]
  rw [if_neg (by omega)]
  rw [if_neg (by omega)]
  rw [if_neg (by omega)]
  rw [if_neg (by omega)]
  rw [if_neg (by omega)]
  rw [if_pos rfl]
theorem mW_11 {g : gX} {w : wd_M} {h : Nat} {rf : Int32} {nt : Int32} {np : Int32} {mo : Int32} {gb : Int32} {wr : Int32} {nr : Int32} {su : Nat → Int32} {pr : Nat → Int32} {ob : Nat → Int32} {ki : Nat → Int32} {fi : Nat → Int32} {se : Nat → Int32} {ta : Nat → Int32} {nd : Nat → Int32} {ii : Nat → Int32} {sp : Nat → Int32} {qu : Nat → Int32} {rF : Nat → Int32} {rT : Nat → Int32} {rD : Nat → Int32} : (mW g w h rf nt np mo gb wr nr su pr ob ki fi se ta nd ii sp qu rF rT rD) (h + 11) = some (wd_iA (g.2 0) 32 (qu)) := by
  unfold mW
  rw [if_neg (by omega)]
  rw [if_neg (by omega)]
  rw [if_neg (by omega)]
  rw [if_neg (by omega)]
  rw [if_neg (by omega)]
  rw [if_neg (by omega)]
  rw [if_neg (by omega)]
  rw [if_neg (by omega)]
  rw [if_neg (by omega)]
  rw [if_neg (by omega)]
  rw [if_neg (by omega)]
  rw [if_pos rfl]
theorem mW_12 {g : gX} {w : wd_M} {h : Nat} {rf : Int32} {nt : Int32} {np : Int32} {mo : Int32} {gb : Int32} {wr : Int32} {nr : Int32} {su : Nat → Int32} {pr : Nat → Int32} {ob : Nat → Int32} {ki : Nat → Int32} {fi : Nat → Int32} {se : Nat → Int32} {ta : Nat → Int32} {nd : Nat → Int32} {ii : Nat → Int32} {sp : Nat → Int32} {qu : Nat → Int32} {rF : Nat → Int32} {rT : Nat → Int32} {rD : Nat → Int32} : (mW g w h rf nt np mo gb wr nr su pr ob ki fi se ta nd ii sp qu rF rT rD) (h + 12) = some (wd_iA (g.2 0) 2000 (rF)) := by
  unfold mW
  rw [if_neg (by omega)]
  rw [if_neg (by omega)]
  rw [if_neg (by omega)]
  rw [if_neg (by omega)]
  rw [if_neg (by omega)]
  rw [if_neg (by omega)]
  rw [if_neg (by omega)]
  rw [if_neg (by omega)]
  rw [if_neg (by omega)]
  rw [if_neg (by omega)]
  rw [if_neg (by omega)]
  rw [if_neg (by omega)]
  rw [if_pos rfl]
theorem mW_13 {g : gX} {w : wd_M} {h : Nat} {rf : Int32} {nt : Int32} {np : Int32} {mo : Int32} {gb : Int32} {wr : Int32} {nr : Int32} {su : Nat → Int32} {pr : Nat → Int32} {ob : Nat → Int32} {ki : Nat → Int32} {fi : Nat → Int32} {se : Nat → Int32} {ta : Nat → Int32} {nd : Nat → Int32} {ii : Nat → Int32} {sp : Nat → Int32} {qu : Nat → Int32} {rF : Nat → Int32} {rT : Nat → Int32} {rD : Nat → Int32} : (mW g w h rf nt np mo gb wr nr su pr ob ki fi se ta nd ii sp qu rF rT rD) (h + 13) = some (wd_iA (g.2 0) 2000 (rT)) := by
  unfold mW
  rw [if_neg (by omega)]
  rw [if_neg (by omega)]
  rw [if_neg (by omega)]
  rw [if_neg (by omega)]
  rw [if_neg (by omega)]
  rw [if_neg (by omega)]
  rw [if_neg (by omega)]
  rw [if_neg (by omega)]
  rw [if_neg (by omega)]
  rw [if_neg (by omega)]
  rw [if_neg (by omega)]
  rw [if_neg (by omega)]
  rw [if_neg (by omega)]
  rw [if_pos rfl]
theorem mW_14 {g : gX} {w : wd_M} {h : Nat} {rf : Int32} {nt : Int32} {np : Int32} {mo : Int32} {gb : Int32} {wr : Int32} {nr : Int32} {su : Nat → Int32} {pr : Nat → Int32} {ob : Nat → Int32} {ki : Nat → Int32} {fi : Nat → Int32} {se : Nat → Int32} {ta : Nat → Int32} {nd : Nat → Int32} {ii : Nat → Int32} {sp : Nat → Int32} {qu : Nat → Int32} {rF : Nat → Int32} {rT : Nat → Int32} {rD : Nat → Int32} : (mW g w h rf nt np mo gb wr nr su pr ob ki fi se ta nd ii sp qu rF rT rD) (h + 14) = some (wd_iA (g.2 0) 2000 (rD)) := by
  unfold mW
  rw [if_neg (by omega)]
  rw [if_neg (by omega)]
  rw [if_neg (by omega)]
  rw [if_neg (by omega)]
  rw [if_neg (by omega)]
  rw [if_neg (by omega)]
  rw [if_neg (by omega)]
  rw [if_neg (by omega)]
  rw [if_neg (by omega)]
  rw [if_neg (by omega)]
  rw [if_neg (by omega)]
  rw [if_neg (by omega)]
  rw [if_neg (by omega)]
  rw [if_neg (by omega)]
  rw [if_pos rfl]
theorem mW_out {g : gX} {w : wd_M} {h : Nat} {rf : Int32} {nt : Int32} {np : Int32} {mo : Int32} {gb : Int32} {wr : Int32} {nr : Int32} {su : Nat → Int32} {pr : Nat → Int32} {ob : Nat → Int32} {ki : Nat → Int32} {fi : Nat → Int32} {se : Nat → Int32} {ta : Nat → Int32} {nd : Nat → Int32} {ii : Nat → Int32} {sp : Nat → Int32} {qu : Nat → Int32} {rF : Nat → Int32} {rT : Nat → Int32} {rD : Nat → Int32} {a : Nat} (h9 : a < h ∨ h + 15 ≤ a) : (mW g w h rf nt np mo gb wr nr su pr ob ki fi se ta nd ii sp qu rF rT rD) a = w a := by
  unfold mW
  rw [if_neg (by omega)]
  rw [if_neg (by omega)]
  rw [if_neg (by omega)]
  rw [if_neg (by omega)]
  rw [if_neg (by omega)]
  rw [if_neg (by omega)]
  rw [if_neg (by omega)]
  rw [if_neg (by omega)]
  rw [if_neg (by omega)]
  rw [if_neg (by omega)]
  rw [if_neg (by omega)]
  rw [if_neg (by omega)]
  rw [if_neg (by omega)]
  rw [if_neg (by omega)]
  rw [if_neg (by omega)]
theorem mW_s0 {g : gX} {w : wd_M} {h : Nat} {rf : Int32} {nt : Int32} {np : Int32} {mo : Int32} {gb : Int32} {wr : Int32} {nr : Int32} {su : Nat → Int32} {pr : Nat → Int32} {ob : Nat → Int32} {ki : Nat → Int32} {fi : Nat → Int32} {se : Nat → Int32} {ta : Nat → Int32} {nd : Nat → Int32} {ii : Nat → Int32} {sp : Nat → Int32} {qu : Nat → Int32} {rF : Nat → Int32} {rT : Nat → Int32} {rD : Nat → Int32} {rf' : Int32} {nt' : Int32} {np' : Int32} {mo' : Int32} {gb' : Int32} {wr' : Int32} {nr' : Int32} : wd_up (mW g w h rf nt np mo gb wr nr su pr ob ki fi se ta nd ii sp qu rF rT rD) h (.inr (5, [.int (rf'), .ref (h + 1), .ref (h + 2), .ref (h + 3), .int (nt'), .ref (h + 4), .ref (h + 5), .ref (h + 6), .int (np'), .int (mo'), .ref (h + 7), .ref (h + 8), .ref (h + 9), .int (gb'), .ref (h + 10), .ref (h + 11), .int (wr'), .int (nr'), .ref (h + 12), .ref (h + 13), .ref (h + 14)])) = (mW g w h rf' nt' np' mo' gb' wr' nr' su pr ob ki fi se ta nd ii sp qu rF rT rD) := by
  funext b
  unfold wd_up mW
  by_cases h9 : b = h
  · rw [if_pos h9]
    subst h9
    rw [if_pos rfl]
  · rw [if_neg h9]
    simp only [if_neg h9]
theorem mW_s1 {g : gX} {w : wd_M} {h : Nat} {rf : Int32} {nt : Int32} {np : Int32} {mo : Int32} {gb : Int32} {wr : Int32} {nr : Int32} {su : Nat → Int32} {pr : Nat → Int32} {ob : Nat → Int32} {ki : Nat → Int32} {fi : Nat → Int32} {se : Nat → Int32} {ta : Nat → Int32} {nd : Nat → Int32} {ii : Nat → Int32} {sp : Nat → Int32} {qu : Nat → Int32} {rF : Nat → Int32} {rT : Nat → Int32} {rD : Nat → Int32} {su' : Nat → Int32} : wd_up (mW g w h rf nt np mo gb wr nr su pr ob ki fi se ta nd ii sp qu rF rT rD) (h + 1) (wd_iA (g.2 0) 150 (su')) = (mW g w h rf nt np mo gb wr nr su' pr ob ki fi se ta nd ii sp qu rF rT rD) := by
  funext b
  unfold wd_up mW
  by_cases h9 : b = (h + 1)
  · rw [if_pos h9]
    subst h9
    rw [if_neg (by omega)]; rw [if_pos rfl]
  · rw [if_neg h9]
    simp only [if_neg h9]
theorem mW_s2 {g : gX} {w : wd_M} {h : Nat} {rf : Int32} {nt : Int32} {np : Int32} {mo : Int32} {gb : Int32} {wr : Int32} {nr : Int32} {su : Nat → Int32} {pr : Nat → Int32} {ob : Nat → Int32} {ki : Nat → Int32} {fi : Nat → Int32} {se : Nat → Int32} {ta : Nat → Int32} {nd : Nat → Int32} {ii : Nat → Int32} {sp : Nat → Int32} {qu : Nat → Int32} {rF : Nat → Int32} {rT : Nat → Int32} {rD : Nat → Int32} {pr' : Nat → Int32} : wd_up (mW g w h rf nt np mo gb wr nr su pr ob ki fi se ta nd ii sp qu rF rT rD) (h + 2) (wd_iA (g.2 0) 150 (pr')) = (mW g w h rf nt np mo gb wr nr su pr' ob ki fi se ta nd ii sp qu rF rT rD) := by
  funext b
  unfold wd_up mW
  by_cases h9 : b = (h + 2)
  · rw [if_pos h9]
    subst h9
    rw [if_neg (by omega)]; rw [if_neg (by omega)]; rw [if_pos rfl]
  · rw [if_neg h9]
    simp only [if_neg h9]
theorem mW_s3 {g : gX} {w : wd_M} {h : Nat} {rf : Int32} {nt : Int32} {np : Int32} {mo : Int32} {gb : Int32} {wr : Int32} {nr : Int32} {su : Nat → Int32} {pr : Nat → Int32} {ob : Nat → Int32} {ki : Nat → Int32} {fi : Nat → Int32} {se : Nat → Int32} {ta : Nat → Int32} {nd : Nat → Int32} {ii : Nat → Int32} {sp : Nat → Int32} {qu : Nat → Int32} {rF : Nat → Int32} {rT : Nat → Int32} {rD : Nat → Int32} {ob' : Nat → Int32} : wd_up (mW g w h rf nt np mo gb wr nr su pr ob ki fi se ta nd ii sp qu rF rT rD) (h + 3) (wd_iA (g.2 0) 150 (ob')) = (mW g w h rf nt np mo gb wr nr su pr ob' ki fi se ta nd ii sp qu rF rT rD) := by
  funext b
  unfold wd_up mW
  by_cases h9 : b = (h + 3)
  · rw [if_pos h9]
    subst h9
    rw [if_neg (by omega)]; rw [if_neg (by omega)]; rw [if_neg (by omega)]; rw [if_pos rfl]
  · rw [if_neg h9]
    simp only [if_neg h9]
theorem mW_s4 {g : gX} {w : wd_M} {h : Nat} {rf : Int32} {nt : Int32} {np : Int32} {mo : Int32} {gb : Int32} {wr : Int32} {nr : Int32} {su : Nat → Int32} {pr : Nat → Int32} {ob : Nat → Int32} {ki : Nat → Int32} {fi : Nat → Int32} {se : Nat → Int32} {ta : Nat → Int32} {nd : Nat → Int32} {ii : Nat → Int32} {sp : Nat → Int32} {qu : Nat → Int32} {rF : Nat → Int32} {rT : Nat → Int32} {rD : Nat → Int32} {ki' : Nat → Int32} : wd_up (mW g w h rf nt np mo gb wr nr su pr ob ki fi se ta nd ii sp qu rF rT rD) (h + 4) (wd_iA (g.2 0) 41 (ki')) = (mW g w h rf nt np mo gb wr nr su pr ob ki' fi se ta nd ii sp qu rF rT rD) := by
  funext b
  unfold wd_up mW
  by_cases h9 : b = (h + 4)
  · rw [if_pos h9]
    subst h9
    rw [if_neg (by omega)]; rw [if_neg (by omega)]; rw [if_neg (by omega)]; rw [if_neg (by omega)]; rw [if_pos rfl]
  · rw [if_neg h9]
    simp only [if_neg h9]
theorem mW_s5 {g : gX} {w : wd_M} {h : Nat} {rf : Int32} {nt : Int32} {np : Int32} {mo : Int32} {gb : Int32} {wr : Int32} {nr : Int32} {su : Nat → Int32} {pr : Nat → Int32} {ob : Nat → Int32} {ki : Nat → Int32} {fi : Nat → Int32} {se : Nat → Int32} {ta : Nat → Int32} {nd : Nat → Int32} {ii : Nat → Int32} {sp : Nat → Int32} {qu : Nat → Int32} {rF : Nat → Int32} {rT : Nat → Int32} {rD : Nat → Int32} {fi' : Nat → Int32} : wd_up (mW g w h rf nt np mo gb wr nr su pr ob ki fi se ta nd ii sp qu rF rT rD) (h + 5) (wd_iA (g.2 0) 41 (fi')) = (mW g w h rf nt np mo gb wr nr su pr ob ki fi' se ta nd ii sp qu rF rT rD) := by
  funext b
  unfold wd_up mW
  by_cases h9 : b = (h + 5)
  · rw [if_pos h9]
    subst h9
    rw [if_neg (by omega)]; rw [if_neg (by omega)]; rw [if_neg (by omega)]; rw [if_neg (by omega)]; rw [if_neg (by omega)]; rw [if_pos rfl]
  · rw [if_neg h9]
    simp only [if_neg h9]
theorem mW_s6 {g : gX} {w : wd_M} {h : Nat} {rf : Int32} {nt : Int32} {np : Int32} {mo : Int32} {gb : Int32} {wr : Int32} {nr : Int32} {su : Nat → Int32} {pr : Nat → Int32} {ob : Nat → Int32} {ki : Nat → Int32} {fi : Nat → Int32} {se : Nat → Int32} {ta : Nat → Int32} {nd : Nat → Int32} {ii : Nat → Int32} {sp : Nat → Int32} {qu : Nat → Int32} {rF : Nat → Int32} {rT : Nat → Int32} {rD : Nat → Int32} {se' : Nat → Int32} : wd_up (mW g w h rf nt np mo gb wr nr su pr ob ki fi se ta nd ii sp qu rF rT rD) (h + 6) (wd_iA (g.2 0) 41 (se')) = (mW g w h rf nt np mo gb wr nr su pr ob ki fi se' ta nd ii sp qu rF rT rD) := by
  funext b
  unfold wd_up mW
  by_cases h9 : b = (h + 6)
  · rw [if_pos h9]
    subst h9
    rw [if_neg (by omega)]; rw [if_neg (by omega)]; rw [if_neg (by omega)]; rw [if_neg (by omega)]; rw [if_neg (by omega)]; rw [if_neg (by omega)]; rw [if_pos rfl]
  · rw [if_neg h9]
    simp only [if_neg h9]
theorem mW_s7 {g : gX} {w : wd_M} {h : Nat} {rf : Int32} {nt : Int32} {np : Int32} {mo : Int32} {gb : Int32} {wr : Int32} {nr : Int32} {su : Nat → Int32} {pr : Nat → Int32} {ob : Nat → Int32} {ki : Nat → Int32} {fi : Nat → Int32} {se : Nat → Int32} {ta : Nat → Int32} {nd : Nat → Int32} {ii : Nat → Int32} {sp : Nat → Int32} {qu : Nat → Int32} {rF : Nat → Int32} {rT : Nat → Int32} {rD : Nat → Int32} {ta' : Nat → Int32} : wd_up (mW g w h rf nt np mo gb wr nr su pr ob ki fi se ta nd ii sp qu rF rT rD) (h + 7) (wd_iA (g.2 0) 41984 (ta')) = (mW g w h rf nt np mo gb wr nr su pr ob ki fi se ta' nd ii sp qu rF rT rD) := by
  funext b
  unfold wd_up mW
  by_cases h9 : b = (h + 7)
  · rw [if_pos h9]
    subst h9
    rw [if_neg (by omega)]; rw [if_neg (by omega)]; rw [if_neg (by omega)]; rw [if_neg (by omega)]; rw [if_neg (by omega)]; rw [if_neg (by omega)]; rw [if_neg (by omega)]; rw [if_pos rfl]
  · rw [if_neg h9]
    simp only [if_neg h9]
theorem mW_s8 {g : gX} {w : wd_M} {h : Nat} {rf : Int32} {nt : Int32} {np : Int32} {mo : Int32} {gb : Int32} {wr : Int32} {nr : Int32} {su : Nat → Int32} {pr : Nat → Int32} {ob : Nat → Int32} {ki : Nat → Int32} {fi : Nat → Int32} {se : Nat → Int32} {ta : Nat → Int32} {nd : Nat → Int32} {ii : Nat → Int32} {sp : Nat → Int32} {qu : Nat → Int32} {rF : Nat → Int32} {rT : Nat → Int32} {rD : Nat → Int32} {nd' : Nat → Int32} : wd_up (mW g w h rf nt np mo gb wr nr su pr ob ki fi se ta nd ii sp qu rF rT rD) (h + 8) (wd_iA (g.2 1) 41 (nd')) = (mW g w h rf nt np mo gb wr nr su pr ob ki fi se ta nd' ii sp qu rF rT rD) := by
  funext b
  unfold wd_up mW
  by_cases h9 : b = (h + 8)
  · rw [if_pos h9]
    subst h9
    rw [if_neg (by omega)]; rw [if_neg (by omega)]; rw [if_neg (by omega)]; rw [if_neg (by omega)]; rw [if_neg (by omega)]; rw [if_neg (by omega)]; rw [if_neg (by omega)]; rw [if_neg (by omega)]; rw [if_pos rfl]
  · rw [if_neg h9]
    simp only [if_neg h9]
theorem mW_s9 {g : gX} {w : wd_M} {h : Nat} {rf : Int32} {nt : Int32} {np : Int32} {mo : Int32} {gb : Int32} {wr : Int32} {nr : Int32} {su : Nat → Int32} {pr : Nat → Int32} {ob : Nat → Int32} {ki : Nat → Int32} {fi : Nat → Int32} {se : Nat → Int32} {ta : Nat → Int32} {nd : Nat → Int32} {ii : Nat → Int32} {sp : Nat → Int32} {qu : Nat → Int32} {rF : Nat → Int32} {rT : Nat → Int32} {rD : Nat → Int32} {ii' : Nat → Int32} : wd_up (mW g w h rf nt np mo gb wr nr su pr ob ki fi se ta nd ii sp qu rF rT rD) (h + 9) (wd_iA (g.2 1) 32 (ii')) = (mW g w h rf nt np mo gb wr nr su pr ob ki fi se ta nd ii' sp qu rF rT rD) := by
  funext b
  unfold wd_up mW
  by_cases h9 : b = (h + 9)
  · rw [if_pos h9]
    subst h9
    rw [if_neg (by omega)]; rw [if_neg (by omega)]; rw [if_neg (by omega)]; rw [if_neg (by omega)]; rw [if_neg (by omega)]; rw [if_neg (by omega)]; rw [if_neg (by omega)]; rw [if_neg (by omega)]; rw [if_neg (by omega)]; rw [if_pos rfl]
  · rw [if_neg h9]
    simp only [if_neg h9]
theorem mW_s10 {g : gX} {w : wd_M} {h : Nat} {rf : Int32} {nt : Int32} {np : Int32} {mo : Int32} {gb : Int32} {wr : Int32} {nr : Int32} {su : Nat → Int32} {pr : Nat → Int32} {ob : Nat → Int32} {ki : Nat → Int32} {fi : Nat → Int32} {se : Nat → Int32} {ta : Nat → Int32} {nd : Nat → Int32} {ii : Nat → Int32} {sp : Nat → Int32} {qu : Nat → Int32} {rF : Nat → Int32} {rT : Nat → Int32} {rD : Nat → Int32} {sp' : Nat → Int32} : wd_up (mW g w h rf nt np mo gb wr nr su pr ob ki fi se ta nd ii sp qu rF rT rD) (h + 10) (wd_iA (g.2 0) 32 (sp')) = (mW g w h rf nt np mo gb wr nr su pr ob ki fi se ta nd ii sp' qu rF rT rD) := by
  funext b
  unfold wd_up mW
  by_cases h9 : b = (h + 10)
  · rw [if_pos h9]
    subst h9
    rw [if_neg (by omega)]; rw [if_neg (by omega)]; rw [if_neg (by omega)]; rw [if_neg (by omega)]; rw [if_neg (by omega)]; rw [if_neg (by omega)]; rw [if_neg (by omega)]; rw [if_neg (by omega)]; rw [if_neg (by omega)]; rw [if_neg (by omega)]; rw [if_pos rfl]
  · rw [if_neg h9]
    simp only [if_neg h9]
theorem mW_s11 {g : gX} {w : wd_M} {h : Nat} {rf : Int32} {nt : Int32} {np : Int32} {mo : Int32} {gb : Int32} {wr : Int32} {nr : Int32} {su : Nat → Int32} {pr : Nat → Int32} {ob : Nat → Int32} {ki : Nat → Int32} {fi : Nat → Int32} {se : Nat → Int32} {ta : Nat → Int32} {nd : Nat → Int32} {ii : Nat → Int32} {sp : Nat → Int32} {qu : Nat → Int32} {rF : Nat → Int32} {rT : Nat → Int32} {rD : Nat → Int32} {qu' : Nat → Int32} : wd_up (mW g w h rf nt np mo gb wr nr su pr ob ki fi se ta nd ii sp qu rF rT rD) (h + 11) (wd_iA (g.2 0) 32 (qu')) = (mW g w h rf nt np mo gb wr nr su pr ob ki fi se ta nd ii sp qu' rF rT rD) := by
  funext b
  unfold wd_up mW
  by_cases h9 : b = (h + 11)
  · rw [if_pos h9]
    subst h9
    rw [if_neg (by omega)]; rw [if_neg (by omega)]; rw [if_neg (by omega)]; rw [if_neg (by omega)]; rw [if_neg (by omega)]; rw [if_neg (by omega)]; rw [if_neg (by omega)]; rw [if_neg (by omega)]; rw [if_neg (by omega)]; rw [if_neg (by omega)]; rw [if_neg (by omega)]; rw [if_pos rfl]
  · rw [if_neg h9]
    simp only [if_neg h9]
theorem mW_s12 {g : gX} {w : wd_M} {h : Nat} {rf : Int32} {nt : Int32} {np : Int32} {mo : Int32} {gb : Int32} {wr : Int32} {nr : Int32} {su : Nat → Int32} {pr : Nat → Int32} {ob : Nat → Int32} {ki : Nat → Int32} {fi : Nat → Int32} {se : Nat → Int32} {ta : Nat → Int32} {nd : Nat → Int32} {ii : Nat → Int32} {sp : Nat → Int32} {qu : Nat → Int32} {rF : Nat → Int32} {rT : Nat → Int32} {rD : Nat → Int32} {rF' : Nat → Int32} : wd_up (mW g w h rf nt np mo gb wr nr su pr ob ki fi se ta nd ii sp qu rF rT rD) (h + 12) (wd_iA (g.2 0) 2000 (rF')) = (mW g w h rf nt np mo gb wr nr su pr ob ki fi se ta nd ii sp qu rF' rT rD) := by
  funext b
  unfold wd_up mW
  by_cases h9 : b = (h + 12)
  · rw [if_pos h9]
    subst h9
    rw [if_neg (by omega)]; rw [if_neg (by omega)]; rw [if_neg (by omega)]; rw [if_neg (by omega)]; rw [if_neg (by omega)]; rw [if_neg (by omega)]; rw [if_neg (by omega)]; rw [if_neg (by omega)]; rw [if_neg (by omega)]; rw [if_neg (by omega)]; rw [if_neg (by omega)]; rw [if_neg (by omega)]; rw [if_pos rfl]
  · rw [if_neg h9]
    simp only [if_neg h9]
theorem mW_s13 {g : gX} {w : wd_M} {h : Nat} {rf : Int32} {nt : Int32} {np : Int32} {mo : Int32} {gb : Int32} {wr : Int32} {nr : Int32} {su : Nat → Int32} {pr : Nat → Int32} {ob : Nat → Int32} {ki : Nat → Int32} {fi : Nat → Int32} {se : Nat → Int32} {ta : Nat → Int32} {nd : Nat → Int32} {ii : Nat → Int32} {sp : Nat → Int32} {qu : Nat → Int32} {rF : Nat → Int32} {rT : Nat → Int32} {rD : Nat → Int32} {rT' : Nat → Int32} : wd_up (mW g w h rf nt np mo gb wr nr su pr ob ki fi se ta nd ii sp qu rF rT rD) (h + 13) (wd_iA (g.2 0) 2000 (rT')) = (mW g w h rf nt np mo gb wr nr su pr ob ki fi se ta nd ii sp qu rF rT' rD) := by
  funext b
  unfold wd_up mW
  by_cases h9 : b = (h + 13)
  · rw [if_pos h9]
    subst h9
    rw [if_neg (by omega)]; rw [if_neg (by omega)]; rw [if_neg (by omega)]; rw [if_neg (by omega)]; rw [if_neg (by omega)]; rw [if_neg (by omega)]; rw [if_neg (by omega)]; rw [if_neg (by omega)]; rw [if_neg (by omega)]; rw [if_neg (by omega)]; rw [if_neg (by omega)]; rw [if_neg (by omega)]; rw [if_neg (by omega)]; rw [if_pos rfl]
  · rw [if_neg h9]
    simp only [if_neg h9]
theorem mW_s14 {g : gX} {w : wd_M} {h : Nat} {rf : Int32} {nt : Int32} {np : Int32} {mo : Int32} {gb : Int32} {wr : Int32} {nr : Int32} {su : Nat → Int32} {pr : Nat → Int32} {ob : Nat → Int32} {ki : Nat → Int32} {fi : Nat → Int32} {se : Nat → Int32} {ta : Nat → Int32} {nd : Nat → Int32} {ii : Nat → Int32} {sp : Nat → Int32} {qu : Nat → Int32} {rF : Nat → Int32} {rT : Nat → Int32} {rD : Nat → Int32} {rD' : Nat → Int32} : wd_up (mW g w h rf nt np mo gb wr nr su pr ob ki fi se ta nd ii sp qu rF rT rD) (h + 14) (wd_iA (g.2 0) 2000 (rD')) = (mW g w h rf nt np mo gb wr nr su pr ob ki fi se ta nd ii sp qu rF rT rD') := by
  funext b
  unfold wd_up mW
  by_cases h9 : b = (h + 14)
  · rw [if_pos h9]
    subst h9
    rw [if_neg (by omega)]; rw [if_neg (by omega)]; rw [if_neg (by omega)]; rw [if_neg (by omega)]; rw [if_neg (by omega)]; rw [if_neg (by omega)]; rw [if_neg (by omega)]; rw [if_neg (by omega)]; rw [if_neg (by omega)]; rw [if_neg (by omega)]; rw [if_neg (by omega)]; rw [if_neg (by omega)]; rw [if_neg (by omega)]; rw [if_neg (by omega)]; rw [if_pos rfl]
  · rw [if_neg h9]
    simp only [if_neg h9]
theorem mW_self {g : gX} {w : wd_M} {h : Nat} {rf : Int32} {nt : Int32} {np : Int32} {mo : Int32} {gb : Int32} {wr : Int32} {nr : Int32} {su : Nat → Int32} {pr : Nat → Int32} {ob : Nat → Int32} {ki : Nat → Int32} {fi : Nat → Int32} {se : Nat → Int32} {ta : Nat → Int32} {nd : Nat → Int32} {ii : Nat → Int32} {sp : Nat → Int32} {qu : Nat → Int32} {rF : Nat → Int32} {rT : Nat → Int32} {rD : Nat → Int32} (h0 : w h = some (.inr (5, [.int (rf), .ref (h + 1), .ref (h + 2), .ref (h + 3), .int (nt), .ref (h + 4), .ref (h + 5), .ref (h + 6), .int (np), .int (mo), .ref (h + 7), .ref (h + 8), .ref (h + 9), .int (gb), .ref (h + 10), .ref (h + 11), .int (wr), .int (nr), .ref (h + 12), .ref (h + 13), .ref (h + 14)]))) (h1 : w (h + 1) = some (wd_iA (g.2 0) 150 (su))) (h2 : w (h + 2) = some (wd_iA (g.2 0) 150 (pr))) (h3 : w (h + 3) = some (wd_iA (g.2 0) 150 (ob))) (h4 : w (h + 4) = some (wd_iA (g.2 0) 41 (ki))) (h5 : w (h + 5) = some (wd_iA (g.2 0) 41 (fi))) (h6 : w (h + 6) = some (wd_iA (g.2 0) 41 (se))) (h7 : w (h + 7) = some (wd_iA (g.2 0) 41984 (ta))) (h8 : w (h + 8) = some (wd_iA (g.2 1) 41 (nd))) (h9 : w (h + 9) = some (wd_iA (g.2 1) 32 (ii))) (h10 : w (h + 10) = some (wd_iA (g.2 0) 32 (sp))) (h11 : w (h + 11) = some (wd_iA (g.2 0) 32 (qu))) (h12 : w (h + 12) = some (wd_iA (g.2 0) 2000 (rF))) (h13 : w (h + 13) = some (wd_iA (g.2 0) 2000 (rT))) (h14 : w (h + 14) = some (wd_iA (g.2 0) 2000 (rD))) : (mW g w h rf nt np mo gb wr nr su pr ob ki fi se ta nd ii sp qu rF rT rD) = w := by
  funext b
  unfold mW
  by_cases e0 : b = h
  · rw [ if_pos e0, e0]; exact h0.symm
  by_cases e1 : b = (h + 1)
  · rw [if_neg e0, if_pos e1, e1]; exact h1.symm
  by_cases e2 : b = (h + 2)
  · rw [if_neg e0, if_neg e1, if_pos e2, e2]; exact h2.symm
  by_cases e3 : b = (h + 3)
  · rw [if_neg e0, if_neg e1, if_neg e2, if_pos e3, e3]; exact h3.symm
  by_cases e4 : b = (h + 4)
  · rw [if_neg e0, if_neg e1, if_neg e2, if_neg e3, if_pos e4, e4]; exact h4.symm
  by_cases e5 : b = (h + 5)
  · rw [if_neg e0, if_neg e1, if_neg e2, if_neg e3, if_neg e4, if_pos e5, e5]; exact h5.symm
  by_cases e6 : b = (h + 6)
  · rw [if_neg e0, if_neg e1, if_neg e2, if_neg e3, if_neg e4, if_neg e5, if_pos e6, e6]; exact h6.symm
  by_cases e7 : b = (h + 7)
  · rw [if_neg e0, if_neg e1, if_neg e2, if_neg e3, if_neg e4, if_neg e5, if_neg e6, if_pos e7, e7]; exact h7.symm
  by_cases e8 : b = (h + 8)
  · rw [if_neg e0, if_neg e1, if_neg e2, if_neg e3, if_neg e4, if_neg e5, if_neg e6, if_neg e7, if_pos e8, e8]; exact h8.symm
  by_cases e9 : b = (h + 9)
  · rw [if_neg e0, if_neg e1, if_neg e2, if_neg e3, if_neg e4, if_neg e5, if_neg e6, if_neg e7, if_neg e8, if_pos e9, e9]; exact h9.symm
  by_cases e10 : b = (h + 10)
  · rw [if_neg e0, if_neg e1, if_neg e2, if_neg e3, if_neg e4, if_neg e5, if_neg e6, if_neg e7, if_neg e8, if_neg e9, if_pos e10, e10]; exact h10.symm
  by_cases e11 : b = (h + 11)
  · rw [if_neg e0, if_neg e1, if_neg e2, if_neg e3, if_neg e4, if_neg e5, if_neg e6, if_neg e7, if_neg e8, if_neg e9, if_neg e10, if_pos e11, e11]; exact h11.symm
  by_cases e12 : b = (h + 12)
  · rw [if_neg e0, if_neg e1, if_neg e2, if_neg e3, if_neg e4, if_neg e5, if_neg e6, if_neg e7, if_neg e8, if_neg e9, if_neg e10, if_neg e11, if_pos e12, e12]; exact h12.symm
  by_cases e13 : b = (h + 13)
  · rw [if_neg e0, if_neg e1, if_neg e2, if_neg e3, if_neg e4, if_neg e5, if_neg e6, if_neg e7, if_neg e8, if_neg e9, if_neg e10, if_neg e11, if_neg e12, if_pos e13, e13]; exact h13.symm
  by_cases e14 : b = (h + 14)
  · rw [if_neg e0, if_neg e1, if_neg e2, if_neg e3, if_neg e4, if_neg e5, if_neg e6, if_neg e7, if_neg e8, if_neg e9, if_neg e10, if_neg e11, if_neg e12, if_neg e13, if_pos e14, e14]; exact h14.symm
  rw [if_neg e0, if_neg e1, if_neg e2, if_neg e3, if_neg e4, if_neg e5, if_neg e6, if_neg e7, if_neg e8, if_neg e9, if_neg e10, if_neg e11, if_neg e12, if_neg e13, if_neg e14]
def pW (g : gX) (w : wd_M) (q : Nat) (k : Int32) (kd : Int32) (li : Int32) (inn : Option Nat) (oth : Option Nat) (pa : Int64) (cs : Int32) (cg : Int32) (f : Nat → Int32) (j : Nat → Int32) : wd_M := fun a => if a = q then some (.inr (1, [.int (k), .int (kd), .int (li), va_rf (inn), va_rf (oth), .long (pa), .ref (q + 1), .ref (q + 2), .int (cs), .int (cg)])) else if a = (q + 1) then some (wd_iA (g.2 0) 1024 (f)) else if a = (q + 2) then some (wd_iA (g.2 0) 32 (j)) else w a
theorem pW_0 {g : gX} {w : wd_M} {q : Nat} {k : Int32} {kd : Int32} {li : Int32} {inn : Option Nat} {oth : Option Nat} {pa : Int64} {cs : Int32} {cg : Int32} {f : Nat → Int32} {j : Nat → Int32} : (pW g w q k kd li inn oth pa cs cg f j) q = some (.inr (1, [.int (k), .int (kd), .int (li), va_rf (inn), va_rf (oth), .long (pa), .ref (q + 1), .ref (q + 2), .int (cs), .int (cg)])) := by
  unfold pW
  rw [if_pos rfl]
theorem pW_1 {g : gX} {w : wd_M} {q : Nat} {k : Int32} {kd : Int32} {li : Int32} {inn : Option Nat} {oth : Option Nat} {pa : Int64} {cs : Int32} {cg : Int32} {f : Nat → Int32} {j : Nat → Int32} : (pW g w q k kd li inn oth pa cs cg f j) (q + 1) = some (wd_iA (g.2 0) 1024 (f)) := by
  unfold pW
  rw [if_neg (by omega)]
  rw [if_pos rfl]
theorem pW_2 {g : gX} {w : wd_M} {q : Nat} {k : Int32} {kd : Int32} {li : Int32} {inn : Option Nat} {oth : Option Nat} {pa : Int64} {cs : Int32} {cg : Int32} {f : Nat → Int32} {j : Nat → Int32} : (pW g w q k kd li inn oth pa cs cg f j) (q + 2) = some (wd_iA (g.2 0) 32 (j)) := by
  unfold pW
  rw [if_neg (by omega)]
  rw [if_neg (by omega)]
  rw [if_pos rfl]
theorem pW_out {g : gX} {w : wd_M} {q : Nat} {k : Int32} {kd : Int32} {li : Int32} {inn : Option Nat} {oth : Option Nat} {pa : Int64} {cs : Int32} {cg : Int32} {f : Nat → Int32} {j : Nat → Int32} {a : Nat} (h9 : a < q ∨ q + 3 ≤ a) : (pW g w q k kd li inn oth pa cs cg f j) a = w a := by
  unfold pW
  rw [if_neg (by omega)]
  rw [if_neg (by omega)]
  rw [if_neg (by omega)]
theorem pW_s0 {g : gX} {w : wd_M} {q : Nat} {k : Int32} {kd : Int32} {li : Int32} {inn : Option Nat} {oth : Option Nat} {pa : Int64} {cs : Int32} {cg : Int32} {f : Nat → Int32} {j : Nat → Int32} {k' : Int32} {kd' : Int32} {li' : Int32} {inn' : Option Nat} {oth' : Option Nat} {pa' : Int64} {cs' : Int32} {cg' : Int32} : wd_up (pW g w q k kd li inn oth pa cs cg f j) q (.inr (1, [.int (k'), .int (kd'), .int (li'), va_rf (inn'), va_rf (oth'), .long (pa'), .ref (q + 1), .ref (q + 2), .int (cs'), .int (cg')])) = (pW g w q k' kd' li' inn' oth' pa' cs' cg' f j) := by
  funext b
  unfold wd_up pW
  by_cases h9 : b = q
  · rw [if_pos h9]
    subst h9
    rw [if_pos rfl]
  · rw [if_neg h9]
    simp only [if_neg h9]
theorem pW_s1 {g : gX} {w : wd_M} {q : Nat} {k : Int32} {kd : Int32} {li : Int32} {inn : Option Nat} {oth : Option Nat} {pa : Int64} {cs : Int32} {cg : Int32} {f : Nat → Int32} {j : Nat → Int32} {f' : Nat → Int32} : wd_up (pW g w q k kd li inn oth pa cs cg f j) (q + 1) (wd_iA (g.2 0) 1024 (f')) = (pW g w q k kd li inn oth pa cs cg f' j) := by
  funext b
  unfold wd_up pW
  by_cases h9 : b = (q + 1)
  · rw [if_pos h9]
    subst h9
    rw [if_neg (by omega)]; rw [if_pos rfl]
  · rw [if_neg h9]
    simp only [if_neg h9]
theorem pW_s2 {g : gX} {w : wd_M} {q : Nat} {k : Int32} {kd : Int32} {li : Int32} {inn : Option Nat} {oth : Option Nat} {pa : Int64} {cs : Int32} {cg : Int32} {f : Nat → Int32} {j : Nat → Int32} {j' : Nat → Int32} : wd_up (pW g w q k kd li inn oth pa cs cg f j) (q + 2) (wd_iA (g.2 0) 32 (j')) = (pW g w q k kd li inn oth pa cs cg f j') := by
  funext b
  unfold wd_up pW
  by_cases h9 : b = (q + 2)
  · rw [if_pos h9]
    subst h9
    rw [if_neg (by omega)]; rw [if_neg (by omega)]; rw [if_pos rfl]
  · rw [if_neg h9]
    simp only [if_neg h9]
theorem pW_self {g : gX} {w : wd_M} {q : Nat} {k : Int32} {kd : Int32} {li : Int32} {inn : Option Nat} {oth : Option Nat} {pa : Int64} {cs : Int32} {cg : Int32} {f : Nat → Int32} {j : Nat → Int32} (h0 : w q = some (.inr (1, [.int (k), .int (kd), .int (li), va_rf (inn), va_rf (oth), .long (pa), .ref (q + 1), .ref (q + 2), .int (cs), .int (cg)]))) (h1 : w (q + 1) = some (wd_iA (g.2 0) 1024 (f))) (h2 : w (q + 2) = some (wd_iA (g.2 0) 32 (j))) : (pW g w q k kd li inn oth pa cs cg f j) = w := by
  funext b
  unfold pW
  by_cases e0 : b = q
  · rw [ if_pos e0, e0]; exact h0.symm
  by_cases e1 : b = (q + 1)
  · rw [if_neg e0, if_pos e1, e1]; exact h1.symm
  by_cases e2 : b = (q + 2)
  · rw [if_neg e0, if_neg e1, if_pos e2, e2]; exact h2.symm
  rw [if_neg e0, if_neg e1, if_neg e2]
def xW (g : gX) (w : wd_M) (x : Nat) (pc : Int32) (mo : Int32) (no : Int32) (sz : Int32) (rs : Int32) (wr : Int32) (lk : Nat → Int32) (ps : Nat → Option Nat) (fs : Nat → Int32) (ss : Nat → Int32) (ds : Nat → Int32) (lv : Nat → Int32) : wd_M := fun a => if a = x then some (.inr (4, [.ref (x + 1), .ref (x + 3), .ref (x + 4), .ref (x + 8), .int (pc), .int (mo)])) else if a = (x + 1) then some (.inr (3, [.ref (x + 2), .int (no), .int (sz)])) else if a = (x + 2) then some (wd_iA (g.2 0) 1024 (lk)) else if a = (x + 3) then some (wd_qA (g.2 2) 41 (ps)) else if a = (x + 4) then some (.inr (2, [.ref (x + 5), .ref (x + 6), .ref (x + 7), .int (rs), .int (wr)])) else if a = (x + 5) then some (wd_iA (g.2 0) 2000 (fs)) else if a = (x + 6) then some (wd_iA (g.2 0) 2000 (ss)) else if a = (x + 7) then some (wd_iA (g.2 0) 2000 (ds)) else if a = (x + 8) then some (wd_iA (g.2 0) 32 (lv)) else w a
theorem xW_0 {g : gX} {w : wd_M} {x : Nat} {pc : Int32} {mo : Int32} {no : Int32} {sz : Int32} {rs : Int32} {wr : Int32} {lk : Nat → Int32} {ps : Nat → Option Nat} {fs : Nat → Int32} {ss : Nat → Int32} {ds : Nat → Int32} {lv : Nat → Int32} : (xW g w x pc mo no sz rs wr lk ps fs ss ds lv) x = some (.inr (4, [.ref (x + 1), .ref (x + 3), .ref (x + 4), .ref (x + 8), .int (pc), .int (mo)])) := by
  unfold xW
  rw [if_pos rfl]
theorem xW_1 {g : gX} {w : wd_M} {x : Nat} {pc : Int32} {mo : Int32} {no : Int32} {sz : Int32} {rs : Int32} {wr : Int32} {lk : Nat → Int32} {ps : Nat → Option Nat} {fs : Nat → Int32} {ss : Nat → Int32} {ds : Nat → Int32} {lv : Nat → Int32} : (xW g w x pc mo no sz rs wr lk ps fs ss ds lv) (x + 1) = some (.inr (3, [.ref (x + 2), .int (no), .int (sz)])) := by
  unfold xW
  rw [if_neg (by omega)]
  rw [if_pos rfl]
theorem xW_2 {g : gX} {w : wd_M} {x : Nat} {pc : Int32} {mo : Int32} {no : Int32} {sz : Int32} {rs : Int32} {wr : Int32} {lk : Nat → Int32} {ps : Nat → Option Nat} {fs : Nat → Int32} {ss : Nat → Int32} {ds : Nat → Int32} {lv : Nat → Int32} : (xW g w x pc mo no sz rs wr lk ps fs ss ds lv) (x + 2) = some (wd_iA (g.2 0) 1024 (lk)) := by
  unfold xW
  rw [if_neg (by omega)]
  rw [if_neg (by omega)]
  rw [if_pos rfl]
theorem xW_3 {g : gX} {w : wd_M} {x : Nat} {pc : Int32} {mo : Int32} {no : Int32} {sz : Int32} {rs : Int32} {wr : Int32} {lk : Nat → Int32} {ps : Nat → Option Nat} {fs : Nat → Int32} {ss : Nat → Int32} {ds : Nat → Int32} {lv : Nat → Int32} : (xW g w x pc mo no sz rs wr lk ps fs ss ds lv) (x + 3) = some (wd_qA (g.2 2) 41 (ps)) := by
  unfold xW
  rw [if_neg (by omega)]
  rw [if_neg (by omega)]
  rw [if_neg (by omega)]
  rw [if_pos rfl]
theorem xW_4 {g : gX} {w : wd_M} {x : Nat} {pc : Int32} {mo : Int32} {no : Int32} {sz : Int32} {rs : Int32} {wr : Int32} {lk : Nat → Int32} {ps : Nat → Option Nat} {fs : Nat → Int32} {ss : Nat → Int32} {ds : Nat → Int32} {lv : Nat → Int32} : (xW g w x pc mo no sz rs wr lk ps fs ss ds lv) (x + 4) = some (.inr (2, [.ref (x + 5), .ref (x + 6), .ref (x + 7), .int (rs), .int (wr)])) := by
  unfold xW
  rw [if_neg (by omega)]
  rw [if_neg (by omega)]
  rw [if_neg (by omega)]
  rw [if_neg (by omega)]
  rw [if_pos rfl]
theorem xW_5 {g : gX} {w : wd_M} {x : Nat} {pc : Int32} {mo : Int32} {no : Int32} {sz : Int32} {rs : Int32} {wr : Int32} {lk : Nat → Int32} {ps : Nat → Option Nat} {fs : Nat → Int32} {ss : Nat → Int32} {ds : Nat → Int32} {lv : Nat → Int32} : (xW g w x pc mo no sz rs wr lk ps fs ss ds lv) (x + 5) = some (wd_iA (g.2 0) 2000 (fs)) := by
  unfold xW
  rw [if_neg (by omega)]
  rw [if_neg (by omega)]
  rw [if_neg (by omega)]
  rw [if_neg (by omega)]
  rw [if_neg (by omega)]
  rw [if_pos rfl]
theorem xW_6 {g : gX} {w : wd_M} {x : Nat} {pc : Int32} {mo : Int32} {no : Int32} {sz : Int32} {rs : Int32} {wr : Int32} {lk : Nat → Int32} {ps : Nat → Option Nat} {fs : Nat → Int32} {ss : Nat → Int32} {ds : Nat → Int32} {lv : Nat → Int32} : (xW g w x pc mo no sz rs wr lk ps fs ss ds lv) (x + 6) = some (wd_iA (g.2 0) 2000 (ss)) := by
  unfold xW
  rw [if_neg (by omega)]
  rw [if_neg (by omega)]
  rw [if_neg (by omega)]
  rw [if_neg (by omega)]
  rw [if_neg (by omega)]
  rw [if_neg (by omega)]
  rw [if_pos rfl]
theorem xW_7 {g : gX} {w : wd_M} {x : Nat} {pc : Int32} {mo : Int32} {no : Int32} {sz : Int32} {rs : Int32} {wr : Int32} {lk : Nat → Int32} {ps : Nat → Option Nat} {fs : Nat → Int32} {ss : Nat → Int32} {ds : Nat → Int32} {lv : Nat → Int32} : (xW g w x pc mo no sz rs wr lk ps fs ss ds lv) (x + 7) = some (wd_iA (g.2 0) 2000 (ds)) := by
  unfold xW
  rw [if_neg (by omega)]
  rw [if_neg (by omega)]
  rw [if_neg (by omega)]
  rw [if_neg (by omega)]
  rw [if_neg (by omega)]
  rw [if_neg (by omega)]
  rw [if_neg (by omega)]
  rw [if_pos rfl]
theorem xW_8 {g : gX} {w : wd_M} {x : Nat} {pc : Int32} {mo : Int32} {no : Int32} {sz : Int32} {rs : Int32} {wr : Int32} {lk : Nat → Int32} {ps : Nat → Option Nat} {fs : Nat → Int32} {ss : Nat → Int32} {ds : Nat → Int32} {lv : Nat → Int32} : (xW g w x pc mo no sz rs wr lk ps fs ss ds lv) (x + 8) = some (wd_iA (g.2 0) 32 (lv)) := by
  unfold xW
  rw [if_neg (by omega)]
  rw [if_neg (by omega)]
  rw [if_neg (by omega)]
  rw [if_neg (by omega)]
  rw [if_neg (by omega)]
  rw [if_neg (by omega)]
  rw [if_neg (by omega)]
  rw [if_neg (by omega)]
  rw [if_pos rfl]
theorem xW_out {g : gX} {w : wd_M} {x : Nat} {pc : Int32} {mo : Int32} {no : Int32} {sz : Int32} {rs : Int32} {wr : Int32} {lk : Nat → Int32} {ps : Nat → Option Nat} {fs : Nat → Int32} {ss : Nat → Int32} {ds : Nat → Int32} {lv : Nat → Int32} {a : Nat} (h9 : a < x ∨ x + 9 ≤ a) : (xW g w x pc mo no sz rs wr lk ps fs ss ds lv) a = w a := by
  unfold xW
  rw [if_neg (by omega)]
  rw [if_neg (by omega)]
  rw [if_neg (by omega)]
  rw [if_neg (by omega)]
  rw [if_neg (by omega)]
  rw [if_neg (by omega)]
  rw [if_neg (by omega)]
  rw [if_neg (by omega)]
  rw [if_neg (by omega)]
theorem xW_s0 {g : gX} {w : wd_M} {x : Nat} {pc : Int32} {mo : Int32} {no : Int32} {sz : Int32} {rs : Int32} {wr : Int32} {lk : Nat → Int32} {ps : Nat → Option Nat} {fs : Nat → Int32} {ss : Nat → Int32} {ds : Nat → Int32} {lv : Nat → Int32} {pc' : Int32} {mo' : Int32} : wd_up (xW g w x pc mo no sz rs wr lk ps fs ss ds lv) x (.inr (4, [.ref (x + 1), .ref (x + 3), .ref (x + 4), .ref (x + 8), .int (pc'), .int (mo')])) = (xW g w x pc' mo' no sz rs wr lk ps fs ss ds lv) := by
  funext b
  unfold wd_up xW
  by_cases h9 : b = x
  · rw [if_pos h9]
    subst h9
    rw [if_pos rfl]
  · rw [if_neg h9]
    simp only [if_neg h9]
theorem xW_s1 {g : gX} {w : wd_M} {x : Nat} {pc : Int32} {mo : Int32} {no : Int32} {sz : Int32} {rs : Int32} {wr : Int32} {lk : Nat → Int32} {ps : Nat → Option Nat} {fs : Nat → Int32} {ss : Nat → Int32} {ds : Nat → Int32} {lv : Nat → Int32} {no' : Int32} {sz' : Int32} : wd_up (xW g w x pc mo no sz rs wr lk ps fs ss ds lv) (x + 1) (.inr (3, [.ref (x + 2), .int (no'), .int (sz')])) = (xW g w x pc mo no' sz' rs wr lk ps fs ss ds lv) := by
  funext b
  unfold wd_up xW
  by_cases h9 : b = (x + 1)
  · rw [if_pos h9]
    subst h9
    rw [if_neg (by omega)]; rw [if_pos rfl]
  · rw [if_neg h9]
    simp only [if_neg h9]
theorem xW_s2 {g : gX} {w : wd_M} {x : Nat} {pc : Int32} {mo : Int32} {no : Int32} {sz : Int32} {rs : Int32} {wr : Int32} {lk : Nat → Int32} {ps : Nat → Option Nat} {fs : Nat → Int32} {ss : Nat → Int32} {ds : Nat → Int32} {lv : Nat → Int32} {lk' : Nat → Int32} : wd_up (xW g w x pc mo no sz rs wr lk ps fs ss ds lv) (x + 2) (wd_iA (g.2 0) 1024 (lk')) = (xW g w x pc mo no sz rs wr lk' ps fs ss ds lv) := by
  funext b
  unfold wd_up xW
  by_cases h9 : b = (x + 2)
  · rw [if_pos h9]
    subst h9
    rw [if_neg (by omega)]; rw [if_neg (by omega)]; rw [if_pos rfl]
  · rw [if_neg h9]
    simp only [if_neg h9]
theorem xW_s3 {g : gX} {w : wd_M} {x : Nat} {pc : Int32} {mo : Int32} {no : Int32} {sz : Int32} {rs : Int32} {wr : Int32} {lk : Nat → Int32} {ps : Nat → Option Nat} {fs : Nat → Int32} {ss : Nat → Int32} {ds : Nat → Int32} {lv : Nat → Int32} {ps' : Nat → Option Nat} : wd_up (xW g w x pc mo no sz rs wr lk ps fs ss ds lv) (x + 3) (wd_qA (g.2 2) 41 (ps')) = (xW g w x pc mo no sz rs wr lk ps' fs ss ds lv) := by
  funext b
  unfold wd_up xW
  by_cases h9 : b = (x + 3)
  · rw [if_pos h9]
    subst h9
    rw [if_neg (by omega)]; rw [if_neg (by omega)]; rw [if_neg (by omega)]; rw [if_pos rfl]
  · rw [if_neg h9]
    simp only [if_neg h9]
theorem xW_s4 {g : gX} {w : wd_M} {x : Nat} {pc : Int32} {mo : Int32} {no : Int32} {sz : Int32} {rs : Int32} {wr : Int32} {lk : Nat → Int32} {ps : Nat → Option Nat} {fs : Nat → Int32} {ss : Nat → Int32} {ds : Nat → Int32} {lv : Nat → Int32} {rs' : Int32} {wr' : Int32} : wd_up (xW g w x pc mo no sz rs wr lk ps fs ss ds lv) (x + 4) (.inr (2, [.ref (x + 5), .ref (x + 6), .ref (x + 7), .int (rs'), .int (wr')])) = (xW g w x pc mo no sz rs' wr' lk ps fs ss ds lv) := by
  funext b
  unfold wd_up xW
  by_cases h9 : b = (x + 4)
  · rw [if_pos h9]
    subst h9
    rw [if_neg (by omega)]; rw [if_neg (by omega)]; rw [if_neg (by omega)]; rw [if_neg (by omega)]; rw [if_pos rfl]
  · rw [if_neg h9]
    simp only [if_neg h9]
theorem xW_s5 {g : gX} {w : wd_M} {x : Nat} {pc : Int32} {mo : Int32} {no : Int32} {sz : Int32} {rs : Int32} {wr : Int32} {lk : Nat → Int32} {ps : Nat → Option Nat} {fs : Nat → Int32} {ss : Nat → Int32} {ds : Nat → Int32} {lv : Nat → Int32} {fs' : Nat → Int32} : wd_up (xW g w x pc mo no sz rs wr lk ps fs ss ds lv) (x + 5) (wd_iA (g.2 0) 2000 (fs')) = (xW g w x pc mo no sz rs wr lk ps fs' ss ds lv) := by
  funext b
  unfold wd_up xW
  by_cases h9 : b = (x + 5)
  · rw [if_pos h9]
    subst h9
    rw [if_neg (by omega)]; rw [if_neg (by omega)]; rw [if_neg (by omega)]; rw [if_neg (by omega)]; rw [if_neg (by omega)]; rw [if_pos rfl]
  · rw [if_neg h9]
    simp only [if_neg h9]
theorem xW_s6 {g : gX} {w : wd_M} {x : Nat} {pc : Int32} {mo : Int32} {no : Int32} {sz : Int32} {rs : Int32} {wr : Int32} {lk : Nat → Int32} {ps : Nat → Option Nat} {fs : Nat → Int32} {ss : Nat → Int32} {ds : Nat → Int32} {lv : Nat → Int32} {ss' : Nat → Int32} : wd_up (xW g w x pc mo no sz rs wr lk ps fs ss ds lv) (x + 6) (wd_iA (g.2 0) 2000 (ss')) = (xW g w x pc mo no sz rs wr lk ps fs ss' ds lv) := by
  funext b
  unfold wd_up xW
  by_cases h9 : b = (x + 6)
  · rw [if_pos h9]
    subst h9
    rw [if_neg (by omega)]; rw [if_neg (by omega)]; rw [if_neg (by omega)]; rw [if_neg (by omega)]; rw [if_neg (by omega)]; rw [if_neg (by omega)]; rw [if_pos rfl]
  · rw [if_neg h9]
    simp only [if_neg h9]
theorem xW_s7 {g : gX} {w : wd_M} {x : Nat} {pc : Int32} {mo : Int32} {no : Int32} {sz : Int32} {rs : Int32} {wr : Int32} {lk : Nat → Int32} {ps : Nat → Option Nat} {fs : Nat → Int32} {ss : Nat → Int32} {ds : Nat → Int32} {lv : Nat → Int32} {ds' : Nat → Int32} : wd_up (xW g w x pc mo no sz rs wr lk ps fs ss ds lv) (x + 7) (wd_iA (g.2 0) 2000 (ds')) = (xW g w x pc mo no sz rs wr lk ps fs ss ds' lv) := by
  funext b
  unfold wd_up xW
  by_cases h9 : b = (x + 7)
  · rw [if_pos h9]
    subst h9
    rw [if_neg (by omega)]; rw [if_neg (by omega)]; rw [if_neg (by omega)]; rw [if_neg (by omega)]; rw [if_neg (by omega)]; rw [if_neg (by omega)]; rw [if_neg (by omega)]; rw [if_pos rfl]
  · rw [if_neg h9]
    simp only [if_neg h9]
theorem xW_s8 {g : gX} {w : wd_M} {x : Nat} {pc : Int32} {mo : Int32} {no : Int32} {sz : Int32} {rs : Int32} {wr : Int32} {lk : Nat → Int32} {ps : Nat → Option Nat} {fs : Nat → Int32} {ss : Nat → Int32} {ds : Nat → Int32} {lv : Nat → Int32} {lv' : Nat → Int32} : wd_up (xW g w x pc mo no sz rs wr lk ps fs ss ds lv) (x + 8) (wd_iA (g.2 0) 32 (lv')) = (xW g w x pc mo no sz rs wr lk ps fs ss ds lv') := by
  funext b
  unfold wd_up xW
  by_cases h9 : b = (x + 8)
  · rw [if_pos h9]
    subst h9
    rw [if_neg (by omega)]; rw [if_neg (by omega)]; rw [if_neg (by omega)]; rw [if_neg (by omega)]; rw [if_neg (by omega)]; rw [if_neg (by omega)]; rw [if_neg (by omega)]; rw [if_neg (by omega)]; rw [if_pos rfl]
  · rw [if_neg h9]
    simp only [if_neg h9]
theorem xW_self {g : gX} {w : wd_M} {x : Nat} {pc : Int32} {mo : Int32} {no : Int32} {sz : Int32} {rs : Int32} {wr : Int32} {lk : Nat → Int32} {ps : Nat → Option Nat} {fs : Nat → Int32} {ss : Nat → Int32} {ds : Nat → Int32} {lv : Nat → Int32} (h0 : w x = some (.inr (4, [.ref (x + 1), .ref (x + 3), .ref (x + 4), .ref (x + 8), .int (pc), .int (mo)]))) (h1 : w (x + 1) = some (.inr (3, [.ref (x + 2), .int (no), .int (sz)]))) (h2 : w (x + 2) = some (wd_iA (g.2 0) 1024 (lk))) (h3 : w (x + 3) = some (wd_qA (g.2 2) 41 (ps))) (h4 : w (x + 4) = some (.inr (2, [.ref (x + 5), .ref (x + 6), .ref (x + 7), .int (rs), .int (wr)]))) (h5 : w (x + 5) = some (wd_iA (g.2 0) 2000 (fs))) (h6 : w (x + 6) = some (wd_iA (g.2 0) 2000 (ss))) (h7 : w (x + 7) = some (wd_iA (g.2 0) 2000 (ds))) (h8 : w (x + 8) = some (wd_iA (g.2 0) 32 (lv))) : (xW g w x pc mo no sz rs wr lk ps fs ss ds lv) = w := by
  funext b
  unfold xW
  by_cases e0 : b = x
  · rw [ if_pos e0, e0]; exact h0.symm
  by_cases e1 : b = (x + 1)
  · rw [if_neg e0, if_pos e1, e1]; exact h1.symm
  by_cases e2 : b = (x + 2)
  · rw [if_neg e0, if_neg e1, if_pos e2, e2]; exact h2.symm
  by_cases e3 : b = (x + 3)
  · rw [if_neg e0, if_neg e1, if_neg e2, if_pos e3, e3]; exact h3.symm
  by_cases e4 : b = (x + 4)
  · rw [if_neg e0, if_neg e1, if_neg e2, if_neg e3, if_pos e4, e4]; exact h4.symm
  by_cases e5 : b = (x + 5)
  · rw [if_neg e0, if_neg e1, if_neg e2, if_neg e3, if_neg e4, if_pos e5, e5]; exact h5.symm
  by_cases e6 : b = (x + 6)
  · rw [if_neg e0, if_neg e1, if_neg e2, if_neg e3, if_neg e4, if_neg e5, if_pos e6, e6]; exact h6.symm
  by_cases e7 : b = (x + 7)
  · rw [if_neg e0, if_neg e1, if_neg e2, if_neg e3, if_neg e4, if_neg e5, if_neg e6, if_pos e7, e7]; exact h7.symm
  by_cases e8 : b = (x + 8)
  · rw [if_neg e0, if_neg e1, if_neg e2, if_neg e3, if_neg e4, if_neg e5, if_neg e6, if_neg e7, if_pos e8, e8]; exact h8.symm
  rw [if_neg e0, if_neg e1, if_neg e2, if_neg e3, if_neg e4, if_neg e5, if_neg e6, if_neg e7, if_neg e8]
