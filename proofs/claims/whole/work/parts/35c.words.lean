/-! the words of the two throws, by the tables -/
theorem tw_in1 : ∀ w ∈ tx_atX RX11 127 xI 7 xSix xNames, (goodWord w = true ∧ (w ∈ tables_1_1.take 40 ∨ w ∈ (tables_1_6.drop 27).take 100)) ∨ w ∈ XW := by decide +kernel
theorem tw_in2 : ∀ w ∈ tx_atX RX11 156 xN 13 xThi xNames, (goodWord w = true ∧ (w ∈ tables_1_1.take 40 ∨ w ∈ (tables_1_6.drop 27).take 100)) ∨ w ∈ XW := by decide +kernel
theorem tw_XW : ∀ w ∈ XW, w ∈ (tables_1_6.drop 27).take 100 ∧ w.onTables = true := by decide +kernel
theorem mem6 {w : Cond} (h : w ∈ (tables_1_6.drop 27).take 100) : w ∈ tables_1 := List.mem_append_right _ (List.mem_append_right _ (List.mem_append_right _ (List.mem_append_right _ (List.mem_append_right _ (List.mem_append_left _ (List.mem_of_mem_drop (List.mem_of_mem_take h)))))))
theorem mem1 {w : Cond} (h : w ∈ tables_1_1.take 40) : w ∈ tables_1 := List.mem_append_left _ (List.mem_of_mem_take h)
theorem mem_all {w : Cond} (h : w ∈ tables_1) (hg : goodWord w = true) : w ∈ allW := List.mem_filter.mpr ⟨List.mem_append_right _ h, hg⟩
theorem tw_at {args : Array Value} {s : State} {L : List Cond} (hL : ∀ w ∈ L, (goodWord w = true ∧ (w ∈ tables_1_1.take 40 ∨ w ∈ (tables_1_6.drop 27).take 100)) ∨ w ∈ XW) (hts : ∀ w ∈ allW, w.before args s = true) (hX : ∀ w ∈ XW, va_Nw w s) : ∀ w ∈ L, w.before args s = true := by
  intro w hw
  rcases hL w hw with ⟨hg, h | h⟩ | h
  · exact hts w (mem_all (mem1 h) hg)
  · exact hts w (mem_all (mem6 h) hg)
  · exact va_Nw.use (tw_XW w h).2 (hX w h)
theorem tw_cl1 : Cond.classLink RX11 123 xI ∈ allW := mem_all (mem6 (by decide +kernel)) rfl
theorem tw_cl2 : Cond.classLink RX11 152 xN ∈ allW := mem_all (mem6 (by decide +kernel)) rfl
theorem tw_ini1 : Cond.initialized xI ∈ allW := mem_all (mem1 (by decide +kernel)) rfl
theorem tw_ini2 : Cond.initialized xN ∈ allW := mem_all (mem1 (by decide +kernel)) rfl
theorem tw_code : Cond.code yX11_thought cX11_thought 3 (some .int) ∈ allW := mem_all (mem6 (by decide +kernel)) rfl
theorem tw_codeL : Cond.codeWith yL_thought cL_thought 5 (some .int) [(0, 10, 13, 13), (0, 10, 17, 15)] ∈ allW := mem_all (mem6 (by decide +kernel)) rfl
theorem tw_lcl1 : Cond.classLink RL 13 xI ∈ allW := mem_all (mem6 (by decide +kernel)) rfl
theorem tw_lcl2 : Cond.classLink RL 15 xN ∈ allW := mem_all (mem6 (by decide +kernel)) rfl
theorem tw_l7 : Cond.methodLink RL 7 yX11_thought ∈ allW := mem_all (mem6 (by decide +kernel)) rfl
theorem tw_in7 : Cond.instanceMethod yX11_thought ∈ allW := mem_all (mem6 (by decide +kernel)) rfl
theorem tw_se7 : Cond.selects RX11 yX11_thought yX11_thought ∈ allW := mem_all (mem6 (by decide +kernel)) rfl
theorem tw_l39 : Cond.methodLink RL 39 yL_thought ∈ allW := mem_all (mem6 (by decide +kernel)) rfl
theorem tw_st39 : Cond.static yL_thought ∈ allW := mem_all (mem6 (by decide +kernel)) rfl
