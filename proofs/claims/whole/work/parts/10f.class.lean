def f_X10_dueLawNow (fu : Nat) (u_T : S32) (u_B : S32) (u_L : S32) (v_N : S64) (v_L : S64) (x1 : Int32) : Option (Int64 × S64 × S64) := tx_b1 (f_X0_isMan fu u_B x1) fun (r_2 : Int32) => if r_2 = (0 : Int32) then (some ((-9223372036854775808 : Int64), v_N, v_L)) else (tx_ck x1 6 <| tx_b1 (f_X10_bestHeld fu u_T u_B x1) fun (r_6 : Int32) => tx_b1 (f_X10_nameDoor fu u_T u_B v_N x1 (u_T 10 x1.toNatClampNeg) r_6) fun (v_N_8 : S64) => tx_b2 (f_X5_work_oNr0 fu u_L v_N_8 v_L (1 : Int32)) fun (r_10 : Int64) (v_L_11 : S64) => some (r_10, v_N_8, v_L_11))
set_option maxHeartbeats 4000000 in
set_option maxRecDepth 100000 in
theorem c_X10_dueLawNow {l : Launch} {g : GG} {A : Nat → Prop} {X : va_W} {fu : Nat} {a_T a_B a_N a_L : Nat → Nat} {u_T : S32} {u_B : S32} {v_N : S64} {u_L : S32} {v_L : S64} {x1 : Int32} {r : Int64} {zv_N : S64} {zv_L : S64} (hf : f_X10_dueLawNow fu u_T u_B u_L v_N v_L x1 = some (r, zv_N, zv_L)) : ML l yX10_dueLawNow cX10_dueLawNow 2 (some .long) 3 g A (cl_X10 g a_T (a_B 0) (a_N 0) u_T ++ (cl_X0 g a_B (a_L 0) u_B ++ (cl_N g a_N v_N ++ (cl_X5 g a_L u_L v_L ++ X)))) [.ref (a_T 0), .int x1] r (cl_X10 g a_T (a_B 0) (a_N 0) u_T ++ (cl_X0 g a_B (a_L 0) u_B ++ (cl_N g a_N zv_N ++ (cl_X5 g a_L u_L zv_L ++ X)))) := by
  refine tx_start (av := [.ref (a_T 0), .int x1]) (by decide) (Nat.le_of_ble_eq_true rfl) ?_
  intro p e s m below meth c ls S hr hlk hE hw hl
  have S : CallFix p m c cX10_dueLawNow 2 s (List.toArray [.ref (a_T 0), .int x1]) (Cond.code yX10_dueLawNow cX10_dueLawNow 2 (some .long) :: allW) RX10 := S
  have hx := S.1
  have hb := S.2.1
  have hown := S.2.2.2.1
  have hts : ∀ w ∈ allW, w.before (List.toArray [.ref (a_T 0), .int x1]) s = true := fun w h => S.2.2.2.2 w (List.mem_cons_of_mem _ h)
  have hl : lv_has ls 2 [(0, .ref (a_T 0)), (1, .int x1)] := hl
  unfold f_X10_dueLawNow at hf
  refine lv_aload_n hx hb dX10_dueLawNow_0 rfl (lv_at hl 0 rfl) ?_
  refine gf_X10_49 S hE hw 0 rfl rfl dX10_dueLawNow_1 ?_
  refine lv_iload_n hx hb dX10_dueLawNow_4 rfl (lv_at hl 1 rfl) ?_
  have hw := hw.u1
  obtain ⟨r_2, h_1, hf⟩ := tx_b1_e hf
  refine tx_ci hw (tx_runN S hE hw (c_X0_isMan h_1) lk_X10_126 (q0 := 0) rfl rfl rfl hl.1 (rest := []) rfl (Nat.le_of_ble_eq_true rfl) ⟨by decide, by decide⟩ dX10_dueLawNow_5 ⟨Nat.zero_le _, Nat.zero_le _⟩) (fun H locs hw => ?_)
  refine lv_if_ne (tgt := 15) hx hb dX10_dueLawNow_8 (by decide) (fun h_3 => ?_) (fun h_3 => ?_)
  · replace hf := tx_neg hf h_3
    refine lv_aload_n hx hb dX10_dueLawNow_15 rfl (lv_at hl 0 rfl) ?_
    refine lv_iload_n hx hb dX10_dueLawNow_16 rfl (lv_at hl 1 rfl) ?_
    refine lv_aload_n hx hb dX10_dueLawNow_17 rfl (lv_at hl 0 rfl) ?_
    refine gf_X10_27 S hE hw 11 rfl rfl dX10_dueLawNow_18 ?_
    refine lv_iload_n hx hb dX10_dueLawNow_21 rfl (lv_at hl 1 rfl) ?_
    obtain ⟨h_4, hf⟩ := tx_ck_e hf
    refine tx_iald S hE hw 17 rfl h_4 dX10_dueLawNow_22 ?_
    refine lv_aload_n hx hb dX10_dueLawNow_23 rfl (lv_at hl 0 rfl) ?_
    refine lv_iload_n hx hb dX10_dueLawNow_24 rfl (lv_at hl 1 rfl) ?_
    have hw := hw.u1
    obtain ⟨r_6, h_5, hf⟩ := tx_b1_e hf
    refine tx_ci hw (tx_runV S hE hw (c_X10_bestHeld h_5) lk_X10_210 (q0 := 0) rfl rfl rfl hl.1 (rest := [.int (u_T 10 x1.toNatClampNeg), .int x1, .ref (a_T 0)]) rfl (Nat.le_of_ble_eq_true rfl) ⟨by decide, by decide⟩ dX10_dueLawNow_25 ⟨Nat.zero_le _, Nat.zero_le _⟩) (fun H locs hw => ?_)
    obtain ⟨v_N_8, h_7, hf⟩ := tx_b1_e hf
    refine tx_cv hw (tx_runV S hE hw (c_X10_nameDoor h_7) lk_X10_186 (q0 := 0) rfl rfl rfl hl.1 (rest := []) rfl (Nat.le_of_ble_eq_true rfl) ⟨by decide, by decide⟩ dX10_dueLawNow_28 ⟨Nat.zero_le _, Nat.zero_le _⟩) (fun H locs hw => ?_)
    refine lv_aload_n hx hb dX10_dueLawNow_31 rfl (lv_at hl 0 rfl) ?_
    refine gf_X10_49 S hE hw 0 rfl rfl dX10_dueLawNow_32 ?_
    refine gf_X10_177 S hE hw 12 rfl rfl dX10_dueLawNow_35 ?_
    refine lv_iconst (v := 1) hx hb dX10_dueLawNow_38 (by decide) ?_
    refine lv_aload_n hx hb dX10_dueLawNow_39 rfl (lv_at hl 0 rfl) ?_
    refine gf_X10_45 S hE hw 0 rfl rfl dX10_dueLawNow_40 ?_
    have hw := hw.u2
    have hw := hw.u3
    obtain ⟨r_10, v_L_11, h_9, hf⟩ := tx_b2_e hf
    refine tx_cl hw (tx_runN S hE hw (c_X5_work_oNr0 h_9) lk_X10_190 (q0 := 0) rfl rfl rfl hl.1 (rest := []) rfl (Nat.le_of_ble_eq_true rfl) ⟨by decide, by decide⟩ dX10_dueLawNow_43 ⟨Nat.zero_le _, Nat.zero_le _⟩) (fun H locs hw => ?_)
    have hw := hw.u1
    have hw := hw.u3
    have hw := hw.u3
    obtain ⟨e0, e1, e2⟩ := tx_in3 hf
    rw [← e0, ← e1, ← e2]
    exact tx_lret S hr hlk hw dX10_dueLawNow_46
  · replace hf := tx_pos hf h_3
    refine lv_ldc2 (v := -9223372036854775808) hx hb hown (hts _ kw_755) dX10_dueLawNow_11 ?_
    have hw := hw.u3
    have hw := hw.u3
    have hw := hw.u2
    have hw := hw.u3
    obtain ⟨e0, e1, e2⟩ := tx_in3 hf
    rw [← e0, ← e1, ← e2]
    exact tx_lret S hr hlk hw dX10_dueLawNow_14
def f_X10_hideLawNow (fu : Nat) (u_T : S32) (u_B : S32) (u_L : S32) (v_N : S64) (v_L : S64) (x1 : Int32) : Option (Int64 × S64 × S64) := tx_b1 (f_X10_isHeld fu u_T u_B x1) fun (r_2 : Int32) => if r_2 = (0 : Int32) then (some ((-9223372036854775808 : Int64), v_N, v_L)) else (tx_ck x1 12 <| tx_ck x1 12 <| tx_b1 (f_X10_nameDoor fu u_T u_B v_N (u_T 12 x1.toNatClampNeg) (-1 : Int32) (u_B 8 x1.toNatClampNeg)) fun (v_N_7 : S64) => tx_b2 (f_X5_work_oNr0 fu u_L v_N_7 v_L (2 : Int32)) fun (r_9 : Int64) (v_L_10 : S64) => some (r_9, v_N_7, v_L_10))
set_option maxHeartbeats 4000000 in
set_option maxRecDepth 100000 in
theorem c_X10_hideLawNow {l : Launch} {g : GG} {A : Nat → Prop} {X : va_W} {fu : Nat} {a_T a_B a_N a_L : Nat → Nat} {u_T : S32} {u_B : S32} {v_N : S64} {u_L : S32} {v_L : S64} {x1 : Int32} {r : Int64} {zv_N : S64} {zv_L : S64} (hf : f_X10_hideLawNow fu u_T u_B u_L v_N v_L x1 = some (r, zv_N, zv_L)) : ML l yX10_hideLawNow cX10_hideLawNow 2 (some .long) 2 g A (cl_X10 g a_T (a_B 0) (a_N 0) u_T ++ (cl_X0 g a_B (a_L 0) u_B ++ (cl_N g a_N v_N ++ (cl_X5 g a_L u_L v_L ++ X)))) [.ref (a_T 0), .int x1] r (cl_X10 g a_T (a_B 0) (a_N 0) u_T ++ (cl_X0 g a_B (a_L 0) u_B ++ (cl_N g a_N zv_N ++ (cl_X5 g a_L u_L zv_L ++ X)))) := by
  refine tx_start (av := [.ref (a_T 0), .int x1]) (by decide) (Nat.le_of_ble_eq_true rfl) ?_
  intro p e s m below meth c ls S hr hlk hE hw hl
  have S : CallFix p m c cX10_hideLawNow 2 s (List.toArray [.ref (a_T 0), .int x1]) (Cond.code yX10_hideLawNow cX10_hideLawNow 2 (some .long) :: allW) RX10 := S
  have hx := S.1
  have hb := S.2.1
  have hown := S.2.2.2.1
  have hts : ∀ w ∈ allW, w.before (List.toArray [.ref (a_T 0), .int x1]) s = true := fun w h => S.2.2.2.2 w (List.mem_cons_of_mem _ h)
  have hl : lv_has ls 2 [(0, .ref (a_T 0)), (1, .int x1)] := hl
  unfold f_X10_hideLawNow at hf
  refine lv_aload_n hx hb dX10_hideLawNow_0 rfl (lv_at hl 0 rfl) ?_
  refine lv_iload_n hx hb dX10_hideLawNow_1 rfl (lv_at hl 1 rfl) ?_
  obtain ⟨r_2, h_1, hf⟩ := tx_b1_e hf
  refine tx_ci hw (tx_runV S hE hw (c_X10_isHeld h_1) lk_X10_172 (q0 := 0) rfl rfl rfl hl.1 (rest := []) rfl (Nat.le_of_ble_eq_true rfl) ⟨by decide, by decide⟩ dX10_hideLawNow_2 ⟨Nat.zero_le _, Nat.zero_le _⟩) (fun H locs hw => ?_)
  refine lv_if_ne (tgt := 12) hx hb dX10_hideLawNow_5 (by decide) (fun h_3 => ?_) (fun h_3 => ?_)
  · replace hf := tx_neg hf h_3
    refine lv_aload_n hx hb dX10_hideLawNow_12 rfl (lv_at hl 0 rfl) ?_
    refine lv_aload_n hx hb dX10_hideLawNow_13 rfl (lv_at hl 0 rfl) ?_
    refine gf_X10_33 S hE hw 0 rfl rfl dX10_hideLawNow_14 ?_
    refine lv_iload_n hx hb dX10_hideLawNow_17 rfl (lv_at hl 1 rfl) ?_
    obtain ⟨h_4, hf⟩ := tx_ck_e hf
    refine tx_iald S hE hw 8 rfl h_4 dX10_hideLawNow_18 ?_
    refine lv_iconst (v := -1) hx hb dX10_hideLawNow_19 (by decide) ?_
    refine lv_aload_n hx hb dX10_hideLawNow_20 rfl (lv_at hl 0 rfl) ?_
    refine gf_X10_49 S hE hw 0 rfl rfl dX10_hideLawNow_21 ?_
    refine gf_X10_141 S hE hw 12 rfl rfl dX10_hideLawNow_24 ?_
    refine lv_iload_n hx hb dX10_hideLawNow_27 rfl (lv_at hl 1 rfl) ?_
    obtain ⟨h_5, hf⟩ := tx_ck_e hf
    refine tx_iald S hE hw 17 rfl h_5 dX10_hideLawNow_28 ?_
    obtain ⟨v_N_7, h_6, hf⟩ := tx_b1_e hf
    refine tx_cv hw (tx_runV S hE hw (c_X10_nameDoor h_6) lk_X10_186 (q0 := 0) rfl rfl rfl hl.1 (rest := []) rfl (Nat.le_of_ble_eq_true rfl) ⟨by decide, by decide⟩ dX10_hideLawNow_29 ⟨Nat.zero_le _, Nat.zero_le _⟩) (fun H locs hw => ?_)
    refine lv_aload_n hx hb dX10_hideLawNow_32 rfl (lv_at hl 0 rfl) ?_
    refine gf_X10_49 S hE hw 0 rfl rfl dX10_hideLawNow_33 ?_
    refine gf_X10_177 S hE hw 12 rfl rfl dX10_hideLawNow_36 ?_
    refine lv_iconst (v := 2) hx hb dX10_hideLawNow_39 (by decide) ?_
    refine lv_aload_n hx hb dX10_hideLawNow_40 rfl (lv_at hl 0 rfl) ?_
    refine gf_X10_45 S hE hw 0 rfl rfl dX10_hideLawNow_41 ?_
    have hw := hw.u2
    have hw := hw.u3
    obtain ⟨r_9, v_L_10, h_8, hf⟩ := tx_b2_e hf
    refine tx_cl hw (tx_runN S hE hw (c_X5_work_oNr0 h_8) lk_X10_190 (q0 := 0) rfl rfl rfl hl.1 (rest := []) rfl (Nat.le_of_ble_eq_true rfl) ⟨by decide, by decide⟩ dX10_hideLawNow_44 ⟨Nat.zero_le _, Nat.zero_le _⟩) (fun H locs hw => ?_)
    have hw := hw.u1
    have hw := hw.u3
    have hw := hw.u3
    obtain ⟨e0, e1, e2⟩ := tx_in3 hf
    rw [← e0, ← e1, ← e2]
    exact tx_lret S hr hlk hw dX10_hideLawNow_47
  · replace hf := tx_pos hf h_3
    refine lv_ldc2 (v := -9223372036854775808) hx hb hown (hts _ kw_755) dX10_hideLawNow_8 ?_
    obtain ⟨e0, e1, e2⟩ := tx_in3 hf
    rw [← e0, ← e1, ← e2]
    exact tx_lret S hr hlk hw dX10_hideLawNow_11
def f_X11_law (fu : Nat) (u_T : S32) (u_W : S32) (u_B : S32) (u_L : S32) (v_N : S64) (v_L : S64) (x1 : Int32) (x2 : Int32) : Option (Int64 × S64 × S64) := if x1 = (0 : Int32) then (tx_b3 (f_X10_readLawNow fu u_W u_B u_L v_N v_L x2) fun (r_3 : Int64) (v_N_4 : S64) (v_L_5 : S64) => some (r_3, v_N_4, v_L_5)) else if x1 = (1 : Int32) then (tx_b3 (f_X10_dueLawNow fu u_W u_B u_L v_N v_L x2) fun (r_8 : Int64) (v_N_9 : S64) (v_L_10 : S64) => some (r_8, v_N_9, v_L_10)) else if x1 = (2 : Int32) then (tx_b3 (f_X10_hideLawNow fu u_W u_B u_L v_N v_L x2) fun (r_13 : Int64) (v_N_14 : S64) (v_L_15 : S64) => some (r_13, v_N_14, v_L_15)) else (some ((-9223372036854775808 : Int64), v_N, v_L))
set_option maxHeartbeats 4000000 in
set_option maxRecDepth 100000 in
theorem c_X11_law {l : Launch} {g : GG} {A : Nat → Prop} {X : va_W} {fu : Nat} {a_T a_W a_B a_N a_L : Nat → Nat} {p_T_0 p_T_2 p_T_3 p_T_5 p_T_6 p_T_7 p_T_8 p_T_9 : Nat} {u_T : S32} {u_W : S32} {u_B : S32} {v_N : S64} {u_L : S32} {v_L : S64} {x1 : Int32} {x2 : Int32} {r : Int64} {zv_N : S64} {zv_L : S64} (hf : f_X11_law fu u_T u_W u_B u_L v_N v_L x1 x2 = some (r, zv_N, zv_L)) : ML l yX11_law cX11_law 3 (some .long) 4 g A (cl_X11 g a_T p_T_0 (a_B 0) p_T_2 p_T_3 (a_W 0) p_T_5 p_T_6 p_T_7 p_T_8 p_T_9 u_T ++ (cl_X10 g a_W (a_B 0) (a_N 0) u_W ++ (cl_X0 g a_B (a_L 0) u_B ++ (cl_N g a_N v_N ++ (cl_X5 g a_L u_L v_L ++ X))))) [.ref (a_T 0), .int x1, .int x2] r (cl_X11 g a_T p_T_0 (a_B 0) p_T_2 p_T_3 (a_W 0) p_T_5 p_T_6 p_T_7 p_T_8 p_T_9 u_T ++ (cl_X10 g a_W (a_B 0) (a_N 0) u_W ++ (cl_X0 g a_B (a_L 0) u_B ++ (cl_N g a_N zv_N ++ (cl_X5 g a_L u_L zv_L ++ X))))) := by
  refine tx_start (av := [.ref (a_T 0), .int x1, .int x2]) (by decide) (Nat.le_of_ble_eq_true rfl) ?_
  intro p e s m below meth c ls S hr hlk hE hw hl
  have S : CallFix p m c cX11_law 3 s (List.toArray [.ref (a_T 0), .int x1, .int x2]) (Cond.code yX11_law cX11_law 3 (some .long) :: allW) RX11 := S
  have hx := S.1
  have hb := S.2.1
  have hown := S.2.2.2.1
  have hts : ∀ w ∈ allW, w.before (List.toArray [.ref (a_T 0), .int x1, .int x2]) s = true := fun w h => S.2.2.2.2 w (List.mem_cons_of_mem _ h)
  have hl : lv_has ls 3 [(0, .ref (a_T 0)), (1, .int x1), (2, .int x2)] := hl
  unfold f_X11_law at hf
  refine lv_iload_n hx hb dX11_law_0 rfl (lv_at hl 1 rfl) ?_
  by_cases h_1 : x1 = (0 : Int32)
  · replace hf := tx_pos hf h_1
    refine lv_tableIn (off := 27) (tgt := 28) hx hb dX11_law_1 (by rw [h_1]; decide) (by rw [h_1]; decide) (by rw [h_1]; rfl) (by decide) ?_
    refine lv_aload_n hx hb dX11_law_28 rfl (lv_at hl 0 rfl) ?_
    refine gf_X11_42 S hE hw 0 rfl rfl dX11_law_29 ?_
    refine lv_iload_n hx hb dX11_law_32 rfl (lv_at hl 2 rfl) ?_
    have hw := hw.u4
    have hw := hw.u4
    have hw := hw.u4
    have hw := hw.u4
    obtain ⟨r_3, v_N_4, v_L_5, h_2, hf⟩ := tx_b3_e hf
    refine tx_cl hw (tx_runN S hE hw (c_X10_readLawNow h_2) lk_X11_185 (q0 := 0) rfl rfl rfl hl.1 (rest := []) rfl (Nat.le_of_ble_eq_true rfl) ⟨by decide, by decide⟩ dX11_law_33 ⟨Nat.zero_le _, Nat.zero_le _⟩) (fun H locs hw => ?_)
    have hw := hw.u3
    have hw := hw.u3
    have hw := hw.u3
    have hw := hw.u3
    have hw := hw.u4
    obtain ⟨e0, e1, e2⟩ := tx_in3 hf
    rw [← e0, ← e1, ← e2]
    exact tx_lret S hr hlk hw dX11_law_36
  replace hf := tx_neg hf h_1
  by_cases h_6 : x1 = (1 : Int32)
  · replace hf := tx_pos hf h_6
    refine lv_tableIn (off := 36) (tgt := 37) hx hb dX11_law_1 (by rw [h_6]; decide) (by rw [h_6]; decide) (by rw [h_6]; rfl) (by decide) ?_
    refine lv_aload_n hx hb dX11_law_37 rfl (lv_at hl 0 rfl) ?_
    refine gf_X11_42 S hE hw 0 rfl rfl dX11_law_38 ?_
    refine lv_iload_n hx hb dX11_law_41 rfl (lv_at hl 2 rfl) ?_
    have hw := hw.u4
    have hw := hw.u4
    have hw := hw.u4
    have hw := hw.u4
    obtain ⟨r_8, v_N_9, v_L_10, h_7, hf⟩ := tx_b3_e hf
    refine tx_cl hw (tx_runN S hE hw (c_X10_dueLawNow h_7) lk_X11_189 (q0 := 0) rfl rfl rfl hl.1 (rest := []) rfl (Nat.le_of_ble_eq_true rfl) ⟨by decide, by decide⟩ dX11_law_42 ⟨Nat.zero_le _, Nat.zero_le _⟩) (fun H locs hw => ?_)
    have hw := hw.u3
    have hw := hw.u3
    have hw := hw.u3
    have hw := hw.u3
    have hw := hw.u4
    obtain ⟨e0, e1, e2⟩ := tx_in3 hf
    rw [← e0, ← e1, ← e2]
    exact tx_lret S hr hlk hw dX11_law_45
  replace hf := tx_neg hf h_6
  by_cases h_11 : x1 = (2 : Int32)
  · replace hf := tx_pos hf h_11
    refine lv_tableIn (off := 45) (tgt := 46) hx hb dX11_law_1 (by rw [h_11]; decide) (by rw [h_11]; decide) (by rw [h_11]; rfl) (by decide) ?_
    refine lv_aload_n hx hb dX11_law_46 rfl (lv_at hl 0 rfl) ?_
    refine gf_X11_42 S hE hw 0 rfl rfl dX11_law_47 ?_
    refine lv_iload_n hx hb dX11_law_50 rfl (lv_at hl 2 rfl) ?_
    have hw := hw.u4
    have hw := hw.u4
    have hw := hw.u4
    have hw := hw.u4
    obtain ⟨r_13, v_N_14, v_L_15, h_12, hf⟩ := tx_b3_e hf
    refine tx_cl hw (tx_runN S hE hw (c_X10_hideLawNow h_12) lk_X11_192 (q0 := 0) rfl rfl rfl hl.1 (rest := []) rfl (Nat.le_of_ble_eq_true rfl) ⟨by decide, by decide⟩ dX11_law_51 ⟨Nat.zero_le _, Nat.zero_le _⟩) (fun H locs hw => ?_)
    have hw := hw.u3
    have hw := hw.u3
    have hw := hw.u3
    have hw := hw.u3
    have hw := hw.u4
    obtain ⟨e0, e1, e2⟩ := tx_in3 hf
    rw [← e0, ← e1, ← e2]
    exact tx_lret S hr hlk hw dX11_law_54
  replace hf := tx_neg hf h_11
  have eh_1 : x1.toInt ≠ 0 := tx_ne h_1
  have eh_6 : x1.toInt ≠ 1 := tx_ne h_6
  have eh_11 : x1.toInt ≠ 2 := tx_ne h_11
  refine lv_tableOut (tgt := 55) hx hb dX11_law_1 (by omega) (by decide) ?_
  refine lv_ldc2 (v := -9223372036854775808) hx hb hown (hts _ kw_803) dX11_law_55 ?_
  obtain ⟨e0, e1, e2⟩ := tx_in3 hf
  rw [← e0, ← e1, ← e2]
  exact tx_lret S hr hlk hw dX11_law_58
def f_X1_note_J60 (fu : Nat) (u_T : S32) (w1 : Int32) (w2 : Int32) (w3 : Int32) : Option (S32) := if (u_T 0 3) < (0 : Int32) then (some u_T) else (tx_ck (u_T 0 3) 20 <| tx_let (up2 u_T 1 (u_T 0 3).toNatClampNeg w1) fun (u_T_8 : S32) => tx_ck (u_T_8 0 3) 20 <| tx_let (up2 u_T_8 2 (u_T_8 0 3).toNatClampNeg w2) fun (u_T_10 : S32) => tx_ck (u_T_10 0 3) 20 <| tx_let (up2 u_T_10 3 (u_T_10 0 3).toNatClampNeg w3) fun (u_T_12 : S32) => tx_let (up2 u_T_12 0 3 ((u_T_12 0 3) + (1 : Int32))) fun (u_T_13 : S32) => some u_T_13)
def f_X1_note (fu : Nat) (u_T : S32) (x1 : Int32) (x2 : Int32) (x3 : Int32) : Option (S32) := if (u_T 0 3) < (20 : Int32) then (f_X1_note_J60 fu u_T x1 x2 x3) else (tx_let (rw2 u_T 1 (va_cpy (u_T 1) (u_T 1) 1 0 19)) fun (u_T_2 : S32) => tx_let (rw2 u_T_2 2 (va_cpy (u_T_2 2) (u_T_2 2) 1 0 19)) fun (u_T_3 : S32) => tx_let (rw2 u_T_3 3 (va_cpy (u_T_3 3) (u_T_3 3) 1 0 19)) fun (u_T_4 : S32) => tx_let (up2 u_T_4 0 3 (19 : Int32)) fun (u_T_5 : S32) => f_X1_note_J60 fu u_T_5 x1 x2 x3)
set_option maxHeartbeats 4000000 in
set_option maxRecDepth 100000 in
theorem c_X1_note {l : Launch} {g : GG} {A : Nat → Prop} {X : va_W} {fu : Nat} {a_T : Nat → Nat} {u_T : S32} {x1 : Int32} {x2 : Int32} {x3 : Int32} {zu_T : S32} (hf : f_X1_note fu  u_T x1 x2 x3 = some zu_T) : MV l yX1_note cX1_note 4 none 1 g A (cl_X1 g a_T u_T ++ X) [.ref (a_T 0), .int x1, .int x2, .int x3] (cl_X1 g a_T zu_T ++ X) := by
  refine tx_start (av := [.ref (a_T 0), .int x1, .int x2, .int x3]) (by decide) (Nat.le_of_ble_eq_true rfl) ?_
  intro p e s m below meth c ls S hr hlk hE hw hl
  have S : CallFix p m c cX1_note 4 s (List.toArray [.ref (a_T 0), .int x1, .int x2, .int x3]) (Cond.code yX1_note cX1_note 4 none :: allW) RX1 := S
  have hx := S.1
  have hb := S.2.1
  have hown := S.2.2.2.1
  have hts : ∀ w ∈ allW, w.before (List.toArray [.ref (a_T 0), .int x1, .int x2, .int x3]) s = true := fun w h => S.2.2.2.2 w (List.mem_cons_of_mem _ h)
  have hl : lv_has ls 4 [(0, .ref (a_T 0)), (1, .int x1), (2, .int x2), (3, .int x3)] := hl
  have J60 : ∀ {u_T : S32} {w1 : Int32} {w2 : Int32} {w3 : Int32} {H : Heap} {locs : List Loc} {ls : Array Slot}, f_X1_note_J60 fu u_T w1 w2 w3 = some zu_T → WD g A s.heap (cl_X1 g a_T u_T ++ X) H locs → lv_has ls 4 [(0, .ref (a_T 0)), (1, .int w1), (2, .int w2), (3, .int w3)] → W p l e (rmH 1) s m (List.toArray [.ref (a_T 0), .int x1, .int x2, .int x3]) below meth c H locs 0 0 (MQ below (va_Qv (fun (_ : Unit) => True) (fun _ t => POST g A (cl_X1 g a_T zu_T ++ X) t) A) (List.toArray [.ref (a_T 0), .int x1, .int x2, .int x3]) s 0 0 A) (F0 m 60 ls []) := by
    intro u_T w1 w2 w3 H locs ls hf hw hl
    unfold f_X1_note_J60 at hf
    refine lv_aload_n hx hb dX1_note_60 rfl (lv_at hl 0 rfl) ?_
    refine gf_X1_19 S hE hw 0 rfl rfl dX1_note_61 ?_
    refine lv_if_lt (tgt := 107) hx hb dX1_note_64 (by decide) (fun h_6 => ?_) (fun h_6 => ?_)
    · replace hf := tx_pos hf h_6
      obtain e0 := tx_in1 hf
      rw [← e0]
      exact tx_vret S hr hlk hw dX1_note_107
    · replace hf := tx_neg hf h_6
      refine lv_aload_n hx hb dX1_note_67 rfl (lv_at hl 0 rfl) ?_
      refine gf_X1_9 S hE hw 0 rfl rfl dX1_note_68 ?_
      refine lv_aload_n hx hb dX1_note_71 rfl (lv_at hl 0 rfl) ?_
      refine gf_X1_19 S hE hw 0 rfl rfl dX1_note_72 ?_
      refine lv_iload_n hx hb dX1_note_75 rfl (lv_at hl 1 rfl) ?_
      obtain ⟨h_7, hf⟩ := tx_ck_e hf
      obtain ⟨u_T_8, eu_T_8⟩ : ∃ z : S32, z = up2 u_T 1 (u_T 0 3).toNatClampNeg w1 := ⟨_, rfl⟩
      replace hf := tx_let_e hf eu_T_8
      refine tx_iast (ws' := cl_X1 g a_T u_T_8 ++ X) S hE hw 1 rfl h_7 (by rw [eu_T_8]; rfl) dX1_note_76 (fun H locs hw => ?_)
      refine lv_aload_n hx hb dX1_note_77 rfl (lv_at hl 0 rfl) ?_
      refine gf_X1_13 S hE hw 0 rfl rfl dX1_note_78 ?_
      refine lv_aload_n hx hb dX1_note_81 rfl (lv_at hl 0 rfl) ?_
      refine gf_X1_19 S hE hw 0 rfl rfl dX1_note_82 ?_
      refine lv_iload_n hx hb dX1_note_85 rfl (lv_at hl 2 rfl) ?_
      obtain ⟨h_9, hf⟩ := tx_ck_e hf
      obtain ⟨u_T_10, eu_T_10⟩ : ∃ z : S32, z = up2 u_T_8 2 (u_T_8 0 3).toNatClampNeg w2 := ⟨_, rfl⟩
      replace hf := tx_let_e hf eu_T_10
      refine tx_iast (ws' := cl_X1 g a_T u_T_10 ++ X) S hE hw 2 rfl h_9 (by rw [eu_T_10]; rfl) dX1_note_86 (fun H locs hw => ?_)
      refine lv_aload_n hx hb dX1_note_87 rfl (lv_at hl 0 rfl) ?_
      refine gf_X1_16 S hE hw 0 rfl rfl dX1_note_88 ?_
      refine lv_aload_n hx hb dX1_note_91 rfl (lv_at hl 0 rfl) ?_
      refine gf_X1_19 S hE hw 0 rfl rfl dX1_note_92 ?_
      refine lv_iload_n hx hb dX1_note_95 rfl (lv_at hl 3 rfl) ?_
      obtain ⟨h_11, hf⟩ := tx_ck_e hf
      obtain ⟨u_T_12, eu_T_12⟩ : ∃ z : S32, z = up2 u_T_10 3 (u_T_10 0 3).toNatClampNeg w3 := ⟨_, rfl⟩
      replace hf := tx_let_e hf eu_T_12
      refine tx_iast (ws' := cl_X1 g a_T u_T_12 ++ X) S hE hw 3 rfl h_11 (by rw [eu_T_12]; rfl) dX1_note_96 (fun H locs hw => ?_)
      refine lv_aload_n hx hb dX1_note_97 rfl (lv_at hl 0 rfl) ?_
      refine lv_dup hx hb dX1_note_98 rfl ?_
      refine gf_X1_19 S hE hw 0 rfl rfl dX1_note_99 ?_
      refine lv_iconst (v := 1) hx hb dX1_note_102 (by decide) ?_
      refine lv_iadd hx hb dX1_note_103 ?_
      obtain ⟨u_T_13, eu_T_13⟩ : ∃ z : S32, z = up2 u_T_12 0 3 ((u_T_12 0 3) + (1 : Int32)) := ⟨_, rfl⟩
      replace hf := tx_let_e hf eu_T_13
      refine pf_X1_19 (ws' := cl_X1 g a_T u_T_13 ++ X) S hE hw rfl rfl 0 rfl (Nat.le_of_ble_eq_true rfl) (by rw [eu_T_13]; rfl) dX1_note_104 (fun H locs hw => ?_)
      obtain e0 := tx_in1 hf
      rw [← e0]
      exact tx_vret S hr hlk hw dX1_note_107
  unfold f_X1_note at hf
  refine lv_aload_n hx hb dX1_note_0 rfl (lv_at hl 0 rfl) ?_
  refine gf_X1_19 S hE hw 0 rfl rfl dX1_note_1 ?_
  refine lv_bipush (v := 20) hx hb dX1_note_4 (by decide) ?_
  refine lv_icmp_lt (tgt := 60) hx hb dX1_note_6 (by decide) (fun h_1 => ?_) (fun h_1 => ?_)
  · replace hf := tx_pos hf h_1
    exact J60 hf hw (lv_sub hl [0, 1, 2, 3] rfl)
  · replace hf := tx_neg hf h_1
    refine lv_aload_n hx hb dX1_note_9 rfl (lv_at hl 0 rfl) ?_
    refine gf_X1_9 S hE hw 0 rfl rfl dX1_note_10 ?_
    refine lv_iconst (v := 1) hx hb dX1_note_13 (by decide) ?_
    refine lv_aload_n hx hb dX1_note_14 rfl (lv_at hl 0 rfl) ?_
    refine gf_X1_9 S hE hw 0 rfl rfl dX1_note_15 ?_
    refine lv_iconst (v := 0) hx hb dX1_note_18 (by decide) ?_
    refine lv_bipush (v := 19) hx hb dX1_note_19 (by decide) ?_
    obtain ⟨u_T_2, eu_T_2⟩ : ∃ z : S32, z = rw2 u_T 1 (va_cpy (u_T 1) (u_T 1) 1 0 19) := ⟨_, rfl⟩
    replace hf := tx_let_e hf eu_T_2
    refine tx_copy (ws' := cl_X1 g a_T u_T_2 ++ X) S hE hw kw_813 1 1 rfl rfl (by decide) (by decide) (by decide) (by decide) (by decide) hl.1 (by decide) (Nat.le_of_ble_eq_true rfl) (by rw [eu_T_2]; rfl) dX1_note_21 (fun H locs hw => ?_)
    refine lv_aload_n hx hb dX1_note_24 rfl (lv_at hl 0 rfl) ?_
    refine gf_X1_13 S hE hw 0 rfl rfl dX1_note_25 ?_
    refine lv_iconst (v := 1) hx hb dX1_note_28 (by decide) ?_
    refine lv_aload_n hx hb dX1_note_29 rfl (lv_at hl 0 rfl) ?_
    refine gf_X1_13 S hE hw 0 rfl rfl dX1_note_30 ?_
    refine lv_iconst (v := 0) hx hb dX1_note_33 (by decide) ?_
    refine lv_bipush (v := 19) hx hb dX1_note_34 (by decide) ?_
    obtain ⟨u_T_3, eu_T_3⟩ : ∃ z : S32, z = rw2 u_T_2 2 (va_cpy (u_T_2 2) (u_T_2 2) 1 0 19) := ⟨_, rfl⟩
    replace hf := tx_let_e hf eu_T_3
    refine tx_copy (ws' := cl_X1 g a_T u_T_3 ++ X) S hE hw kw_813 2 2 rfl rfl (by decide) (by decide) (by decide) (by decide) (by decide) hl.1 (by decide) (Nat.le_of_ble_eq_true rfl) (by rw [eu_T_3]; rfl) dX1_note_36 (fun H locs hw => ?_)
    refine lv_aload_n hx hb dX1_note_39 rfl (lv_at hl 0 rfl) ?_
    refine gf_X1_16 S hE hw 0 rfl rfl dX1_note_40 ?_
    refine lv_iconst (v := 1) hx hb dX1_note_43 (by decide) ?_
    refine lv_aload_n hx hb dX1_note_44 rfl (lv_at hl 0 rfl) ?_
    refine gf_X1_16 S hE hw 0 rfl rfl dX1_note_45 ?_
    refine lv_iconst (v := 0) hx hb dX1_note_48 (by decide) ?_
    refine lv_bipush (v := 19) hx hb dX1_note_49 (by decide) ?_
    obtain ⟨u_T_4, eu_T_4⟩ : ∃ z : S32, z = rw2 u_T_3 3 (va_cpy (u_T_3 3) (u_T_3 3) 1 0 19) := ⟨_, rfl⟩
    replace hf := tx_let_e hf eu_T_4
    refine tx_copy (ws' := cl_X1 g a_T u_T_4 ++ X) S hE hw kw_813 3 3 rfl rfl (by decide) (by decide) (by decide) (by decide) (by decide) hl.1 (by decide) (Nat.le_of_ble_eq_true rfl) (by rw [eu_T_4]; rfl) dX1_note_51 (fun H locs hw => ?_)
    refine lv_aload_n hx hb dX1_note_54 rfl (lv_at hl 0 rfl) ?_
    refine lv_bipush (v := 19) hx hb dX1_note_55 (by decide) ?_
    obtain ⟨u_T_5, eu_T_5⟩ : ∃ z : S32, z = up2 u_T_4 0 3 (19 : Int32) := ⟨_, rfl⟩
    replace hf := tx_let_e hf eu_T_5
    refine pf_X1_19 (ws' := cl_X1 g a_T u_T_5 ++ X) S hE hw rfl rfl 0 rfl (Nat.le_of_ble_eq_true rfl) (by rw [eu_T_5]; rfl) dX1_note_57 (fun H locs hw => ?_)
    exact J60 hf hw (lv_sub hl [0, 1, 2, 3] rfl)
def f_X11_hide (fu : Nat) (u_T : S32) (u_B : S32) (u_W : S32) (u_D : S32) (x1 : Int32) (x2 : Int32) : Option (Int32 × S32 × S32) := tx_b1 (f_X10_isHeld fu u_W u_B x1) fun (r_2 : Int32) => if r_2 = (0 : Int32) then (some ((0 : Int32), u_W, u_D)) else (tx_b1 (f_X0_isMan fu u_B x2) fun (r_5 : Int32) => if r_5 = (0 : Int32) then (some ((0 : Int32), u_W, u_D)) else (tx_ck x1 12 <| if (u_W 12 x1.toNatClampNeg) = x2 then (some ((0 : Int32), u_W, u_D)) else (tx_ck x1 12 <| tx_b1 (f_X1_note fu u_D (0 : Int32) x1 (u_W 12 x1.toNatClampNeg)) fun (u_D_11 : S32) => tx_ck x1 12 <| tx_let (up2 u_W 12 x1.toNatClampNeg x2) fun (u_W_13 : S32) => some ((1 : Int32), u_W_13, u_D_11))))
set_option maxHeartbeats 4000000 in
set_option maxRecDepth 100000 in
theorem c_X11_hide {l : Launch} {g : GG} {A : Nat → Prop} {X : va_W} {fu : Nat} {a_T a_W a_B a_D : Nat → Nat} {p_T_0 p_T_2 p_T_3 p_T_5 p_T_6 p_T_8 p_T_9 p_W_16 p_B_17 : Nat} {u_T : S32} {u_W : S32} {u_B : S32} {u_D : S32} {x1 : Int32} {x2 : Int32} {r : Int32} {zu_W : S32} {zu_D : S32} (hf : f_X11_hide fu u_T u_B u_W u_D x1 x2 = some (r, zu_W, zu_D)) : MI l yX11_hide cX11_hide 3 (some .boolean) 2 g A (cl_X11 g a_T p_T_0 (a_B 0) p_T_2 p_T_3 (a_W 0) p_T_5 p_T_6 (a_D 0) p_T_8 p_T_9 u_T ++ (cl_X10 g a_W (a_B 0) p_W_16 u_W ++ (cl_X0 g a_B p_B_17 u_B ++ (cl_X1 g a_D u_D ++ X)))) [.ref (a_T 0), .int x1, .int x2] r (cl_X11 g a_T p_T_0 (a_B 0) p_T_2 p_T_3 (a_W 0) p_T_5 p_T_6 (a_D 0) p_T_8 p_T_9 u_T ++ (cl_X10 g a_W (a_B 0) p_W_16 zu_W ++ (cl_X0 g a_B p_B_17 u_B ++ (cl_X1 g a_D zu_D ++ X)))) := by
  refine tx_start (av := [.ref (a_T 0), .int x1, .int x2]) (by decide) (Nat.le_of_ble_eq_true rfl) ?_
  intro p e s m below meth c ls S hr hlk hE hw hl
  have S : CallFix p m c cX11_hide 3 s (List.toArray [.ref (a_T 0), .int x1, .int x2]) (Cond.code yX11_hide cX11_hide 3 (some .boolean) :: allW) RX11 := S
  have hx := S.1
  have hb := S.2.1
  have hown := S.2.2.2.1
  have hts : ∀ w ∈ allW, w.before (List.toArray [.ref (a_T 0), .int x1, .int x2]) s = true := fun w h => S.2.2.2.2 w (List.mem_cons_of_mem _ h)
  have hl : lv_has ls 3 [(0, .ref (a_T 0)), (1, .int x1), (2, .int x2)] := hl
  unfold f_X11_hide at hf
  refine lv_aload_n hx hb dX11_hide_0 rfl (lv_at hl 0 rfl) ?_
  refine gf_X11_42 S hE hw 0 rfl rfl dX11_hide_1 ?_
  refine lv_iload_n hx hb dX11_hide_4 rfl (lv_at hl 1 rfl) ?_
  have hw := hw.u2
  have hw := hw.u2
  obtain ⟨r_2, h_1, hf⟩ := tx_b1_e hf
  refine tx_ci hw (tx_runN S hE hw (c_X10_isHeld h_1) lk_X11_197 (q0 := 0) rfl rfl rfl hl.1 (rest := []) rfl (Nat.le_of_ble_eq_true rfl) ⟨by decide, by decide⟩ dX11_hide_5 ⟨Nat.zero_le _, Nat.zero_le _⟩) (fun H locs hw => ?_)
  refine lv_if_eq (tgt := 35) hx hb dX11_hide_8 (by decide) (fun h_3 => ?_) (fun h_3 => ?_)
  · replace hf := tx_pos hf h_3
    refine lv_iconst (v := 0) hx hb dX11_hide_35 (by decide) ?_
    have hw := hw.u3
    have hw := hw.u2
    have hw := hw.u2
    have hw := hw.u3
    obtain ⟨e0, e1, e2⟩ := tx_in3 hf
    rw [← e0, ← e1, ← e2]
    exact tx_zret S hr hlk (by decide) hw dX11_hide_36
  · replace hf := tx_neg hf h_3
    refine lv_aload_n hx hb dX11_hide_11 rfl (lv_at hl 0 rfl) ?_
    refine gf_X11_21 S hE hw 23 rfl rfl dX11_hide_12 ?_
    refine lv_iload_n hx hb dX11_hide_15 rfl (lv_at hl 2 rfl) ?_
    have hw := hw.u1
    obtain ⟨r_5, h_4, hf⟩ := tx_b1_e hf
    refine tx_ci hw (tx_runN S hE hw (c_X0_isMan h_4) lk_X11_157 (q0 := 0) rfl rfl rfl hl.1 (rest := []) rfl (Nat.le_of_ble_eq_true rfl) ⟨by decide, by decide⟩ dX11_hide_16 ⟨Nat.zero_le _, Nat.zero_le _⟩) (fun H locs hw => ?_)
    refine lv_if_eq (tgt := 35) hx hb dX11_hide_19 (by decide) (fun h_6 => ?_) (fun h_6 => ?_)
    · replace hf := tx_pos hf h_6
      refine lv_iconst (v := 0) hx hb dX11_hide_35 (by decide) ?_
      have hw := hw.u3
      have hw := hw.u1
      have hw := hw.u2
      have hw := hw.u3
      obtain ⟨e0, e1, e2⟩ := tx_in3 hf
      rw [← e0, ← e1, ← e2]
      exact tx_zret S hr hlk (by decide) hw dX11_hide_36
    · replace hf := tx_neg hf h_6
      refine lv_aload_n hx hb dX11_hide_22 rfl (lv_at hl 0 rfl) ?_
      refine gf_X11_42 S hE hw 23 rfl rfl dX11_hide_23 ?_
      refine gf_X11_146 S hE hw 11 rfl rfl dX11_hide_26 ?_
      refine lv_iload_n hx hb dX11_hide_29 rfl (lv_at hl 1 rfl) ?_
      obtain ⟨h_7, hf⟩ := tx_ck_e hf
      refine tx_iald S hE hw 19 rfl h_7 dX11_hide_30 ?_
      refine lv_iload_n hx hb dX11_hide_31 rfl (lv_at hl 2 rfl) ?_
      refine lv_icmp_ne (tgt := 37) hx hb dX11_hide_32 (by decide) (fun h_8 => ?_) (fun h_8 => ?_)
      · replace hf := tx_neg hf h_8
        refine lv_aload_n hx hb dX11_hide_37 rfl (lv_at hl 0 rfl) ?_
        refine gf_X11_59 S hE hw 23 rfl rfl dX11_hide_38 ?_
        refine lv_iconst (v := 0) hx hb dX11_hide_41 (by decide) ?_
        refine lv_iload_n hx hb dX11_hide_42 rfl (lv_at hl 1 rfl) ?_
        refine lv_aload_n hx hb dX11_hide_43 rfl (lv_at hl 0 rfl) ?_
        refine gf_X11_42 S hE hw 23 rfl rfl dX11_hide_44 ?_
        refine gf_X11_146 S hE hw 11 rfl rfl dX11_hide_47 ?_
        refine lv_iload_n hx hb dX11_hide_50 rfl (lv_at hl 1 rfl) ?_
        obtain ⟨h_9, hf⟩ := tx_ck_e hf
        refine tx_iald S hE hw 19 rfl h_9 dX11_hide_51 ?_
        have hw := hw.u3
        obtain ⟨u_D_11, h_10, hf⟩ := tx_b1_e hf
        refine tx_cv hw (tx_runN S hE hw (c_X1_note h_10) lk_X11_200 (q0 := 0) rfl rfl rfl hl.1 (rest := []) rfl (Nat.le_of_ble_eq_true rfl) ⟨by decide, by decide⟩ dX11_hide_52 ⟨Nat.zero_le _, Nat.zero_le _⟩) (fun H locs hw => ?_)
        refine lv_aload_n hx hb dX11_hide_55 rfl (lv_at hl 0 rfl) ?_
        refine gf_X11_42 S hE hw 27 rfl rfl dX11_hide_56 ?_
        refine gf_X11_146 S hE hw 15 rfl rfl dX11_hide_59 ?_
        refine lv_iload_n hx hb dX11_hide_62 rfl (lv_at hl 1 rfl) ?_
        refine lv_iload_n hx hb dX11_hide_63 rfl (lv_at hl 2 rfl) ?_
        obtain ⟨h_12, hf⟩ := tx_ck_e hf
        obtain ⟨u_W_13, eu_W_13⟩ : ∃ z : S32, z = up2 u_W 12 x1.toNatClampNeg x2 := ⟨_, rfl⟩
        replace hf := tx_let_e hf eu_W_13
        refine tx_iast (ws' := cl_X1 g a_D u_D_11 ++ (cl_X0 g a_B p_B_17 u_B ++ (cl_X10 g a_W (a_B 0) p_W_16 u_W_13 ++ (cl_X11 g a_T p_T_0 (a_B 0) p_T_2 p_T_3 (a_W 0) p_T_5 p_T_6 (a_D 0) p_T_8 p_T_9 u_T ++ X)))) S hE hw 23 rfl h_12 (by rw [eu_W_13]; rfl) dX11_hide_64 (fun H locs hw => ?_)
        refine lv_iconst (v := 1) hx hb dX11_hide_65 (by decide) ?_
        have hw := hw.u1
        have hw := hw.u2
        have hw := hw.u3
        obtain ⟨e0, e1, e2⟩ := tx_in3 hf
        rw [← e0, ← e1, ← e2]
        exact tx_zret S hr hlk (by decide) hw dX11_hide_66
      · replace hf := tx_pos hf h_8
        refine lv_iconst (v := 0) hx hb dX11_hide_35 (by decide) ?_
        have hw := hw.u3
        have hw := hw.u1
        have hw := hw.u2
        have hw := hw.u3
        obtain ⟨e0, e1, e2⟩ := tx_in3 hf
        rw [← e0, ← e1, ← e2]
        exact tx_zret S hr hlk (by decide) hw dX11_hide_36
def f_X11_buy (fu : Nat) (u_T : S32) (u_B : S32) (u_W : S32) (u_D : S32) (x1 : Int32) (x2 : Int32) : Option (Int32 × S32 × S32) := tx_b1 (f_X0_isMan fu u_B x1) fun (r_2 : Int32) => if r_2 = (0 : Int32) then (some ((-1 : Int32), u_W, u_D)) else (if x2 < (1 : Int32) then (some ((-1 : Int32), u_W, u_D)) else (if (9 : Int32) < x2 then (some ((-1 : Int32), u_W, u_D)) else (tx_ck x1 6 <| if ((u_W 9 x1.toNatClampNeg) + x2) ≤ (9 : Int32) then (tx_let (x2 * (u_B 0 15)) fun (y_8 : Int32) => tx_ck x1 6 <| if y_8 ≤ (u_W 5 x1.toNatClampNeg) then (tx_b1 (f_X1_note fu u_D (1 : Int32) x1 x2) fun (u_D_12 : S32) => tx_ck x1 6 <| tx_ck x1 6 <| tx_let (up2 u_W 5 x1.toNatClampNeg ((u_W 5 x1.toNatClampNeg) - y_8)) fun (u_W_15 : S32) => tx_ck x1 6 <| tx_ck x1 6 <| tx_let (up2 u_W_15 9 x1.toNatClampNeg ((u_W_15 9 x1.toNatClampNeg) + x2)) fun (u_W_18 : S32) => tx_ck x1 6 <| some (u_W_18 9 x1.toNatClampNeg, u_W_18, u_D_12)) else (some ((-2 : Int32), u_W, u_D))) else (some ((-1 : Int32), u_W, u_D)))))
set_option maxHeartbeats 4000000 in
set_option maxRecDepth 100000 in
theorem c_X11_buy {l : Launch} {g : GG} {A : Nat → Prop} {X : va_W} {fu : Nat} {a_T a_B a_W a_D : Nat → Nat} {p_T_0 p_T_2 p_T_3 p_T_5 p_T_6 p_T_8 p_T_9 p_B_17 p_W_16 : Nat} {u_T : S32} {u_B : S32} {u_W : S32} {u_D : S32} {x1 : Int32} {x2 : Int32} {r : Int32} {zu_W : S32} {zu_D : S32} (hf : f_X11_buy fu u_T u_B u_W u_D x1 x2 = some (r, zu_W, zu_D)) : MI l yX11_buy cX11_buy 4 (some .int) 2 g A (cl_X11 g a_T p_T_0 (a_B 0) p_T_2 p_T_3 (a_W 0) p_T_5 p_T_6 (a_D 0) p_T_8 p_T_9 u_T ++ (cl_X0 g a_B p_B_17 u_B ++ (cl_X10 g a_W (a_B 0) p_W_16 u_W ++ (cl_X1 g a_D u_D ++ X)))) [.ref (a_T 0), .int x1, .int x2] r (cl_X11 g a_T p_T_0 (a_B 0) p_T_2 p_T_3 (a_W 0) p_T_5 p_T_6 (a_D 0) p_T_8 p_T_9 u_T ++ (cl_X0 g a_B p_B_17 u_B ++ (cl_X10 g a_W (a_B 0) p_W_16 zu_W ++ (cl_X1 g a_D zu_D ++ X)))) := by
  refine tx_start (av := [.ref (a_T 0), .int x1, .int x2]) (by decide) (Nat.le_of_ble_eq_true rfl) ?_
  intro p e s m below meth c ls S hr hlk hE hw hl
  have S : CallFix p m c cX11_buy 4 s (List.toArray [.ref (a_T 0), .int x1, .int x2]) (Cond.code yX11_buy cX11_buy 4 (some .int) :: allW) RX11 := S
  have hx := S.1
  have hb := S.2.1
  have hown := S.2.2.2.1
  have hts : ∀ w ∈ allW, w.before (List.toArray [.ref (a_T 0), .int x1, .int x2]) s = true := fun w h => S.2.2.2.2 w (List.mem_cons_of_mem _ h)
  have hl : lv_has ls 4 [(0, .ref (a_T 0)), (1, .int x1), (2, .int x2)] := hl
  unfold f_X11_buy at hf
  refine lv_aload_n hx hb dX11_buy_0 rfl (lv_at hl 0 rfl) ?_
  refine gf_X11_21 S hE hw 0 rfl rfl dX11_buy_1 ?_
  refine lv_iload_n hx hb dX11_buy_4 rfl (lv_at hl 1 rfl) ?_
  have hw := hw.u1
  obtain ⟨r_2, h_1, hf⟩ := tx_b1_e hf
  refine tx_ci hw (tx_runN S hE hw (c_X0_isMan h_1) lk_X11_157 (q0 := 0) rfl rfl rfl hl.1 (rest := []) rfl (Nat.le_of_ble_eq_true rfl) ⟨by decide, by decide⟩ dX11_buy_5 ⟨Nat.zero_le _, Nat.zero_le _⟩) (fun H locs hw => ?_)
  refine lv_if_eq (tgt := 38) hx hb dX11_buy_8 (by decide) (fun h_3 => ?_) (fun h_3 => ?_)
  · replace hf := tx_pos hf h_3
    refine lv_iconst (v := -1) hx hb dX11_buy_38 (by decide) ?_
    have hw := hw.u3
    have hw := hw.u3
    have hw := hw.u2
    have hw := hw.u3
    obtain ⟨e0, e1, e2⟩ := tx_in3 hf
    rw [← e0, ← e1, ← e2]
    exact tx_iret S hr hlk hw dX11_buy_39
  · replace hf := tx_neg hf h_3
    refine lv_iload_n hx hb dX11_buy_11 rfl (lv_at hl 2 rfl) ?_
    refine lv_iconst (v := 1) hx hb dX11_buy_12 (by decide) ?_
    refine lv_icmp_lt (tgt := 38) hx hb dX11_buy_13 (by decide) (fun h_4 => ?_) (fun h_4 => ?_)
    · replace hf := tx_pos hf h_4
      refine lv_iconst (v := -1) hx hb dX11_buy_38 (by decide) ?_
      have hw := hw.u3
      have hw := hw.u3
      have hw := hw.u2
      have hw := hw.u3
      obtain ⟨e0, e1, e2⟩ := tx_in3 hf
      rw [← e0, ← e1, ← e2]
      exact tx_iret S hr hlk hw dX11_buy_39
    · replace hf := tx_neg hf h_4
      refine lv_iload_n hx hb dX11_buy_16 rfl (lv_at hl 2 rfl) ?_
      refine lv_bipush (v := 9) hx hb dX11_buy_17 (by decide) ?_
      refine lv_icmp_gt (tgt := 38) hx hb dX11_buy_19 (by decide) (fun h_5 => ?_) (fun h_5 => ?_)
      · replace hf := tx_pos hf h_5
        refine lv_iconst (v := -1) hx hb dX11_buy_38 (by decide) ?_
        have hw := hw.u3
        have hw := hw.u3
        have hw := hw.u2
        have hw := hw.u3
        obtain ⟨e0, e1, e2⟩ := tx_in3 hf
        rw [← e0, ← e1, ← e2]
        exact tx_iret S hr hlk hw dX11_buy_39
      · replace hf := tx_neg hf h_5
        refine lv_aload_n hx hb dX11_buy_22 rfl (lv_at hl 0 rfl) ?_
        refine gf_X11_42 S hE hw 11 rfl rfl dX11_buy_23 ?_
        refine gf_X11_172 S hE hw 12 rfl rfl dX11_buy_26 ?_
        refine lv_iload_n hx hb dX11_buy_29 rfl (lv_at hl 1 rfl) ?_
        obtain ⟨h_6, hf⟩ := tx_ck_e hf
        refine tx_iald S hE hw 17 rfl h_6 dX11_buy_30 ?_
        refine lv_iload_n hx hb dX11_buy_31 rfl (lv_at hl 2 rfl) ?_
        refine lv_iadd hx hb dX11_buy_32 ?_
        refine lv_bipush (v := 9) hx hb dX11_buy_33 (by decide) ?_
        refine lv_icmp_le (tgt := 40) hx hb dX11_buy_35 (by decide) (fun h_7 => ?_) (fun h_7 => ?_)
        · replace hf := tx_pos hf h_7
          refine lv_iload_n hx hb dX11_buy_40 rfl (lv_at hl 2 rfl) ?_
          refine lv_aload_n hx hb dX11_buy_41 rfl (lv_at hl 0 rfl) ?_
          refine gf_X11_21 S hE hw 11 rfl rfl dX11_buy_42 ?_
          refine gf_X11_204 S hE hw 0 rfl rfl dX11_buy_45 ?_
          refine lv_imul hx hb dX11_buy_48 ?_
          refine lv_topi (fun y_8 ey_8 => ?_)
          replace hf := tx_let_e hf ey_8
          refine lv_istore_n (lv' := [(3, .int y_8), (0, .ref (a_T 0)), (1, .int x1), (2, .int x2)]) hx hb dX11_buy_49 rfl hl (by decide) rfl (fun ls hl => ?_)
          refine lv_aload_n hx hb dX11_buy_50 rfl (lv_at hl 1 rfl) ?_
          refine gf_X11_42 S hE hw 11 rfl rfl dX11_buy_51 ?_
          refine gf_X11_160 S hE hw 12 rfl rfl dX11_buy_54 ?_
          refine lv_iload_n hx hb dX11_buy_57 rfl (lv_at hl 2 rfl) ?_
          obtain ⟨h_9, hf⟩ := tx_ck_e hf
          refine tx_iald S hE hw 13 rfl h_9 dX11_buy_58 ?_
          refine lv_iload_n hx hb dX11_buy_59 rfl (lv_at hl 0 rfl) ?_
          refine lv_icmp_ge (tgt := 66) hx hb dX11_buy_60 (by decide) (fun h_10 => ?_) (fun h_10 => ?_)
          · replace hf := tx_pos hf h_10
            refine lv_aload_n hx hb dX11_buy_66 rfl (lv_at hl 1 rfl) ?_
            refine gf_X11_59 S hE hw 11 rfl rfl dX11_buy_67 ?_
            refine lv_iconst (v := 1) hx hb dX11_buy_70 (by decide) ?_
            refine lv_iload_n hx hb dX11_buy_71 rfl (lv_at hl 2 rfl) ?_
            refine lv_iload_n hx hb dX11_buy_72 rfl (lv_at hl 3 rfl) ?_
            have hw := hw.u3
            obtain ⟨u_D_12, h_11, hf⟩ := tx_b1_e hf
            refine tx_cv hw (tx_runN S hE hw (c_X1_note h_11) lk_X11_200 (q0 := 0) rfl rfl rfl hl.1 (rest := []) rfl (Nat.le_of_ble_eq_true rfl) ⟨by decide, by decide⟩ dX11_buy_73 ⟨Nat.zero_le _, Nat.zero_le _⟩) (fun H locs hw => ?_)
            refine lv_aload_n hx hb dX11_buy_76 rfl (lv_at hl 1 rfl) ?_
            refine gf_X11_42 S hE hw 15 rfl rfl dX11_buy_77 ?_
            refine gf_X11_160 S hE hw 16 rfl rfl dX11_buy_80 ?_
            refine lv_iload_n hx hb dX11_buy_83 rfl (lv_at hl 2 rfl) ?_
            refine lv_dup2_11 hx hb dX11_buy_84 rfl rfl ?_
            obtain ⟨h_13, hf⟩ := tx_ck_e hf
            refine tx_iald S hE hw 17 rfl h_13 dX11_buy_85 ?_
            refine lv_iload_n hx hb dX11_buy_86 rfl (lv_at hl 0 rfl) ?_
            refine lv_isub hx hb dX11_buy_87 ?_
            obtain ⟨h_14, hf⟩ := tx_ck_e hf
            obtain ⟨u_W_15, eu_W_15⟩ : ∃ z : S32, z = up2 u_W 5 x1.toNatClampNeg ((u_W 5 x1.toNatClampNeg) - y_8) := ⟨_, rfl⟩
            replace hf := tx_let_e hf eu_W_15
            refine tx_iast (ws' := cl_X1 g a_D u_D_12 ++ (cl_X0 g a_B p_B_17 u_B ++ (cl_X11 g a_T p_T_0 (a_B 0) p_T_2 p_T_3 (a_W 0) p_T_5 p_T_6 (a_D 0) p_T_8 p_T_9 u_T ++ (cl_X10 g a_W (a_B 0) p_W_16 u_W_15 ++ X)))) S hE hw 17 rfl h_14 (by rw [eu_W_15]; rfl) dX11_buy_88 (fun H locs hw => ?_)
            refine lv_aload_n hx hb dX11_buy_89 rfl (lv_at hl 1 rfl) ?_
            refine gf_X11_42 S hE hw 15 rfl rfl dX11_buy_90 ?_
            refine gf_X11_172 S hE hw 16 rfl rfl dX11_buy_93 ?_
            refine lv_iload_n hx hb dX11_buy_96 rfl (lv_at hl 2 rfl) ?_
            refine lv_dup2_11 hx hb dX11_buy_97 rfl rfl ?_
            obtain ⟨h_16, hf⟩ := tx_ck_e hf
            refine tx_iald S hE hw 21 rfl h_16 dX11_buy_98 ?_
            refine lv_iload_n hx hb dX11_buy_99 rfl (lv_at hl 3 rfl) ?_
            refine lv_iadd hx hb dX11_buy_100 ?_
            obtain ⟨h_17, hf⟩ := tx_ck_e hf
            obtain ⟨u_W_18, eu_W_18⟩ : ∃ z : S32, z = up2 u_W_15 9 x1.toNatClampNeg ((u_W_15 9 x1.toNatClampNeg) + x2) := ⟨_, rfl⟩
            replace hf := tx_let_e hf eu_W_18
            refine tx_iast (ws' := cl_X1 g a_D u_D_12 ++ (cl_X0 g a_B p_B_17 u_B ++ (cl_X11 g a_T p_T_0 (a_B 0) p_T_2 p_T_3 (a_W 0) p_T_5 p_T_6 (a_D 0) p_T_8 p_T_9 u_T ++ (cl_X10 g a_W (a_B 0) p_W_16 u_W_18 ++ X)))) S hE hw 21 rfl h_17 (by rw [eu_W_18]; rfl) dX11_buy_101 (fun H locs hw => ?_)
            refine lv_aload_n hx hb dX11_buy_102 rfl (lv_at hl 1 rfl) ?_
            refine gf_X11_42 S hE hw 15 rfl rfl dX11_buy_103 ?_
            refine gf_X11_172 S hE hw 16 rfl rfl dX11_buy_106 ?_
            refine lv_iload_n hx hb dX11_buy_109 rfl (lv_at hl 2 rfl) ?_
            obtain ⟨h_19, hf⟩ := tx_ck_e hf
            refine tx_iald S hE hw 21 rfl h_19 dX11_buy_110 ?_
            have hw := hw.u3
            have hw := hw.u2
            have hw := hw.u3
            obtain ⟨e0, e1, e2⟩ := tx_in3 hf
            rw [← e0, ← e1, ← e2]
            exact tx_iret S hr hlk hw dX11_buy_111
          · replace hf := tx_neg hf h_10
            refine lv_bipush (v := -2) hx hb dX11_buy_63 (by decide) ?_
            have hw := hw.u3
            have hw := hw.u3
            have hw := hw.u2
            have hw := hw.u3
            obtain ⟨e0, e1, e2⟩ := tx_in3 hf
            rw [← e0, ← e1, ← e2]
            exact tx_iret S hr hlk hw dX11_buy_65
        · replace hf := tx_neg hf h_7
          refine lv_iconst (v := -1) hx hb dX11_buy_38 (by decide) ?_
          have hw := hw.u3
          have hw := hw.u3
          have hw := hw.u2
          have hw := hw.u3
          obtain ⟨e0, e1, e2⟩ := tx_in3 hf
          rw [← e0, ← e1, ← e2]
          exact tx_iret S hr hlk hw dX11_buy_39
def f_X11_round (fu : Nat) (u_T : S32) (u_B : S32) (u_W : S32) (u_D : S32) (x1 : Int32) (x2 : Int32) : Option (Int32 × S32 × S32) := tx_b1 (f_X0_isMan fu u_B x1) fun (r_2 : Int32) => if r_2 = (0 : Int32) then (some ((0 : Int32), u_W, u_D)) else (tx_b1 (f_X0_isReader fu u_B x2) fun (r_5 : Int32) => if r_5 = (0 : Int32) then (some ((0 : Int32), u_W, u_D)) else (tx_ck x1 6 <| if (u_W 10 x1.toNatClampNeg) = x2 then (some ((0 : Int32), u_W, u_D)) else (tx_ck x1 6 <| tx_b1 (f_X1_note fu u_D (2 : Int32) x1 (u_W 10 x1.toNatClampNeg)) fun (u_D_11 : S32) => tx_ck x1 6 <| tx_let (up2 u_W 10 x1.toNatClampNeg x2) fun (u_W_13 : S32) => some ((1 : Int32), u_W_13, u_D_11))))
set_option maxHeartbeats 4000000 in
set_option maxRecDepth 100000 in
theorem c_X11_round {l : Launch} {g : GG} {A : Nat → Prop} {X : va_W} {fu : Nat} {a_T a_B a_W a_D : Nat → Nat} {p_T_0 p_T_2 p_T_3 p_T_5 p_T_6 p_T_8 p_T_9 p_B_17 p_W_16 : Nat} {u_T : S32} {u_B : S32} {u_W : S32} {u_D : S32} {x1 : Int32} {x2 : Int32} {r : Int32} {zu_W : S32} {zu_D : S32} (hf : f_X11_round fu u_T u_B u_W u_D x1 x2 = some (r, zu_W, zu_D)) : MI l yX11_round cX11_round 3 (some .boolean) 2 g A (cl_X11 g a_T p_T_0 (a_B 0) p_T_2 p_T_3 (a_W 0) p_T_5 p_T_6 (a_D 0) p_T_8 p_T_9 u_T ++ (cl_X0 g a_B p_B_17 u_B ++ (cl_X10 g a_W (a_B 0) p_W_16 u_W ++ (cl_X1 g a_D u_D ++ X)))) [.ref (a_T 0), .int x1, .int x2] r (cl_X11 g a_T p_T_0 (a_B 0) p_T_2 p_T_3 (a_W 0) p_T_5 p_T_6 (a_D 0) p_T_8 p_T_9 u_T ++ (cl_X0 g a_B p_B_17 u_B ++ (cl_X10 g a_W (a_B 0) p_W_16 zu_W ++ (cl_X1 g a_D zu_D ++ X)))) := by
  refine tx_start (av := [.ref (a_T 0), .int x1, .int x2]) (by decide) (Nat.le_of_ble_eq_true rfl) ?_
  intro p e s m below meth c ls S hr hlk hE hw hl
  have S : CallFix p m c cX11_round 3 s (List.toArray [.ref (a_T 0), .int x1, .int x2]) (Cond.code yX11_round cX11_round 3 (some .boolean) :: allW) RX11 := S
  have hx := S.1
  have hb := S.2.1
  have hown := S.2.2.2.1
  have hts : ∀ w ∈ allW, w.before (List.toArray [.ref (a_T 0), .int x1, .int x2]) s = true := fun w h => S.2.2.2.2 w (List.mem_cons_of_mem _ h)
  have hl : lv_has ls 3 [(0, .ref (a_T 0)), (1, .int x1), (2, .int x2)] := hl
  unfold f_X11_round at hf
  refine lv_aload_n hx hb dX11_round_0 rfl (lv_at hl 0 rfl) ?_
  refine gf_X11_21 S hE hw 0 rfl rfl dX11_round_1 ?_
  refine lv_iload_n hx hb dX11_round_4 rfl (lv_at hl 1 rfl) ?_
  have hw := hw.u1
  obtain ⟨r_2, h_1, hf⟩ := tx_b1_e hf
  refine tx_ci hw (tx_runN S hE hw (c_X0_isMan h_1) lk_X11_157 (q0 := 0) rfl rfl rfl hl.1 (rest := []) rfl (Nat.le_of_ble_eq_true rfl) ⟨by decide, by decide⟩ dX11_round_5 ⟨Nat.zero_le _, Nat.zero_le _⟩) (fun H locs hw => ?_)
  refine lv_if_eq (tgt := 35) hx hb dX11_round_8 (by decide) (fun h_3 => ?_) (fun h_3 => ?_)
  · replace hf := tx_pos hf h_3
    refine lv_iconst (v := 0) hx hb dX11_round_35 (by decide) ?_
    have hw := hw.u3
    have hw := hw.u3
    have hw := hw.u2
    have hw := hw.u3
    obtain ⟨e0, e1, e2⟩ := tx_in3 hf
    rw [← e0, ← e1, ← e2]
    exact tx_zret S hr hlk (by decide) hw dX11_round_36
  · replace hf := tx_neg hf h_3
    refine lv_aload_n hx hb dX11_round_11 rfl (lv_at hl 0 rfl) ?_
    refine gf_X11_21 S hE hw 11 rfl rfl dX11_round_12 ?_
    refine lv_iload_n hx hb dX11_round_15 rfl (lv_at hl 2 rfl) ?_
    obtain ⟨r_5, h_4, hf⟩ := tx_b1_e hf
    refine tx_ci hw (tx_runN S hE hw (c_X0_isReader h_4) lk_X11_178 (q0 := 0) rfl rfl rfl hl.1 (rest := []) rfl (Nat.le_of_ble_eq_true rfl) ⟨by decide, by decide⟩ dX11_round_16 ⟨Nat.zero_le _, Nat.zero_le _⟩) (fun H locs hw => ?_)
    refine lv_if_eq (tgt := 35) hx hb dX11_round_19 (by decide) (fun h_6 => ?_) (fun h_6 => ?_)
    · replace hf := tx_pos hf h_6
      refine lv_iconst (v := 0) hx hb dX11_round_35 (by decide) ?_
      have hw := hw.u3
      have hw := hw.u3
      have hw := hw.u2
      have hw := hw.u3
      obtain ⟨e0, e1, e2⟩ := tx_in3 hf
      rw [← e0, ← e1, ← e2]
      exact tx_zret S hr hlk (by decide) hw dX11_round_36
    · replace hf := tx_neg hf h_6
      refine lv_aload_n hx hb dX11_round_22 rfl (lv_at hl 0 rfl) ?_
      refine gf_X11_42 S hE hw 11 rfl rfl dX11_round_23 ?_
      refine gf_X11_175 S hE hw 12 rfl rfl dX11_round_26 ?_
      refine lv_iload_n hx hb dX11_round_29 rfl (lv_at hl 1 rfl) ?_
      obtain ⟨h_7, hf⟩ := tx_ck_e hf
      refine tx_iald S hE hw 18 rfl h_7 dX11_round_30 ?_
      refine lv_iload_n hx hb dX11_round_31 rfl (lv_at hl 2 rfl) ?_
      refine lv_icmp_ne (tgt := 37) hx hb dX11_round_32 (by decide) (fun h_8 => ?_) (fun h_8 => ?_)
      · replace hf := tx_neg hf h_8
        refine lv_aload_n hx hb dX11_round_37 rfl (lv_at hl 0 rfl) ?_
        refine gf_X11_59 S hE hw 11 rfl rfl dX11_round_38 ?_
        refine lv_iconst (v := 2) hx hb dX11_round_41 (by decide) ?_
        refine lv_iload_n hx hb dX11_round_42 rfl (lv_at hl 1 rfl) ?_
        refine lv_aload_n hx hb dX11_round_43 rfl (lv_at hl 0 rfl) ?_
        refine gf_X11_42 S hE hw 11 rfl rfl dX11_round_44 ?_
        refine gf_X11_175 S hE hw 12 rfl rfl dX11_round_47 ?_
        refine lv_iload_n hx hb dX11_round_50 rfl (lv_at hl 1 rfl) ?_
        obtain ⟨h_9, hf⟩ := tx_ck_e hf
        refine tx_iald S hE hw 18 rfl h_9 dX11_round_51 ?_
        have hw := hw.u3
        obtain ⟨u_D_11, h_10, hf⟩ := tx_b1_e hf
        refine tx_cv hw (tx_runN S hE hw (c_X1_note h_10) lk_X11_200 (q0 := 0) rfl rfl rfl hl.1 (rest := []) rfl (Nat.le_of_ble_eq_true rfl) ⟨by decide, by decide⟩ dX11_round_52 ⟨Nat.zero_le _, Nat.zero_le _⟩) (fun H locs hw => ?_)
        refine lv_aload_n hx hb dX11_round_55 rfl (lv_at hl 0 rfl) ?_
        refine gf_X11_42 S hE hw 15 rfl rfl dX11_round_56 ?_
        refine gf_X11_175 S hE hw 16 rfl rfl dX11_round_59 ?_
        refine lv_iload_n hx hb dX11_round_62 rfl (lv_at hl 1 rfl) ?_
        refine lv_iload_n hx hb dX11_round_63 rfl (lv_at hl 2 rfl) ?_
        obtain ⟨h_12, hf⟩ := tx_ck_e hf
        obtain ⟨u_W_13, eu_W_13⟩ : ∃ z : S32, z = up2 u_W 10 x1.toNatClampNeg x2 := ⟨_, rfl⟩
        replace hf := tx_let_e hf eu_W_13
        refine tx_iast (ws' := cl_X1 g a_D u_D_11 ++ (cl_X0 g a_B p_B_17 u_B ++ (cl_X11 g a_T p_T_0 (a_B 0) p_T_2 p_T_3 (a_W 0) p_T_5 p_T_6 (a_D 0) p_T_8 p_T_9 u_T ++ (cl_X10 g a_W (a_B 0) p_W_16 u_W_13 ++ X)))) S hE hw 22 rfl h_12 (by rw [eu_W_13]; rfl) dX11_round_64 (fun H locs hw => ?_)
        refine lv_iconst (v := 1) hx hb dX11_round_65 (by decide) ?_
        have hw := hw.u3
        have hw := hw.u2
        have hw := hw.u3
        obtain ⟨e0, e1, e2⟩ := tx_in3 hf
        rw [← e0, ← e1, ← e2]
        exact tx_zret S hr hlk (by decide) hw dX11_round_66
      · replace hf := tx_pos hf h_8
        refine lv_iconst (v := 0) hx hb dX11_round_35 (by decide) ?_
        have hw := hw.u3
        have hw := hw.u3
        have hw := hw.u2
        have hw := hw.u3
        obtain ⟨e0, e1, e2⟩ := tx_in3 hf
        rw [← e0, ← e1, ← e2]
        exact tx_zret S hr hlk (by decide) hw dX11_round_36
def f_X11_rate (fu : Nat) (u_T : S32) (u_W : S32) (u_D : S32) (x1 : Int32) : Option (Int32 × S32 × S32) := if x1 < (0 : Int32) then (some ((0 : Int32), u_W, u_D)) else (if (100 : Int32) < x1 then (some ((0 : Int32), u_W, u_D)) else (if (u_W 0 2) = x1 then (some ((0 : Int32), u_W, u_D)) else (tx_b1 (f_X1_note fu u_D (3 : Int32) (0 : Int32) (u_W 0 2)) fun (u_D_5 : S32) => tx_let (up2 u_W 0 2 x1) fun (u_W_6 : S32) => some ((1 : Int32), u_W_6, u_D_5))))
set_option maxHeartbeats 4000000 in
set_option maxRecDepth 100000 in
theorem c_X11_rate {l : Launch} {g : GG} {A : Nat → Prop} {X : va_W} {fu : Nat} {a_T a_W a_D : Nat → Nat} {p_T_0 p_T_1 p_T_2 p_T_3 p_T_5 p_T_6 p_T_8 p_T_9 p_W_16 : Nat} {u_T : S32} {u_W : S32} {u_D : S32} {x1 : Int32} {r : Int32} {zu_W : S32} {zu_D : S32} (hf : f_X11_rate fu u_T u_W u_D x1 = some (r, zu_W, zu_D)) : MI l yX11_rate cX11_rate 2 (some .boolean) 2 g A (cl_X11 g a_T p_T_0 p_T_1 p_T_2 p_T_3 (a_W 0) p_T_5 p_T_6 (a_D 0) p_T_8 p_T_9 u_T ++ (cl_X10 g a_W p_T_1 p_W_16 u_W ++ (cl_X1 g a_D u_D ++ X))) [.ref (a_T 0), .int x1] r (cl_X11 g a_T p_T_0 p_T_1 p_T_2 p_T_3 (a_W 0) p_T_5 p_T_6 (a_D 0) p_T_8 p_T_9 u_T ++ (cl_X10 g a_W p_T_1 p_W_16 zu_W ++ (cl_X1 g a_D zu_D ++ X))) := by
  refine tx_start (av := [.ref (a_T 0), .int x1]) (by decide) (Nat.le_of_ble_eq_true rfl) ?_
  intro p e s m below meth c ls S hr hlk hE hw hl
  have S : CallFix p m c cX11_rate 2 s (List.toArray [.ref (a_T 0), .int x1]) (Cond.code yX11_rate cX11_rate 2 (some .boolean) :: allW) RX11 := S
  have hx := S.1
  have hb := S.2.1
  have hown := S.2.2.2.1
  have hts : ∀ w ∈ allW, w.before (List.toArray [.ref (a_T 0), .int x1]) s = true := fun w h => S.2.2.2.2 w (List.mem_cons_of_mem _ h)
  have hl : lv_has ls 2 [(0, .ref (a_T 0)), (1, .int x1)] := hl
  unfold f_X11_rate at hf
  refine lv_iload_n hx hb dX11_rate_0 rfl (lv_at hl 1 rfl) ?_
  refine lv_if_lt (tgt := 21) hx hb dX11_rate_1 (by decide) (fun h_1 => ?_) (fun h_1 => ?_)
  · replace hf := tx_pos hf h_1
    refine lv_iconst (v := 0) hx hb dX11_rate_21 (by decide) ?_
    obtain ⟨e0, e1, e2⟩ := tx_in3 hf
    rw [← e0, ← e1, ← e2]
    exact tx_zret S hr hlk (by decide) hw dX11_rate_22
  · replace hf := tx_neg hf h_1
    refine lv_iload_n hx hb dX11_rate_4 rfl (lv_at hl 1 rfl) ?_
    refine lv_bipush (v := 100) hx hb dX11_rate_5 (by decide) ?_
    refine lv_icmp_gt (tgt := 21) hx hb dX11_rate_7 (by decide) (fun h_2 => ?_) (fun h_2 => ?_)
    · replace hf := tx_pos hf h_2
      refine lv_iconst (v := 0) hx hb dX11_rate_21 (by decide) ?_
      obtain ⟨e0, e1, e2⟩ := tx_in3 hf
      rw [← e0, ← e1, ← e2]
      exact tx_zret S hr hlk (by decide) hw dX11_rate_22
    · replace hf := tx_neg hf h_2
      refine lv_aload_n hx hb dX11_rate_10 rfl (lv_at hl 0 rfl) ?_
      refine gf_X11_42 S hE hw 0 rfl rfl dX11_rate_11 ?_
      refine gf_X11_207 S hE hw 1 rfl rfl dX11_rate_14 ?_
      refine lv_iload_n hx hb dX11_rate_17 rfl (lv_at hl 1 rfl) ?_
      refine lv_icmp_ne (tgt := 23) hx hb dX11_rate_18 (by decide) (fun h_3 => ?_) (fun h_3 => ?_)
      · replace hf := tx_neg hf h_3
        refine lv_aload_n hx hb dX11_rate_23 rfl (lv_at hl 0 rfl) ?_
        refine gf_X11_59 S hE hw 0 rfl rfl dX11_rate_24 ?_
        refine lv_iconst (v := 3) hx hb dX11_rate_27 (by decide) ?_
        refine lv_iconst (v := 0) hx hb dX11_rate_28 (by decide) ?_
        refine lv_aload_n hx hb dX11_rate_29 rfl (lv_at hl 0 rfl) ?_
        refine gf_X11_42 S hE hw 0 rfl rfl dX11_rate_30 ?_
        refine gf_X11_207 S hE hw 1 rfl rfl dX11_rate_33 ?_
        have hw := hw.u2
        obtain ⟨u_D_5, h_4, hf⟩ := tx_b1_e hf
        refine tx_cv hw (tx_runN S hE hw (c_X1_note h_4) lk_X11_200 (q0 := 0) rfl rfl rfl hl.1 (rest := []) rfl (Nat.le_of_ble_eq_true rfl) ⟨by decide, by decide⟩ dX11_rate_36 ⟨Nat.zero_le _, Nat.zero_le _⟩) (fun H locs hw => ?_)
        refine lv_aload_n hx hb dX11_rate_39 rfl (lv_at hl 0 rfl) ?_
        refine gf_X11_42 S hE hw 4 rfl rfl dX11_rate_40 ?_
        refine lv_iload_n hx hb dX11_rate_43 rfl (lv_at hl 1 rfl) ?_
        obtain ⟨u_W_6, eu_W_6⟩ : ∃ z : S32, z = up2 u_W 0 2 x1 := ⟨_, rfl⟩
        replace hf := tx_let_e hf eu_W_6
        refine pf_X11_207 (ws' := cl_X1 g a_D u_D_5 ++ (cl_X11 g a_T p_T_0 p_T_1 p_T_2 p_T_3 (a_W 0) p_T_5 p_T_6 (a_D 0) p_T_8 p_T_9 u_T ++ (cl_X10 g a_W p_T_1 p_W_16 u_W_6 ++ X))) S hE hw rfl rfl 5 rfl (Nat.le_of_ble_eq_true rfl) (by rw [eu_W_6]; rfl) dX11_rate_44 (fun H locs hw => ?_)
        refine lv_iconst (v := 1) hx hb dX11_rate_47 (by decide) ?_
        have hw := hw.u2
        have hw := hw.u2
        obtain ⟨e0, e1, e2⟩ := tx_in3 hf
        rw [← e0, ← e1, ← e2]
        exact tx_zret S hr hlk (by decide) hw dX11_rate_48
      · replace hf := tx_pos hf h_3
        refine lv_iconst (v := 0) hx hb dX11_rate_21 (by decide) ?_
        obtain ⟨e0, e1, e2⟩ := tx_in3 hf
        rw [← e0, ← e1, ← e2]
        exact tx_zret S hr hlk (by decide) hw dX11_rate_22
def f_X10_think_J66 (fu : Nat) (u_B : S32) (K2 : S32 → Int32 → Option (S32)) (u_T : S32) (w1 : Int32) : Option (S32) := tx_let (w1 + (1 : Int32)) fun (y_12 : Int32) => K2 u_T y_12
def f_X10_think_J2 (fu : Nat) (u_B : S32) (K2 : S32 → Int32 → Option (S32)) (u_T : S32) (w1 : Int32) : Option (S32) := if (u_B 0 5) ≤ w1 then (some u_T) else (if (12 : Int32) ≤ w1 then (some u_T) else (tx_ck w1 12 <| if (u_T 11 w1.toNatClampNeg) = (0 : Int32) then (tx_ck w1 12 <| if (u_B 9 w1.toNatClampNeg) = (u_T 0 1) then (tx_ck w1 12 <| tx_let (up2 u_T 11 w1.toNatClampNeg (1 : Int32)) fun (u_T_8 : S32) => tx_ck w1 12 <| tx_ck w1 12 <| tx_let (up2 u_T_8 12 w1.toNatClampNeg (u_B 7 w1.toNatClampNeg)) fun (u_T_11 : S32) => f_X10_think_J66 fu u_B K2 u_T_11 w1) else (f_X10_think_J66 fu u_B K2 u_T w1)) else (f_X10_think_J66 fu u_B K2 u_T w1)))
def f_X10_think_L2 (fu : Nat) (u_B : S32) : Nat → S32 → Int32 → Option (S32)
  | 0 => fun _ _ => none
  | n + 1 => f_X10_think_J2 fu u_B (f_X10_think_L2 fu u_B n)
def f_X10_think (fu : Nat) (u_B : S32) (u_T : S32) : Option (S32) := f_X10_think_L2 fu u_B fu u_T (0 : Int32)
set_option maxHeartbeats 4000000 in
set_option maxRecDepth 100000 in
theorem c_X10_think {l : Launch} {g : GG} {A : Nat → Prop} {X : va_W} {fu : Nat} {a_T a_B : Nat → Nat} {p_T_16 p_B_17 : Nat} {u_T : S32} {u_B : S32} {zu_T : S32} (hf : f_X10_think fu u_B u_T = some zu_T) : MV l yX10_think cX10_think 2 none 0 g A (cl_X10 g a_T (a_B 0) p_T_16 u_T ++ (cl_X0 g a_B p_B_17 u_B ++ X)) [.ref (a_T 0)] (cl_X10 g a_T (a_B 0) p_T_16 zu_T ++ (cl_X0 g a_B p_B_17 u_B ++ X)) := by
  refine tx_start (av := [.ref (a_T 0)]) (by decide) (Nat.le_of_ble_eq_true rfl) ?_
  intro p e s m below meth c ls S hr hlk hE hw hl
  have S : CallFix p m c cX10_think 2 s (List.toArray [.ref (a_T 0)]) (Cond.code yX10_think cX10_think 2 none :: allW) RX10 := S
  have hx := S.1
  have hb := S.2.1
  have hown := S.2.2.2.1
  have hts : ∀ w ∈ allW, w.before (List.toArray [.ref (a_T 0)]) s = true := fun w h => S.2.2.2.2 w (List.mem_cons_of_mem _ h)
  have hl : lv_has ls 2 [(0, .ref (a_T 0))] := hl
  have J66 : ∀ {K2 : S32 → Int32 → Option (S32)} (hK2 : ∀ {u_T : S32} {w1 : Int32} {H : Heap} {locs : List Loc} {ls : Array Slot}, K2 u_T w1 = some zu_T → WD g A s.heap (cl_X10 g a_T (a_B 0) p_T_16 u_T ++ (cl_X0 g a_B p_B_17 u_B ++ X)) H locs → lv_has ls 2 [(0, .ref (a_T 0)), (1, .int w1)] → W p l e (rmH 0) s m (List.toArray [.ref (a_T 0)]) below meth c H locs 0 0 (MQ below (va_Qv (fun (_ : Unit) => True) (fun _ t => POST g A (cl_X10 g a_T (a_B 0) p_T_16 zu_T ++ (cl_X0 g a_B p_B_17 u_B ++ X)) t) A) (List.toArray [.ref (a_T 0)]) s 0 0 A) (F0 m 2 ls [])), ∀ {u_T : S32} {w1 : Int32} {H : Heap} {locs : List Loc} {ls : Array Slot}, f_X10_think_J66 fu u_B K2 u_T w1 = some zu_T → WD g A s.heap (cl_X10 g a_T (a_B 0) p_T_16 u_T ++ (cl_X0 g a_B p_B_17 u_B ++ X)) H locs → lv_has ls 2 [(0, .ref (a_T 0)), (1, .int w1)] → W p l e (rmH 0) s m (List.toArray [.ref (a_T 0)]) below meth c H locs 0 0 (MQ below (va_Qv (fun (_ : Unit) => True) (fun _ t => POST g A (cl_X10 g a_T (a_B 0) p_T_16 zu_T ++ (cl_X0 g a_B p_B_17 u_B ++ X)) t) A) (List.toArray [.ref (a_T 0)]) s 0 0 A) (F0 m 66 ls []) := by
    intro K2 hK2 u_T w1 H locs ls hf hw hl
    unfold f_X10_think_J66 at hf
    obtain ⟨y_12, ey_12⟩ : ∃ y : Int32, y = w1 + (1 : Int32) := ⟨_, rfl⟩
    replace hf := tx_let_e hf ey_12
    refine lv_iinc (v := y_12) (lv' := [(1, .int y_12), (0, .ref (a_T 0))]) hx hb dX10_think_66 hl (k := 1) rfl (by rw [ey_12]; rfl) (by decide) rfl (fun ls hl => ?_)
    refine lv_goto (tgt := 2) hx hb dX10_think_69 (by decide) ?_
    exact hK2 hf hw (lv_sub hl [1, 0] rfl)
  have J2 : ∀ {K2 : S32 → Int32 → Option (S32)} (hK2 : ∀ {u_T : S32} {w1 : Int32} {H : Heap} {locs : List Loc} {ls : Array Slot}, K2 u_T w1 = some zu_T → WD g A s.heap (cl_X10 g a_T (a_B 0) p_T_16 u_T ++ (cl_X0 g a_B p_B_17 u_B ++ X)) H locs → lv_has ls 2 [(0, .ref (a_T 0)), (1, .int w1)] → W p l e (rmH 0) s m (List.toArray [.ref (a_T 0)]) below meth c H locs 0 0 (MQ below (va_Qv (fun (_ : Unit) => True) (fun _ t => POST g A (cl_X10 g a_T (a_B 0) p_T_16 zu_T ++ (cl_X0 g a_B p_B_17 u_B ++ X)) t) A) (List.toArray [.ref (a_T 0)]) s 0 0 A) (F0 m 2 ls [])), ∀ {u_T : S32} {w1 : Int32} {H : Heap} {locs : List Loc} {ls : Array Slot}, f_X10_think_J2 fu u_B K2 u_T w1 = some zu_T → WD g A s.heap (cl_X10 g a_T (a_B 0) p_T_16 u_T ++ (cl_X0 g a_B p_B_17 u_B ++ X)) H locs → lv_has ls 2 [(0, .ref (a_T 0)), (1, .int w1)] → W p l e (rmH 0) s m (List.toArray [.ref (a_T 0)]) below meth c H locs 0 0 (MQ below (va_Qv (fun (_ : Unit) => True) (fun _ t => POST g A (cl_X10 g a_T (a_B 0) p_T_16 zu_T ++ (cl_X0 g a_B p_B_17 u_B ++ X)) t) A) (List.toArray [.ref (a_T 0)]) s 0 0 A) (F0 m 2 ls []) := by
    intro K2 hK2 u_T w1 H locs ls hf hw hl
    unfold f_X10_think_J2 at hf
    refine lv_iload_n hx hb dX10_think_2 rfl (lv_at hl 1 rfl) ?_
    refine lv_aload_n hx hb dX10_think_3 rfl (lv_at hl 0 rfl) ?_
    refine gf_X10_49 S hE hw 0 rfl rfl dX10_think_4 ?_
    refine gf_X10_117 S hE hw 12 rfl rfl dX10_think_7 ?_
    refine lv_icmp_ge (tgt := 72) hx hb dX10_think_10 (by decide) (fun h_1 => ?_) (fun h_1 => ?_)
    · replace hf := tx_pos hf h_1
      obtain e0 := tx_in1 hf
      rw [← e0]
      exact tx_vret S hr hlk hw dX10_think_72
    · replace hf := tx_neg hf h_1
      refine lv_iload_n hx hb dX10_think_13 rfl (lv_at hl 1 rfl) ?_
      refine lv_bipush (v := 12) hx hb dX10_think_14 (by decide) ?_
      refine lv_icmp_ge (tgt := 72) hx hb dX10_think_16 (by decide) (fun h_2 => ?_) (fun h_2 => ?_)
      · replace hf := tx_pos hf h_2
        obtain e0 := tx_in1 hf
        rw [← e0]
        exact tx_vret S hr hlk hw dX10_think_72
      · replace hf := tx_neg hf h_2
        refine lv_aload_n hx hb dX10_think_19 rfl (lv_at hl 0 rfl) ?_
        refine gf_X10_30 S hE hw 0 rfl rfl dX10_think_20 ?_
        refine lv_iload_n hx hb dX10_think_23 rfl (lv_at hl 1 rfl) ?_
        obtain ⟨h_3, hf⟩ := tx_ck_e hf
        refine tx_iald S hE hw 7 rfl h_3 dX10_think_24 ?_
        refine lv_if_ne (tgt := 66) hx hb dX10_think_25 (by decide) (fun h_4 => ?_) (fun h_4 => ?_)
        · replace hf := tx_neg hf h_4
          exact J66 hK2 hf hw (lv_sub hl [0, 1] rfl)
        · replace hf := tx_pos hf h_4
          refine lv_aload_n hx hb dX10_think_28 rfl (lv_at hl 0 rfl) ?_
          refine gf_X10_49 S hE hw 0 rfl rfl dX10_think_29 ?_
          refine gf_X10_120 S hE hw 12 rfl rfl dX10_think_32 ?_
          refine lv_iload_n hx hb dX10_think_35 rfl (lv_at hl 1 rfl) ?_
          obtain ⟨h_5, hf⟩ := tx_ck_e hf
          refine tx_iald S hE hw 18 rfl h_5 dX10_think_36 ?_
          refine lv_aload_n hx hb dX10_think_37 rfl (lv_at hl 0 rfl) ?_
          refine gf_X10_53 S hE hw 0 rfl rfl dX10_think_38 ?_
          refine lv_icmp_ne (tgt := 66) hx hb dX10_think_41 (by decide) (fun h_6 => ?_) (fun h_6 => ?_)
          · replace hf := tx_neg hf h_6
            exact J66 hK2 hf hw (lv_sub hl [0, 1] rfl)
          · replace hf := tx_pos hf h_6
            refine lv_aload_n hx hb dX10_think_44 rfl (lv_at hl 0 rfl) ?_
            refine gf_X10_30 S hE hw 0 rfl rfl dX10_think_45 ?_
            refine lv_iload_n hx hb dX10_think_48 rfl (lv_at hl 1 rfl) ?_
            refine lv_iconst (v := 1) hx hb dX10_think_49 (by decide) ?_
            obtain ⟨h_7, hf⟩ := tx_ck_e hf
            obtain ⟨u_T_8, eu_T_8⟩ : ∃ z : S32, z = up2 u_T 11 w1.toNatClampNeg (1 : Int32) := ⟨_, rfl⟩
            replace hf := tx_let_e hf eu_T_8
            refine tx_iast (ws' := cl_X10 g a_T (a_B 0) p_T_16 u_T_8 ++ (cl_X0 g a_B p_B_17 u_B ++ X)) S hE hw 7 rfl h_7 (by rw [eu_T_8]; rfl) dX10_think_50 (fun H locs hw => ?_)
            refine lv_aload_n hx hb dX10_think_51 rfl (lv_at hl 0 rfl) ?_
            refine gf_X10_33 S hE hw 0 rfl rfl dX10_think_52 ?_
            refine lv_iload_n hx hb dX10_think_55 rfl (lv_at hl 1 rfl) ?_
            refine lv_aload_n hx hb dX10_think_56 rfl (lv_at hl 0 rfl) ?_
            refine gf_X10_49 S hE hw 0 rfl rfl dX10_think_57 ?_
            refine gf_X10_123 S hE hw 12 rfl rfl dX10_think_60 ?_
            refine lv_iload_n hx hb dX10_think_63 rfl (lv_at hl 1 rfl) ?_
            obtain ⟨h_9, hf⟩ := tx_ck_e hf
            refine tx_iald S hE hw 16 rfl h_9 dX10_think_64 ?_
            obtain ⟨h_10, hf⟩ := tx_ck_e hf
            obtain ⟨u_T_11, eu_T_11⟩ : ∃ z : S32, z = up2 u_T_8 12 w1.toNatClampNeg (u_B 7 w1.toNatClampNeg) := ⟨_, rfl⟩
            replace hf := tx_let_e hf eu_T_11
            refine tx_iast (ws' := cl_X10 g a_T (a_B 0) p_T_16 u_T_11 ++ (cl_X0 g a_B p_B_17 u_B ++ X)) S hE hw 8 rfl h_10 (by rw [eu_T_11]; rfl) dX10_think_65 (fun H locs hw => ?_)
            exact J66 hK2 hf hw (lv_sub hl [0, 1] rfl)
  have L2 : ∀ (n : Nat), ∀ {u_T : S32} {w1 : Int32} {H : Heap} {locs : List Loc} {ls : Array Slot}, f_X10_think_L2 fu u_B n u_T w1 = some zu_T → WD g A s.heap (cl_X10 g a_T (a_B 0) p_T_16 u_T ++ (cl_X0 g a_B p_B_17 u_B ++ X)) H locs → lv_has ls 2 [(0, .ref (a_T 0)), (1, .int w1)] → W p l e (rmH 0) s m (List.toArray [.ref (a_T 0)]) below meth c H locs 0 0 (MQ below (va_Qv (fun (_ : Unit) => True) (fun _ t => POST g A (cl_X10 g a_T (a_B 0) p_T_16 zu_T ++ (cl_X0 g a_B p_B_17 u_B ++ X)) t) A) (List.toArray [.ref (a_T 0)]) s 0 0 A) (F0 m 2 ls []) := by
    intro  n
    induction n with
    | zero => intro u_T w1 H locs ls hf; exact absurd hf (by intro q; cases q)
    | succ n ih => exact fun hf hw hl => J2 ih hf hw hl
  unfold f_X10_think at hf
  refine lv_iconst (v := 0) hx hb dX10_think_0 (by decide) ?_
  refine lv_istore_n (lv' := [(1, .int (0 : Int32)), (0, .ref (a_T 0))]) hx hb dX10_think_1 rfl hl (by decide) rfl (fun ls hl => ?_)
  exact L2 fu hf hw (lv_sub hl [1, 0] rfl)
def f_X10_within (fu : Nat) (x0 : Int64) (x2 : Int32) : Option (Int32) := some ((if (if (x2.toInt64) < x0 then (x2.toInt64) else x0) < (0 : Int64) then (0 : Int64) else (if (x2.toInt64) < x0 then (x2.toInt64) else x0)).toInt32)
set_option maxHeartbeats 4000000 in
set_option maxRecDepth 100000 in
theorem c_X10_within {l : Launch} {g : GG} {A : Nat → Prop} {X : va_W} {fu : Nat} {x0 : Int64} {x2 : Int32} {r : Int32} (hf : f_X10_within fu  x0 x2 = some r) : MI l yX10_within cX10_within 3 (some .int) 1 g A (X) [.long x0, .int x2] r (X) := by
  refine tx_start (av := [.long x0, .int x2]) (by decide) (Nat.le_of_ble_eq_true rfl) ?_
  intro p e s m below meth c ls S hr hlk hE hw hl
  have S : CallFix p m c cX10_within 3 s (List.toArray [.long x0, .int x2]) (Cond.code yX10_within cX10_within 3 (some .int) :: allW) RX10 := S
  have hx := S.1
  have hb := S.2.1
  have hown := S.2.2.2.1
  have hts : ∀ w ∈ allW, w.before (List.toArray [.long x0, .int x2]) s = true := fun w h => S.2.2.2.2 w (List.mem_cons_of_mem _ h)
  have hl : lv_has ls 3 [(0, .long x0), (2, .int x2)] := hl
  unfold f_X10_within at hf
  refine lv_lconst (v := 0) hx hb dX10_within_0 (by decide) ?_
  refine lv_lload_n hx hb dX10_within_1 rfl (lv_at hl 0 rfl) ?_
  refine lv_iload_n hx hb dX10_within_2 rfl (lv_at hl 1 rfl) ?_
  refine lv_i2l (v := x2.toInt64) hx hb dX10_within_3 rfl ?_
  refine tx_mmin_long S kw_861 hl.1 (by decide) (Nat.le_of_ble_eq_true rfl) ⟨Nat.zero_le _, Nat.zero_le _⟩ dX10_within_4 ?_
  refine tx_mmax_long S kw_864 hl.1 (by decide) (Nat.le_of_ble_eq_true rfl) ⟨Nat.zero_le _, Nat.zero_le _⟩ dX10_within_7 ?_
  refine lv_l2i (v := (if (if (x2.toInt64) < x0 then (x2.toInt64) else x0) < (0 : Int64) then (0 : Int64) else (if (x2.toInt64) < x0 then (x2.toInt64) else x0)).toInt32) hx hb dX10_within_10 rfl ?_
  obtain e0 := tx_in1 hf
  rw [← e0]
  exact tx_iret S hr hlk hw dX10_within_11
def f_X10_hideOf_J106 (fu : Nat) (u_T : S32) (u_B : S32) (u_L : S32) (v_L : S64) (v_N : S64) (t0 : Int64) : Option (Int32 × S64 × S64) := tx_b1 (f_X10_within fu t0 (99 : Int32)) fun (r_20 : Int32) => some (r_20, v_L, v_N)
def f_X10_hideOf_J84 (fu : Nat) (u_T : S32) (u_B : S32) (u_L : S32) (v_L : S64) (v_N : S64) (w2 : Int32) (w3 : Int64) : Option (Int32 × S64 × S64) := if (lg_cmp w3 (-9223372036854775808 : Int64)) = (0 : Int32) then (tx_ck w2 6 <| f_X10_hideOf_J106 fu u_T u_B u_L v_L v_N (((8 : Int32) + (u_T 6 w2.toNatClampNeg)).toInt64)) else (f_X10_hideOf_J106 fu u_T u_B u_L v_L v_N w3)
def f_X10_hideOf_J21 (fu : Nat) (u_T : S32) (u_B : S32) (u_L : S32) (v_L : S64) (v_N : S64) (w1 : Int32) (t0 : Int32) : Option (Int32 × S64 × S64) := tx_b1 (f_X0_isMan fu u_B t0) fun (r_6 : Int32) => if r_6 = (0 : Int32) then (some ((0 : Int32), v_L, v_N)) else (tx_b1 (f_X5_isTold fu u_L v_L (2 : Int32)) fun (r_9 : Int32) => if r_9 = (0 : Int32) then (f_X10_hideOf_J84 fu u_T u_B u_L v_L v_N t0 (-9223372036854775808 : Int64)) else (tx_ck w1 12 <| tx_b1 (f_X10_nameDoor fu u_T u_B v_N t0 (-1 : Int32) (u_B 8 w1.toNatClampNeg)) fun (v_N_13 : S64) => tx_b2 (f_X5_work_oNr0 fu u_L v_N_13 v_L (2 : Int32)) fun (r_15 : Int64) (v_L_16 : S64) => f_X10_hideOf_J84 fu u_T u_B u_L v_L_16 v_N_13 t0 r_15))
def f_X10_hideOf (fu : Nat) (u_T : S32) (u_B : S32) (u_L : S32) (v_L : S64) (v_N : S64) (x1 : Int32) : Option (Int32 × S64 × S64) := tx_b1 (f_X0_isThought fu u_B x1) fun (r_2 : Int32) => if r_2 = (0 : Int32) then (f_X10_hideOf_J21 fu u_T u_B u_L v_L v_N x1 (-1 : Int32)) else (tx_ck x1 12 <| f_X10_hideOf_J21 fu u_T u_B u_L v_L v_N x1 (u_T 12 x1.toNatClampNeg))
set_option maxHeartbeats 4000000 in
set_option maxRecDepth 100000 in
theorem c_X10_hideOf {l : Launch} {g : GG} {A : Nat → Prop} {X : va_W} {fu : Nat} {a_T a_B a_L a_N : Nat → Nat} {u_T : S32} {u_B : S32} {u_L : S32} {v_L : S64} {v_N : S64} {x1 : Int32} {r : Int32} {zv_L : S64} {zv_N : S64} (hf : f_X10_hideOf fu u_T u_B u_L v_L v_N x1 = some (r, zv_L, zv_N)) : MI l yX10_hideOf cX10_hideOf 5 (some .int) 2 g A (cl_X10 g a_T (a_B 0) (a_N 0) u_T ++ (cl_X0 g a_B (a_L 0) u_B ++ (cl_X5 g a_L u_L v_L ++ (cl_N g a_N v_N ++ X)))) [.ref (a_T 0), .int x1] r (cl_X10 g a_T (a_B 0) (a_N 0) u_T ++ (cl_X0 g a_B (a_L 0) u_B ++ (cl_X5 g a_L u_L zv_L ++ (cl_N g a_N zv_N ++ X)))) := by
  refine tx_start (av := [.ref (a_T 0), .int x1]) (by decide) (Nat.le_of_ble_eq_true rfl) ?_
  intro p e s m below meth c ls S hr hlk hE hw hl
  have S : CallFix p m c cX10_hideOf 5 s (List.toArray [.ref (a_T 0), .int x1]) (Cond.code yX10_hideOf cX10_hideOf 5 (some .int) :: allW) RX10 := S
  have hx := S.1
  have hb := S.2.1
  have hown := S.2.2.2.1
  have hts : ∀ w ∈ allW, w.before (List.toArray [.ref (a_T 0), .int x1]) s = true := fun w h => S.2.2.2.2 w (List.mem_cons_of_mem _ h)
  have hl : lv_has ls 5 [(0, .ref (a_T 0)), (1, .int x1)] := hl
  have J106 : ∀ {v_L : S64} {v_N : S64} {t0 : Int64} {H : Heap} {locs : List Loc} {ls : Array Slot}, f_X10_hideOf_J106 fu u_T u_B u_L v_L v_N t0 = some (r, zv_L, zv_N) → WD g A s.heap (cl_X10 g a_T (a_B 0) (a_N 0) u_T ++ (cl_X0 g a_B (a_L 0) u_B ++ (cl_X5 g a_L u_L v_L ++ (cl_N g a_N v_N ++ X)))) H locs → lv_has ls 5 [] → W p l e (rmH 2) s m (List.toArray [.ref (a_T 0), .int x1]) below meth c H locs 0 0 (MQ below (va_Qi (fun r2 (_ : Unit) => r2 = r) (fun _ t => POST g A (cl_X10 g a_T (a_B 0) (a_N 0) u_T ++ (cl_X0 g a_B (a_L 0) u_B ++ (cl_X5 g a_L u_L zv_L ++ (cl_N g a_N zv_N ++ X)))) t) A) (List.toArray [.ref (a_T 0), .int x1]) s 0 0 A) (F0 m 106 ls [.long t0]) := by
    intro v_L v_N t0 H locs ls hf hw hl
    unfold f_X10_hideOf_J106 at hf
    refine lv_bipush (v := 99) hx hb dX10_hideOf_106 (by decide) ?_
    obtain ⟨r_20, h_19, hf⟩ := tx_b1_e hf
    refine tx_ci hw (tx_runS S hE hw (c_X10_within h_19) lk_X10_194 rfl hl.1 (rest := []) rfl (Nat.le_of_ble_eq_true rfl) ⟨by decide, by decide⟩ dX10_hideOf_108 ⟨Nat.zero_le _, Nat.zero_le _⟩) (fun H locs hw => ?_)
    obtain ⟨e0, e1, e2⟩ := tx_in3 hf
    rw [← e0, ← e1, ← e2]
    exact tx_iret S hr hlk hw dX10_hideOf_111
  have J84 : ∀ {v_L : S64} {v_N : S64} {w2 : Int32} {w3 : Int64} {H : Heap} {locs : List Loc} {ls : Array Slot}, f_X10_hideOf_J84 fu u_T u_B u_L v_L v_N w2 w3 = some (r, zv_L, zv_N) → WD g A s.heap (cl_X10 g a_T (a_B 0) (a_N 0) u_T ++ (cl_X0 g a_B (a_L 0) u_B ++ (cl_X5 g a_L u_L v_L ++ (cl_N g a_N v_N ++ X)))) H locs → lv_has ls 5 [(0, .ref (a_T 0)), (2, .int w2), (3, .long w3)] → W p l e (rmH 2) s m (List.toArray [.ref (a_T 0), .int x1]) below meth c H locs 0 0 (MQ below (va_Qi (fun r2 (_ : Unit) => r2 = r) (fun _ t => POST g A (cl_X10 g a_T (a_B 0) (a_N 0) u_T ++ (cl_X0 g a_B (a_L 0) u_B ++ (cl_X5 g a_L u_L zv_L ++ (cl_N g a_N zv_N ++ X)))) t) A) (List.toArray [.ref (a_T 0), .int x1]) s 0 0 A) (F0 m 84 ls []) := by
    intro v_L v_N w2 w3 H locs ls hf hw hl
    unfold f_X10_hideOf_J84 at hf
    refine lv_lload_n hx hb dX10_hideOf_84 rfl (lv_at hl 2 rfl) ?_
    refine lv_ldc2 (v := -9223372036854775808) hx hb hown (hts _ kw_755) dX10_hideOf_85 ?_
    refine W.lcmp hx hb dX10_hideOf_88 ?_
    refine lv_if_ne (tgt := 105) hx hb dX10_hideOf_89 (by decide) (fun h_17 => ?_) (fun h_17 => ?_)
    · replace hf := tx_neg hf h_17
      refine lv_lload_n hx hb dX10_hideOf_105 rfl (lv_at hl 2 rfl) ?_
      exact J106 hf hw (lv_sub hl [] rfl)
    · replace hf := tx_pos hf h_17
      refine lv_bipush (v := 8) hx hb dX10_hideOf_92 (by decide) ?_
      refine lv_aload_n hx hb dX10_hideOf_94 rfl (lv_at hl 0 rfl) ?_
      refine gf_X10_15 S hE hw 0 rfl rfl dX10_hideOf_95 ?_
      refine lv_iload_n hx hb dX10_hideOf_98 rfl (lv_at hl 1 rfl) ?_
      obtain ⟨h_18, hf⟩ := tx_ck_e hf
      refine tx_iald S hE hw 2 rfl h_18 dX10_hideOf_99 ?_
      refine lv_iadd hx hb dX10_hideOf_100 ?_
      refine lv_i2l (v := ((8 : Int32) + (u_T 6 w2.toNatClampNeg)).toInt64) hx hb dX10_hideOf_101 rfl ?_
      refine lv_goto (tgt := 106) hx hb dX10_hideOf_102 (by decide) ?_
      exact J106 hf hw (lv_sub hl [] rfl)
  have J21 : ∀ {v_L : S64} {v_N : S64} {w1 : Int32} {t0 : Int32} {H : Heap} {locs : List Loc} {ls : Array Slot}, f_X10_hideOf_J21 fu u_T u_B u_L v_L v_N w1 t0 = some (r, zv_L, zv_N) → WD g A s.heap (cl_X10 g a_T (a_B 0) (a_N 0) u_T ++ (cl_X0 g a_B (a_L 0) u_B ++ (cl_X5 g a_L u_L v_L ++ (cl_N g a_N v_N ++ X)))) H locs → lv_has ls 5 [(0, .ref (a_T 0)), (1, .int w1)] → W p l e (rmH 2) s m (List.toArray [.ref (a_T 0), .int x1]) below meth c H locs 0 0 (MQ below (va_Qi (fun r2 (_ : Unit) => r2 = r) (fun _ t => POST g A (cl_X10 g a_T (a_B 0) (a_N 0) u_T ++ (cl_X0 g a_B (a_L 0) u_B ++ (cl_X5 g a_L u_L zv_L ++ (cl_N g a_N zv_N ++ X)))) t) A) (List.toArray [.ref (a_T 0), .int x1]) s 0 0 A) (F0 m 21 ls [.int t0]) := by
    intro v_L v_N w1 t0 H locs ls hf hw hl
    unfold f_X10_hideOf_J21 at hf
    refine lv_istore_n (lv' := [(2, .int t0), (0, .ref (a_T 0)), (1, .int w1)]) hx hb dX10_hideOf_21 rfl hl (by decide) rfl (fun ls hl => ?_)
    refine lv_aload_n hx hb dX10_hideOf_22 rfl (lv_at hl 1 rfl) ?_
    refine gf_X10_49 S hE hw 0 rfl rfl dX10_hideOf_23 ?_
    refine lv_iload_n hx hb dX10_hideOf_26 rfl (lv_at hl 0 rfl) ?_
    have hw := hw.u1
    obtain ⟨r_6, h_5, hf⟩ := tx_b1_e hf
    refine tx_ci hw (tx_runN S hE hw (c_X0_isMan h_5) lk_X10_126 (q0 := 0) rfl rfl rfl hl.1 (rest := []) rfl (Nat.le_of_ble_eq_true rfl) ⟨by decide, by decide⟩ dX10_hideOf_27 ⟨Nat.zero_le _, Nat.zero_le _⟩) (fun H locs hw => ?_)
    refine lv_if_ne (tgt := 35) hx hb dX10_hideOf_30 (by decide) (fun h_7 => ?_) (fun h_7 => ?_)
    · replace hf := tx_neg hf h_7
      refine lv_ldc2 (v := -9223372036854775808) hx hb hown (hts _ kw_755) dX10_hideOf_35 ?_
      refine lv_lstore_n (lv' := [(3, .long (-9223372036854775808 : Int64)), (2, .int t0), (0, .ref (a_T 0)), (1, .int w1)]) hx hb dX10_hideOf_38 rfl hl (by decide) rfl (fun ls hl => ?_)
      refine lv_aload_n hx hb dX10_hideOf_39 rfl (lv_at hl 2 rfl) ?_
      refine gf_X10_49 S hE hw 11 rfl rfl dX10_hideOf_40 ?_
      refine gf_X10_177 S hE hw 0 rfl rfl dX10_hideOf_43 ?_
      refine lv_iconst (v := 2) hx hb dX10_hideOf_46 (by decide) ?_
      have hw := hw.u2
      obtain ⟨r_9, h_8, hf⟩ := tx_b1_e hf
      refine tx_ci hw (tx_runN S hE hw (c_X5_isTold h_8) lk_X10_181 (q0 := 0) rfl rfl rfl hl.1 (rest := []) rfl (Nat.le_of_ble_eq_true rfl) ⟨by decide, by decide⟩ dX10_hideOf_47 ⟨Nat.zero_le _, Nat.zero_le _⟩) (fun H locs hw => ?_)
      refine lv_if_eq (tgt := 84) hx hb dX10_hideOf_50 (by decide) (fun h_10 => ?_) (fun h_10 => ?_)
      · replace hf := tx_pos hf h_10
        have hw := hw.u3
        have hw := hw.u1
        have hw := hw.u2
        have hw := hw.u3
        exact J84 hf hw (lv_sub hl [2, 1, 0] rfl)
      · replace hf := tx_neg hf h_10
        refine lv_aload_n hx hb dX10_hideOf_53 rfl (lv_at hl 2 rfl) ?_
        refine lv_iload_n hx hb dX10_hideOf_54 rfl (lv_at hl 1 rfl) ?_
        refine lv_iconst (v := -1) hx hb dX10_hideOf_55 (by decide) ?_
        refine lv_aload_n hx hb dX10_hideOf_56 rfl (lv_at hl 2 rfl) ?_
        refine gf_X10_49 S hE hw 17 rfl rfl dX10_hideOf_57 ?_
        refine gf_X10_141 S hE hw 6 rfl rfl dX10_hideOf_60 ?_
        refine lv_iload_n hx hb dX10_hideOf_63 rfl (lv_at hl 3 rfl) ?_
        obtain ⟨h_11, hf⟩ := tx_ck_e hf
        refine tx_iald S hE hw 11 rfl h_11 dX10_hideOf_64 ?_
        have hw := hw.u3
        have hw := hw.u2
        have hw := hw.u3
        obtain ⟨v_N_13, h_12, hf⟩ := tx_b1_e hf
        refine tx_cv hw (tx_runV S hE hw (c_X10_nameDoor h_12) lk_X10_186 (q0 := 0) rfl rfl rfl hl.1 (rest := []) rfl (Nat.le_of_ble_eq_true rfl) ⟨by decide, by decide⟩ dX10_hideOf_65 ⟨Nat.zero_le _, Nat.zero_le _⟩) (fun H locs hw => ?_)
        refine lv_aload_n hx hb dX10_hideOf_68 rfl (lv_at hl 2 rfl) ?_
        refine gf_X10_49 S hE hw 0 rfl rfl dX10_hideOf_69 ?_
        refine gf_X10_177 S hE hw 12 rfl rfl dX10_hideOf_72 ?_
        refine lv_iconst (v := 2) hx hb dX10_hideOf_75 (by decide) ?_
        refine lv_aload_n hx hb dX10_hideOf_76 rfl (lv_at hl 2 rfl) ?_
        refine gf_X10_45 S hE hw 0 rfl rfl dX10_hideOf_77 ?_
        have hw := hw.u2
        have hw := hw.u3
        obtain ⟨r_15, v_L_16, h_14, hf⟩ := tx_b2_e hf
        refine tx_cl hw (tx_runN S hE hw (c_X5_work_oNr0 h_14) lk_X10_190 (q0 := 0) rfl rfl rfl hl.1 (rest := []) rfl (Nat.le_of_ble_eq_true rfl) ⟨by decide, by decide⟩ dX10_hideOf_80 ⟨Nat.zero_le _, Nat.zero_le _⟩) (fun H locs hw => ?_)
        refine lv_lstore_n (lv' := [(3, .long r_15), (2, .int t0), (0, .ref (a_T 0)), (1, .int w1)]) hx hb dX10_hideOf_83 rfl hl (by decide) rfl (fun ls hl => ?_)
        have hw := hw.u1
        have hw := hw.u1
        have hw := hw.u3
        have hw := hw.u3
        exact J84 hf hw (lv_sub hl [2, 1, 0] rfl)
    · replace hf := tx_pos hf h_7
      refine lv_iconst (v := 0) hx hb dX10_hideOf_33 (by decide) ?_
      have hw := hw.u3
      have hw := hw.u3
      have hw := hw.u2
      have hw := hw.u3
      obtain ⟨e0, e1, e2⟩ := tx_in3 hf
      rw [← e0, ← e1, ← e2]
      exact tx_iret S hr hlk hw dX10_hideOf_34
  unfold f_X10_hideOf at hf
  refine lv_aload_n hx hb dX10_hideOf_0 rfl (lv_at hl 0 rfl) ?_
  refine gf_X10_49 S hE hw 0 rfl rfl dX10_hideOf_1 ?_
  refine lv_iload_n hx hb dX10_hideOf_4 rfl (lv_at hl 1 rfl) ?_
  have hw := hw.u1
  obtain ⟨r_2, h_1, hf⟩ := tx_b1_e hf
  refine tx_ci hw (tx_runN S hE hw (c_X0_isThought h_1) lk_X10_168 (q0 := 0) rfl rfl rfl hl.1 (rest := []) rfl (Nat.le_of_ble_eq_true rfl) ⟨by decide, by decide⟩ dX10_hideOf_5 ⟨Nat.zero_le _, Nat.zero_le _⟩) (fun H locs hw => ?_)
  refine lv_if_eq (tgt := 20) hx hb dX10_hideOf_8 (by decide) (fun h_3 => ?_) (fun h_3 => ?_)
  · replace hf := tx_pos hf h_3
    refine lv_iconst (v := -1) hx hb dX10_hideOf_20 (by decide) ?_
    have hw := hw.u3
    have hw := hw.u3
    have hw := hw.u2
    have hw := hw.u3
    exact J21 hf hw (lv_sub hl [0, 1] rfl)
  · replace hf := tx_neg hf h_3
    refine lv_aload_n hx hb dX10_hideOf_11 rfl (lv_at hl 0 rfl) ?_
    refine gf_X10_33 S hE hw 11 rfl rfl dX10_hideOf_12 ?_
    refine lv_iload_n hx hb dX10_hideOf_15 rfl (lv_at hl 1 rfl) ?_
    obtain ⟨h_4, hf⟩ := tx_ck_e hf
    refine tx_iald S hE hw 19 rfl h_4 dX10_hideOf_16 ?_
    refine lv_goto (tgt := 21) hx hb dX10_hideOf_17 (by decide) ?_
    have hw := hw.u3
    have hw := hw.u3
    have hw := hw.u2
    have hw := hw.u3
    exact J21 hf hw (lv_sub hl [0, 1] rfl)
def f_X10_forget_J65 (fu : Nat) (u_B : S32) (u_L : S32) (K2 : S32 → S64 → S64 → Int32 → Option (S32 × S64 × S64)) (u_T : S32) (v_L : S64) (v_N : S64) (w1 : Int32) : Option (S32 × S64 × S64) := tx_let (w1 + (1 : Int32)) fun (y_15 : Int32) => K2 u_T v_L v_N y_15
def f_X10_forget_J2 (fu : Nat) (u_B : S32) (u_L : S32) (K2 : S32 → S64 → S64 → Int32 → Option (S32 × S64 × S64)) (u_T : S32) (v_L : S64) (v_N : S64) (w1 : Int32) : Option (S32 × S64 × S64) := if (u_B 0 5) ≤ w1 then (some (u_T, v_L, v_N)) else (if (12 : Int32) ≤ w1 then (some (u_T, v_L, v_N)) else (tx_ck w1 12 <| if (u_T 11 w1.toNatClampNeg) = (1 : Int32) then (tx_ck w1 12 <| tx_b3 (f_X10_hideOf fu u_T u_B u_L v_L v_N w1) fun (r_7 : Int32) (v_L_8 : S64) (v_N_9 : S64) => if ((u_T 0 1) - (u_B 9 w1.toNatClampNeg)) ≤ r_7 then (f_X10_forget_J65 fu u_B u_L K2 u_T v_L_8 v_N_9 w1) else (tx_ck w1 12 <| tx_let (up2 u_T 11 w1.toNatClampNeg (2 : Int32)) fun (u_T_12 : S32) => tx_ck w1 12 <| tx_let (up2 u_T_12 12 w1.toNatClampNeg (-1 : Int32)) fun (u_T_14 : S32) => f_X10_forget_J65 fu u_B u_L K2 u_T_14 v_L_8 v_N_9 w1)) else (f_X10_forget_J65 fu u_B u_L K2 u_T v_L v_N w1)))
def f_X10_forget_L2 (fu : Nat) (u_B : S32) (u_L : S32) : Nat → S32 → S64 → S64 → Int32 → Option (S32 × S64 × S64)
  | 0 => fun _ _ _ _ => none
  | n + 1 => f_X10_forget_J2 fu u_B u_L (f_X10_forget_L2 fu u_B u_L n)
def f_X10_forget (fu : Nat) (u_B : S32) (u_L : S32) (u_T : S32) (v_L : S64) (v_N : S64) : Option (S32 × S64 × S64) := f_X10_forget_L2 fu u_B u_L fu u_T v_L v_N (0 : Int32)
set_option maxHeartbeats 4000000 in
set_option maxRecDepth 100000 in
theorem c_X10_forget {l : Launch} {g : GG} {A : Nat → Prop} {X : va_W} {fu : Nat} {a_T a_B a_L a_N : Nat → Nat} {u_T : S32} {u_B : S32} {u_L : S32} {v_L : S64} {v_N : S64} {zu_T : S32} {zv_L : S64} {zv_N : S64} (hf : f_X10_forget fu u_B u_L u_T v_L v_N = some (zu_T, zv_L, zv_N)) : MV l yX10_forget cX10_forget 2 none 3 g A (cl_X10 g a_T (a_B 0) (a_N 0) u_T ++ (cl_X0 g a_B (a_L 0) u_B ++ (cl_X5 g a_L u_L v_L ++ (cl_N g a_N v_N ++ X)))) [.ref (a_T 0)] (cl_X10 g a_T (a_B 0) (a_N 0) zu_T ++ (cl_X0 g a_B (a_L 0) u_B ++ (cl_X5 g a_L u_L zv_L ++ (cl_N g a_N zv_N ++ X)))) := by
  refine tx_start (av := [.ref (a_T 0)]) (by decide) (Nat.le_of_ble_eq_true rfl) ?_
  intro p e s m below meth c ls S hr hlk hE hw hl
  have S : CallFix p m c cX10_forget 2 s (List.toArray [.ref (a_T 0)]) (Cond.code yX10_forget cX10_forget 2 none :: allW) RX10 := S
  have hx := S.1
  have hb := S.2.1
  have hown := S.2.2.2.1
  have hts : ∀ w ∈ allW, w.before (List.toArray [.ref (a_T 0)]) s = true := fun w h => S.2.2.2.2 w (List.mem_cons_of_mem _ h)
  have hl : lv_has ls 2 [(0, .ref (a_T 0))] := hl
  have J65 : ∀ {K2 : S32 → S64 → S64 → Int32 → Option (S32 × S64 × S64)} (hK2 : ∀ {u_T : S32} {v_L : S64} {v_N : S64} {w1 : Int32} {H : Heap} {locs : List Loc} {ls : Array Slot}, K2 u_T v_L v_N w1 = some (zu_T, zv_L, zv_N) → WD g A s.heap (cl_X10 g a_T (a_B 0) (a_N 0) u_T ++ (cl_X0 g a_B (a_L 0) u_B ++ (cl_X5 g a_L u_L v_L ++ (cl_N g a_N v_N ++ X)))) H locs → lv_has ls 2 [(0, .ref (a_T 0)), (1, .int w1)] → W p l e (rmH 3) s m (List.toArray [.ref (a_T 0)]) below meth c H locs 0 0 (MQ below (va_Qv (fun (_ : Unit) => True) (fun _ t => POST g A (cl_X10 g a_T (a_B 0) (a_N 0) zu_T ++ (cl_X0 g a_B (a_L 0) u_B ++ (cl_X5 g a_L u_L zv_L ++ (cl_N g a_N zv_N ++ X)))) t) A) (List.toArray [.ref (a_T 0)]) s 0 0 A) (F0 m 2 ls [])), ∀ {u_T : S32} {v_L : S64} {v_N : S64} {w1 : Int32} {H : Heap} {locs : List Loc} {ls : Array Slot}, f_X10_forget_J65 fu u_B u_L K2 u_T v_L v_N w1 = some (zu_T, zv_L, zv_N) → WD g A s.heap (cl_X10 g a_T (a_B 0) (a_N 0) u_T ++ (cl_X0 g a_B (a_L 0) u_B ++ (cl_X5 g a_L u_L v_L ++ (cl_N g a_N v_N ++ X)))) H locs → lv_has ls 2 [(0, .ref (a_T 0)), (1, .int w1)] → W p l e (rmH 3) s m (List.toArray [.ref (a_T 0)]) below meth c H locs 0 0 (MQ below (va_Qv (fun (_ : Unit) => True) (fun _ t => POST g A (cl_X10 g a_T (a_B 0) (a_N 0) zu_T ++ (cl_X0 g a_B (a_L 0) u_B ++ (cl_X5 g a_L u_L zv_L ++ (cl_N g a_N zv_N ++ X)))) t) A) (List.toArray [.ref (a_T 0)]) s 0 0 A) (F0 m 65 ls []) := by
    intro K2 hK2 u_T v_L v_N w1 H locs ls hf hw hl
    unfold f_X10_forget_J65 at hf
    obtain ⟨y_15, ey_15⟩ : ∃ y : Int32, y = w1 + (1 : Int32) := ⟨_, rfl⟩
    replace hf := tx_let_e hf ey_15
    refine lv_iinc (v := y_15) (lv' := [(1, .int y_15), (0, .ref (a_T 0))]) hx hb dX10_forget_65 hl (k := 1) rfl (by rw [ey_15]; rfl) (by decide) rfl (fun ls hl => ?_)
    refine lv_goto (tgt := 2) hx hb dX10_forget_68 (by decide) ?_
    exact hK2 hf hw (lv_sub hl [1, 0] rfl)
  have J2 : ∀ {K2 : S32 → S64 → S64 → Int32 → Option (S32 × S64 × S64)} (hK2 : ∀ {u_T : S32} {v_L : S64} {v_N : S64} {w1 : Int32} {H : Heap} {locs : List Loc} {ls : Array Slot}, K2 u_T v_L v_N w1 = some (zu_T, zv_L, zv_N) → WD g A s.heap (cl_X10 g a_T (a_B 0) (a_N 0) u_T ++ (cl_X0 g a_B (a_L 0) u_B ++ (cl_X5 g a_L u_L v_L ++ (cl_N g a_N v_N ++ X)))) H locs → lv_has ls 2 [(0, .ref (a_T 0)), (1, .int w1)] → W p l e (rmH 3) s m (List.toArray [.ref (a_T 0)]) below meth c H locs 0 0 (MQ below (va_Qv (fun (_ : Unit) => True) (fun _ t => POST g A (cl_X10 g a_T (a_B 0) (a_N 0) zu_T ++ (cl_X0 g a_B (a_L 0) u_B ++ (cl_X5 g a_L u_L zv_L ++ (cl_N g a_N zv_N ++ X)))) t) A) (List.toArray [.ref (a_T 0)]) s 0 0 A) (F0 m 2 ls [])), ∀ {u_T : S32} {v_L : S64} {v_N : S64} {w1 : Int32} {H : Heap} {locs : List Loc} {ls : Array Slot}, f_X10_forget_J2 fu u_B u_L K2 u_T v_L v_N w1 = some (zu_T, zv_L, zv_N) → WD g A s.heap (cl_X10 g a_T (a_B 0) (a_N 0) u_T ++ (cl_X0 g a_B (a_L 0) u_B ++ (cl_X5 g a_L u_L v_L ++ (cl_N g a_N v_N ++ X)))) H locs → lv_has ls 2 [(0, .ref (a_T 0)), (1, .int w1)] → W p l e (rmH 3) s m (List.toArray [.ref (a_T 0)]) below meth c H locs 0 0 (MQ below (va_Qv (fun (_ : Unit) => True) (fun _ t => POST g A (cl_X10 g a_T (a_B 0) (a_N 0) zu_T ++ (cl_X0 g a_B (a_L 0) u_B ++ (cl_X5 g a_L u_L zv_L ++ (cl_N g a_N zv_N ++ X)))) t) A) (List.toArray [.ref (a_T 0)]) s 0 0 A) (F0 m 2 ls []) := by
    intro K2 hK2 u_T v_L v_N w1 H locs ls hf hw hl
    unfold f_X10_forget_J2 at hf
    refine lv_iload_n hx hb dX10_forget_2 rfl (lv_at hl 1 rfl) ?_
    refine lv_aload_n hx hb dX10_forget_3 rfl (lv_at hl 0 rfl) ?_
    refine gf_X10_49 S hE hw 0 rfl rfl dX10_forget_4 ?_
    refine gf_X10_117 S hE hw 12 rfl rfl dX10_forget_7 ?_
    refine lv_icmp_ge (tgt := 71) hx hb dX10_forget_10 (by decide) (fun h_1 => ?_) (fun h_1 => ?_)
    · replace hf := tx_pos hf h_1
      obtain ⟨e0, e1, e2⟩ := tx_in3 hf
      rw [← e0, ← e1, ← e2]
      exact tx_vret S hr hlk hw dX10_forget_71
    · replace hf := tx_neg hf h_1
      refine lv_iload_n hx hb dX10_forget_13 rfl (lv_at hl 1 rfl) ?_
      refine lv_bipush (v := 12) hx hb dX10_forget_14 (by decide) ?_
      refine lv_icmp_ge (tgt := 71) hx hb dX10_forget_16 (by decide) (fun h_2 => ?_) (fun h_2 => ?_)
      · replace hf := tx_pos hf h_2
        obtain ⟨e0, e1, e2⟩ := tx_in3 hf
        rw [← e0, ← e1, ← e2]
        exact tx_vret S hr hlk hw dX10_forget_71
      · replace hf := tx_neg hf h_2
        refine lv_aload_n hx hb dX10_forget_19 rfl (lv_at hl 0 rfl) ?_
        refine gf_X10_30 S hE hw 0 rfl rfl dX10_forget_20 ?_
        refine lv_iload_n hx hb dX10_forget_23 rfl (lv_at hl 1 rfl) ?_
        obtain ⟨h_3, hf⟩ := tx_ck_e hf
        refine tx_iald S hE hw 7 rfl h_3 dX10_forget_24 ?_
        refine lv_iconst (v := 1) hx hb dX10_forget_25 (by decide) ?_
        refine lv_icmp_ne (tgt := 65) hx hb dX10_forget_26 (by decide) (fun h_4 => ?_) (fun h_4 => ?_)
        · replace hf := tx_neg hf h_4
          exact J65 hK2 hf hw (lv_sub hl [0, 1] rfl)
        · replace hf := tx_pos hf h_4
          refine lv_aload_n hx hb dX10_forget_29 rfl (lv_at hl 0 rfl) ?_
          refine gf_X10_53 S hE hw 0 rfl rfl dX10_forget_30 ?_
          refine lv_aload_n hx hb dX10_forget_33 rfl (lv_at hl 0 rfl) ?_
          refine gf_X10_49 S hE hw 0 rfl rfl dX10_forget_34 ?_
          refine gf_X10_120 S hE hw 12 rfl rfl dX10_forget_37 ?_
          refine lv_iload_n hx hb dX10_forget_40 rfl (lv_at hl 1 rfl) ?_
          obtain ⟨h_5, hf⟩ := tx_ck_e hf
          refine tx_iald S hE hw 18 rfl h_5 dX10_forget_41 ?_
          refine lv_isub hx hb dX10_forget_42 ?_
          refine lv_aload_n hx hb dX10_forget_43 rfl (lv_at hl 0 rfl) ?_
          refine lv_iload_n hx hb dX10_forget_44 rfl (lv_at hl 1 rfl) ?_
          obtain ⟨r_7, v_L_8, v_N_9, h_6, hf⟩ := tx_b3_e hf
          refine tx_ci hw (tx_runV S hE hw (c_X10_hideOf h_6) lk_X10_129 (q0 := 0) rfl rfl rfl hl.1 (rest := [.int ((u_T 0 1) - (u_B 9 w1.toNatClampNeg))]) rfl (Nat.le_of_ble_eq_true rfl) ⟨by decide, by decide⟩ dX10_forget_45 ⟨Nat.zero_le _, Nat.zero_le _⟩) (fun H locs hw => ?_)
          refine lv_icmp_le (tgt := 65) hx hb dX10_forget_48 (by decide) (fun h_10 => ?_) (fun h_10 => ?_)
          · replace hf := tx_pos hf h_10
            exact J65 hK2 hf hw (lv_sub hl [0, 1] rfl)
          · replace hf := tx_neg hf h_10
            refine lv_aload_n hx hb dX10_forget_51 rfl (lv_at hl 0 rfl) ?_
            refine gf_X10_30 S hE hw 0 rfl rfl dX10_forget_52 ?_
            refine lv_iload_n hx hb dX10_forget_55 rfl (lv_at hl 1 rfl) ?_
            refine lv_iconst (v := 2) hx hb dX10_forget_56 (by decide) ?_
            obtain ⟨h_11, hf⟩ := tx_ck_e hf
            obtain ⟨u_T_12, eu_T_12⟩ : ∃ z : S32, z = up2 u_T 11 w1.toNatClampNeg (2 : Int32) := ⟨_, rfl⟩
            replace hf := tx_let_e hf eu_T_12
            refine tx_iast (ws' := cl_X10 g a_T (a_B 0) (a_N 0) u_T_12 ++ (cl_X0 g a_B (a_L 0) u_B ++ (cl_X5 g a_L u_L v_L_8 ++ (cl_N g a_N v_N_9 ++ X)))) S hE hw 7 rfl h_11 (by rw [eu_T_12]; rfl) dX10_forget_57 (fun H locs hw => ?_)
            refine lv_aload_n hx hb dX10_forget_58 rfl (lv_at hl 0 rfl) ?_
            refine gf_X10_33 S hE hw 0 rfl rfl dX10_forget_59 ?_
            refine lv_iload_n hx hb dX10_forget_62 rfl (lv_at hl 1 rfl) ?_
            refine lv_iconst (v := -1) hx hb dX10_forget_63 (by decide) ?_
            obtain ⟨h_13, hf⟩ := tx_ck_e hf
            obtain ⟨u_T_14, eu_T_14⟩ : ∃ z : S32, z = up2 u_T_12 12 w1.toNatClampNeg (-1 : Int32) := ⟨_, rfl⟩
            replace hf := tx_let_e hf eu_T_14
            refine tx_iast (ws' := cl_X10 g a_T (a_B 0) (a_N 0) u_T_14 ++ (cl_X0 g a_B (a_L 0) u_B ++ (cl_X5 g a_L u_L v_L_8 ++ (cl_N g a_N v_N_9 ++ X)))) S hE hw 8 rfl h_13 (by rw [eu_T_14]; rfl) dX10_forget_64 (fun H locs hw => ?_)
            exact J65 hK2 hf hw (lv_sub hl [0, 1] rfl)
  have L2 : ∀ (n : Nat), ∀ {u_T : S32} {v_L : S64} {v_N : S64} {w1 : Int32} {H : Heap} {locs : List Loc} {ls : Array Slot}, f_X10_forget_L2 fu u_B u_L n u_T v_L v_N w1 = some (zu_T, zv_L, zv_N) → WD g A s.heap (cl_X10 g a_T (a_B 0) (a_N 0) u_T ++ (cl_X0 g a_B (a_L 0) u_B ++ (cl_X5 g a_L u_L v_L ++ (cl_N g a_N v_N ++ X)))) H locs → lv_has ls 2 [(0, .ref (a_T 0)), (1, .int w1)] → W p l e (rmH 3) s m (List.toArray [.ref (a_T 0)]) below meth c H locs 0 0 (MQ below (va_Qv (fun (_ : Unit) => True) (fun _ t => POST g A (cl_X10 g a_T (a_B 0) (a_N 0) zu_T ++ (cl_X0 g a_B (a_L 0) u_B ++ (cl_X5 g a_L u_L zv_L ++ (cl_N g a_N zv_N ++ X)))) t) A) (List.toArray [.ref (a_T 0)]) s 0 0 A) (F0 m 2 ls []) := by
    intro  n
    induction n with
    | zero => intro u_T v_L v_N w1 H locs ls hf; exact absurd hf (by intro q; cases q)
    | succ n ih => exact fun hf hw hl => J2 ih hf hw hl
  unfold f_X10_forget at hf
  refine lv_iconst (v := 0) hx hb dX10_forget_0 (by decide) ?_
  refine lv_istore_n (lv' := [(1, .int (0 : Int32)), (0, .ref (a_T 0))]) hx hb dX10_forget_1 rfl hl (by decide) rfl (fun ls hl => ?_)
  exact L2 fu hf hw (lv_sub hl [1, 0] rfl)
def f_X10_knowsTongue (fu : Nat) (u_T : S32) (u_B : S32) (x1 : Int32) (x2 : Int32) : Option (Int32) := tx_b1 (f_X0_isReader fu u_B x1) fun (r_2 : Int32) => if r_2 = (0 : Int32) then (some (0 : Int32)) else (tx_b1 (f_X0_isThought fu u_B x2) fun (r_5 : Int32) => if r_5 = (0 : Int32) then (some (0 : Int32)) else (tx_ck x1 4 <| tx_ck x2 12 <| if (((u_T 15 x1.toNatClampNeg) >>> ((u_B 10 x2.toNatClampNeg) &&& 31)) &&& (1 : Int32)) = (1 : Int32) then (some (1 : Int32)) else (some (0 : Int32))))
set_option maxHeartbeats 4000000 in
set_option maxRecDepth 100000 in
theorem c_X10_knowsTongue {l : Launch} {g : GG} {A : Nat → Prop} {X : va_W} {fu : Nat} {a_T a_B : Nat → Nat} {p_T_16 p_B_17 : Nat} {u_T : S32} {u_B : S32} {x1 : Int32} {x2 : Int32} {r : Int32} (hf : f_X10_knowsTongue fu u_T u_B x1 x2 = some r) : MI l yX10_knowsTongue cX10_knowsTongue 3 (some .boolean) 1 g A (cl_X10 g a_T (a_B 0) p_T_16 u_T ++ (cl_X0 g a_B p_B_17 u_B ++ X)) [.ref (a_T 0), .int x1, .int x2] r (cl_X10 g a_T (a_B 0) p_T_16 u_T ++ (cl_X0 g a_B p_B_17 u_B ++ X)) := by
  refine tx_start (av := [.ref (a_T 0), .int x1, .int x2]) (by decide) (Nat.le_of_ble_eq_true rfl) ?_
  intro p e s m below meth c ls S hr hlk hE hw hl
  have S : CallFix p m c cX10_knowsTongue 3 s (List.toArray [.ref (a_T 0), .int x1, .int x2]) (Cond.code yX10_knowsTongue cX10_knowsTongue 3 (some .boolean) :: allW) RX10 := S
  have hx := S.1
  have hb := S.2.1
  have hown := S.2.2.2.1
  have hts : ∀ w ∈ allW, w.before (List.toArray [.ref (a_T 0), .int x1, .int x2]) s = true := fun w h => S.2.2.2.2 w (List.mem_cons_of_mem _ h)
  have hl : lv_has ls 3 [(0, .ref (a_T 0)), (1, .int x1), (2, .int x2)] := hl
  unfold f_X10_knowsTongue at hf
  refine lv_aload_n hx hb dX10_knowsTongue_0 rfl (lv_at hl 0 rfl) ?_
  refine gf_X10_49 S hE hw 0 rfl rfl dX10_knowsTongue_1 ?_
  refine lv_iload_n hx hb dX10_knowsTongue_4 rfl (lv_at hl 1 rfl) ?_
  have hw := hw.u1
  obtain ⟨r_2, h_1, hf⟩ := tx_b1_e hf
  refine tx_ci hw (tx_runN S hE hw (c_X0_isReader h_1) lk_X10_102 (q0 := 0) rfl rfl rfl hl.1 (rest := []) rfl (Nat.le_of_ble_eq_true rfl) ⟨by decide, by decide⟩ dX10_knowsTongue_5 ⟨Nat.zero_le _, Nat.zero_le _⟩) (fun H locs hw => ?_)
  refine lv_if_eq (tgt := 48) hx hb dX10_knowsTongue_8 (by decide) (fun h_3 => ?_) (fun h_3 => ?_)
  · replace hf := tx_pos hf h_3
    refine lv_iconst (v := 0) hx hb dX10_knowsTongue_48 (by decide) ?_
    have hw := hw.u1
    obtain e0 := tx_in1 hf
    rw [← e0]
    exact tx_zret S hr hlk (by decide) hw dX10_knowsTongue_49
  · replace hf := tx_neg hf h_3
    refine lv_aload_n hx hb dX10_knowsTongue_11 rfl (lv_at hl 0 rfl) ?_
    refine gf_X10_49 S hE hw 11 rfl rfl dX10_knowsTongue_12 ?_
    refine lv_iload_n hx hb dX10_knowsTongue_15 rfl (lv_at hl 2 rfl) ?_
    obtain ⟨r_5, h_4, hf⟩ := tx_b1_e hf
    refine tx_ci hw (tx_runN S hE hw (c_X0_isThought h_4) lk_X10_168 (q0 := 0) rfl rfl rfl hl.1 (rest := []) rfl (Nat.le_of_ble_eq_true rfl) ⟨by decide, by decide⟩ dX10_knowsTongue_16 ⟨Nat.zero_le _, Nat.zero_le _⟩) (fun H locs hw => ?_)
    refine lv_if_eq (tgt := 48) hx hb dX10_knowsTongue_19 (by decide) (fun h_6 => ?_) (fun h_6 => ?_)
    · replace hf := tx_pos hf h_6
      refine lv_iconst (v := 0) hx hb dX10_knowsTongue_48 (by decide) ?_
      have hw := hw.u1
      obtain e0 := tx_in1 hf
      rw [← e0]
      exact tx_zret S hr hlk (by decide) hw dX10_knowsTongue_49
    · replace hf := tx_neg hf h_6
      refine lv_aload_n hx hb dX10_knowsTongue_22 rfl (lv_at hl 0 rfl) ?_
      refine gf_X10_42 S hE hw 11 rfl rfl dX10_knowsTongue_23 ?_
      refine lv_iload_n hx hb dX10_knowsTongue_26 rfl (lv_at hl 1 rfl) ?_
      obtain ⟨h_7, hf⟩ := tx_ck_e hf
      refine tx_iald S hE hw 22 rfl h_7 dX10_knowsTongue_27 ?_
      refine lv_aload_n hx hb dX10_knowsTongue_28 rfl (lv_at hl 0 rfl) ?_
      refine gf_X10_49 S hE hw 11 rfl rfl dX10_knowsTongue_29 ?_
      refine gf_X10_171 S hE hw 0 rfl rfl dX10_knowsTongue_32 ?_
      refine lv_iload_n hx hb dX10_knowsTongue_35 rfl (lv_at hl 2 rfl) ?_
      obtain ⟨h_8, hf⟩ := tx_ck_e hf
      refine tx_iald S hE hw 7 rfl h_8 dX10_knowsTongue_36 ?_
      refine lv_ishr hx hb dX10_knowsTongue_37 ?_
      refine lv_iconst (v := 1) hx hb dX10_knowsTongue_38 (by decide) ?_
      refine lv_iand hx hb dX10_knowsTongue_39 ?_
      refine lv_iconst (v := 1) hx hb dX10_knowsTongue_40 (by decide) ?_
      refine lv_icmp_ne (tgt := 48) hx hb dX10_knowsTongue_41 (by decide) (fun h_9 => ?_) (fun h_9 => ?_)
      · replace hf := tx_neg hf h_9
        refine lv_iconst (v := 0) hx hb dX10_knowsTongue_48 (by decide) ?_
        have hw := hw.u1
        obtain e0 := tx_in1 hf
        rw [← e0]
        exact tx_zret S hr hlk (by decide) hw dX10_knowsTongue_49
      · replace hf := tx_pos hf h_9
        refine lv_iconst (v := 1) hx hb dX10_knowsTongue_44 (by decide) ?_
        refine lv_goto (tgt := 49) hx hb dX10_knowsTongue_45 (by decide) ?_
        have hw := hw.u1
        obtain e0 := tx_in1 hf
        rw [← e0]
        exact tx_zret S hr hlk (by decide) hw dX10_knowsTongue_49
def f_X10_readOf_J140 (fu : Nat) (u_T : S32) (u_B : S32) (u_L : S32) (v_L : S64) (v_N : S64) (t0 : Int64) : Option (Int32 × S64 × S64) := tx_b1 (f_X10_within fu t0 (100 : Int32)) fun (r_25 : Int32) => some (r_25, v_L, v_N)
def f_X10_readOf_J97 (fu : Nat) (u_T : S32) (u_B : S32) (u_L : S32) (v_L : S64) (v_N : S64) (w2 : Int32) (w3 : Int32) (w4 : Int64) : Option (Int32 × S64 × S64) := if (lg_cmp w4 (-9223372036854775808 : Int64)) = (0 : Int32) then (tx_ck w2 4 <| tx_ck w3 6 <| tx_ck w3 6 <| f_X10_readOf_J140 fu u_T u_B u_L v_L v_N (((((10 : Int32) * (u_T 14 w2.toNatClampNeg)) - ((5 : Int32) * (u_T 6 w3.toNatClampNeg))) - ((10 : Int32) * (u_T 9 w3.toNatClampNeg))).toInt64)) else (f_X10_readOf_J140 fu u_T u_B u_L v_L v_N w4)
def f_X10_readOf_J21 (fu : Nat) (u_T : S32) (u_B : S32) (u_L : S32) (v_L : S64) (v_N : S64) (w1 : Int32) (w2 : Int32) (t0 : Int32) : Option (Int32 × S64 × S64) := tx_b1 (f_X0_isMan fu u_B t0) fun (r_6 : Int32) => if r_6 = (0 : Int32) then (some ((0 : Int32), v_L, v_N)) else (tx_b1 (f_X0_isReader fu u_B w2) fun (r_9 : Int32) => if r_9 = (0 : Int32) then (some ((0 : Int32), v_L, v_N)) else (tx_b1 (f_X5_isTold fu u_L v_L (0 : Int32)) fun (r_12 : Int32) => if r_12 = (0 : Int32) then (f_X10_readOf_J97 fu u_T u_B u_L v_L v_N w2 t0 (-9223372036854775808 : Int64)) else (tx_ck w1 12 <| tx_b1 (f_X10_nameDoor fu u_T u_B v_N t0 w2 (u_B 8 w1.toNatClampNeg)) fun (v_N_16 : S64) => tx_b2 (f_X5_work_oNr0 fu u_L v_N_16 v_L (0 : Int32)) fun (r_18 : Int64) (v_L_19 : S64) => f_X10_readOf_J97 fu u_T u_B u_L v_L_19 v_N_16 w2 t0 r_18)))
def f_X10_readOf (fu : Nat) (u_T : S32) (u_B : S32) (u_L : S32) (v_L : S64) (v_N : S64) (x1 : Int32) (x2 : Int32) : Option (Int32 × S64 × S64) := tx_b1 (f_X0_isThought fu u_B x1) fun (r_2 : Int32) => if r_2 = (0 : Int32) then (f_X10_readOf_J21 fu u_T u_B u_L v_L v_N x1 x2 (-1 : Int32)) else (tx_ck x1 12 <| f_X10_readOf_J21 fu u_T u_B u_L v_L v_N x1 x2 (u_T 12 x1.toNatClampNeg))
set_option maxHeartbeats 4000000 in
set_option maxRecDepth 100000 in
theorem c_X10_readOf {l : Launch} {g : GG} {A : Nat → Prop} {X : va_W} {fu : Nat} {a_T a_B a_L a_N : Nat → Nat} {u_T : S32} {u_B : S32} {u_L : S32} {v_L : S64} {v_N : S64} {x1 : Int32} {x2 : Int32} {r : Int32} {zv_L : S64} {zv_N : S64} (hf : f_X10_readOf fu u_T u_B u_L v_L v_N x1 x2 = some (r, zv_L, zv_N)) : MI l yX10_readOf cX10_readOf 6 (some .int) 2 g A (cl_X10 g a_T (a_B 0) (a_N 0) u_T ++ (cl_X0 g a_B (a_L 0) u_B ++ (cl_X5 g a_L u_L v_L ++ (cl_N g a_N v_N ++ X)))) [.ref (a_T 0), .int x1, .int x2] r (cl_X10 g a_T (a_B 0) (a_N 0) u_T ++ (cl_X0 g a_B (a_L 0) u_B ++ (cl_X5 g a_L u_L zv_L ++ (cl_N g a_N zv_N ++ X)))) := by
  refine tx_start (av := [.ref (a_T 0), .int x1, .int x2]) (by decide) (Nat.le_of_ble_eq_true rfl) ?_
  intro p e s m below meth c ls S hr hlk hE hw hl
  have S : CallFix p m c cX10_readOf 6 s (List.toArray [.ref (a_T 0), .int x1, .int x2]) (Cond.code yX10_readOf cX10_readOf 6 (some .int) :: allW) RX10 := S
  have hx := S.1
  have hb := S.2.1
  have hown := S.2.2.2.1
  have hts : ∀ w ∈ allW, w.before (List.toArray [.ref (a_T 0), .int x1, .int x2]) s = true := fun w h => S.2.2.2.2 w (List.mem_cons_of_mem _ h)
  have hl : lv_has ls 6 [(0, .ref (a_T 0)), (1, .int x1), (2, .int x2)] := hl
  have J140 : ∀ {v_L : S64} {v_N : S64} {t0 : Int64} {H : Heap} {locs : List Loc} {ls : Array Slot}, f_X10_readOf_J140 fu u_T u_B u_L v_L v_N t0 = some (r, zv_L, zv_N) → WD g A s.heap (cl_X10 g a_T (a_B 0) (a_N 0) u_T ++ (cl_X0 g a_B (a_L 0) u_B ++ (cl_X5 g a_L u_L v_L ++ (cl_N g a_N v_N ++ X)))) H locs → lv_has ls 6 [] → W p l e (rmH 2) s m (List.toArray [.ref (a_T 0), .int x1, .int x2]) below meth c H locs 0 0 (MQ below (va_Qi (fun r2 (_ : Unit) => r2 = r) (fun _ t => POST g A (cl_X10 g a_T (a_B 0) (a_N 0) u_T ++ (cl_X0 g a_B (a_L 0) u_B ++ (cl_X5 g a_L u_L zv_L ++ (cl_N g a_N zv_N ++ X)))) t) A) (List.toArray [.ref (a_T 0), .int x1, .int x2]) s 0 0 A) (F0 m 140 ls [.long t0]) := by
    intro v_L v_N t0 H locs ls hf hw hl
    unfold f_X10_readOf_J140 at hf
    refine lv_bipush (v := 100) hx hb dX10_readOf_140 (by decide) ?_
    obtain ⟨r_25, h_24, hf⟩ := tx_b1_e hf
    refine tx_ci hw (tx_runS S hE hw (c_X10_within h_24) lk_X10_194 rfl hl.1 (rest := []) rfl (Nat.le_of_ble_eq_true rfl) ⟨by decide, by decide⟩ dX10_readOf_142 ⟨Nat.zero_le _, Nat.zero_le _⟩) (fun H locs hw => ?_)
    obtain ⟨e0, e1, e2⟩ := tx_in3 hf
    rw [← e0, ← e1, ← e2]
    exact tx_iret S hr hlk hw dX10_readOf_145
  have J97 : ∀ {v_L : S64} {v_N : S64} {w2 : Int32} {w3 : Int32} {w4 : Int64} {H : Heap} {locs : List Loc} {ls : Array Slot}, f_X10_readOf_J97 fu u_T u_B u_L v_L v_N w2 w3 w4 = some (r, zv_L, zv_N) → WD g A s.heap (cl_X10 g a_T (a_B 0) (a_N 0) u_T ++ (cl_X0 g a_B (a_L 0) u_B ++ (cl_X5 g a_L u_L v_L ++ (cl_N g a_N v_N ++ X)))) H locs → lv_has ls 6 [(0, .ref (a_T 0)), (2, .int w2), (3, .int w3), (4, .long w4)] → W p l e (rmH 2) s m (List.toArray [.ref (a_T 0), .int x1, .int x2]) below meth c H locs 0 0 (MQ below (va_Qi (fun r2 (_ : Unit) => r2 = r) (fun _ t => POST g A (cl_X10 g a_T (a_B 0) (a_N 0) u_T ++ (cl_X0 g a_B (a_L 0) u_B ++ (cl_X5 g a_L u_L zv_L ++ (cl_N g a_N zv_N ++ X)))) t) A) (List.toArray [.ref (a_T 0), .int x1, .int x2]) s 0 0 A) (F0 m 97 ls []) := by
    intro v_L v_N w2 w3 w4 H locs ls hf hw hl
    unfold f_X10_readOf_J97 at hf
    refine lv_lload hx hb dX10_readOf_97 (lv_at hl 3 rfl) ?_
    refine lv_ldc2 (v := -9223372036854775808) hx hb hown (hts _ kw_755) dX10_readOf_99 ?_
    refine W.lcmp hx hb dX10_readOf_102 ?_
    refine lv_if_ne (tgt := 138) hx hb dX10_readOf_103 (by decide) (fun h_20 => ?_) (fun h_20 => ?_)
    · replace hf := tx_neg hf h_20
      refine lv_lload hx hb dX10_readOf_138 (lv_at hl 3 rfl) ?_
      exact J140 hf hw (lv_sub hl [] rfl)
    · replace hf := tx_pos hf h_20
      refine lv_bipush (v := 10) hx hb dX10_readOf_106 (by decide) ?_
      refine lv_aload_n hx hb dX10_readOf_108 rfl (lv_at hl 0 rfl) ?_
      refine gf_X10_39 S hE hw 0 rfl rfl dX10_readOf_109 ?_
      refine lv_iload_n hx hb dX10_readOf_112 rfl (lv_at hl 1 rfl) ?_
      obtain ⟨h_21, hf⟩ := tx_ck_e hf
      refine tx_iald S hE hw 10 rfl h_21 dX10_readOf_113 ?_
      refine lv_imul hx hb dX10_readOf_114 ?_
      refine lv_iconst (v := 5) hx hb dX10_readOf_115 (by decide) ?_
      refine lv_aload_n hx hb dX10_readOf_116 rfl (lv_at hl 0 rfl) ?_
      refine gf_X10_15 S hE hw 0 rfl rfl dX10_readOf_117 ?_
      refine lv_iload_n hx hb dX10_readOf_120 rfl (lv_at hl 2 rfl) ?_
      obtain ⟨h_22, hf⟩ := tx_ck_e hf
      refine tx_iald S hE hw 2 rfl h_22 dX10_readOf_121 ?_
      refine lv_imul hx hb dX10_readOf_122 ?_
      refine lv_isub hx hb dX10_readOf_123 ?_
      refine lv_bipush (v := 10) hx hb dX10_readOf_124 (by decide) ?_
      refine lv_aload_n hx hb dX10_readOf_126 rfl (lv_at hl 0 rfl) ?_
      refine gf_X10_24 S hE hw 0 rfl rfl dX10_readOf_127 ?_
      refine lv_iload_n hx hb dX10_readOf_130 rfl (lv_at hl 2 rfl) ?_
      obtain ⟨h_23, hf⟩ := tx_ck_e hf
      refine tx_iald S hE hw 5 rfl h_23 dX10_readOf_131 ?_
      refine lv_imul hx hb dX10_readOf_132 ?_
      refine lv_isub hx hb dX10_readOf_133 ?_
      refine lv_i2l (v := ((((10 : Int32) * (u_T 14 w2.toNatClampNeg)) - ((5 : Int32) * (u_T 6 w3.toNatClampNeg))) - ((10 : Int32) * (u_T 9 w3.toNatClampNeg))).toInt64) hx hb dX10_readOf_134 rfl ?_
      refine lv_goto (tgt := 140) hx hb dX10_readOf_135 (by decide) ?_
      exact J140 hf hw (lv_sub hl [] rfl)
  have J21 : ∀ {v_L : S64} {v_N : S64} {w1 : Int32} {w2 : Int32} {t0 : Int32} {H : Heap} {locs : List Loc} {ls : Array Slot}, f_X10_readOf_J21 fu u_T u_B u_L v_L v_N w1 w2 t0 = some (r, zv_L, zv_N) → WD g A s.heap (cl_X10 g a_T (a_B 0) (a_N 0) u_T ++ (cl_X0 g a_B (a_L 0) u_B ++ (cl_X5 g a_L u_L v_L ++ (cl_N g a_N v_N ++ X)))) H locs → lv_has ls 6 [(0, .ref (a_T 0)), (1, .int w1), (2, .int w2)] → W p l e (rmH 2) s m (List.toArray [.ref (a_T 0), .int x1, .int x2]) below meth c H locs 0 0 (MQ below (va_Qi (fun r2 (_ : Unit) => r2 = r) (fun _ t => POST g A (cl_X10 g a_T (a_B 0) (a_N 0) u_T ++ (cl_X0 g a_B (a_L 0) u_B ++ (cl_X5 g a_L u_L zv_L ++ (cl_N g a_N zv_N ++ X)))) t) A) (List.toArray [.ref (a_T 0), .int x1, .int x2]) s 0 0 A) (F0 m 21 ls [.int t0]) := by
    intro v_L v_N w1 w2 t0 H locs ls hf hw hl
    unfold f_X10_readOf_J21 at hf
    refine lv_istore_n (lv' := [(3, .int t0), (0, .ref (a_T 0)), (1, .int w1), (2, .int w2)]) hx hb dX10_readOf_21 rfl hl (by decide) rfl (fun ls hl => ?_)
    refine lv_aload_n hx hb dX10_readOf_22 rfl (lv_at hl 1 rfl) ?_
    refine gf_X10_49 S hE hw 0 rfl rfl dX10_readOf_23 ?_
    refine lv_iload_n hx hb dX10_readOf_26 rfl (lv_at hl 0 rfl) ?_
    have hw := hw.u1
    obtain ⟨r_6, h_5, hf⟩ := tx_b1_e hf
    refine tx_ci hw (tx_runN S hE hw (c_X0_isMan h_5) lk_X10_126 (q0 := 0) rfl rfl rfl hl.1 (rest := []) rfl (Nat.le_of_ble_eq_true rfl) ⟨by decide, by decide⟩ dX10_readOf_27 ⟨Nat.zero_le _, Nat.zero_le _⟩) (fun H locs hw => ?_)
    refine lv_if_eq (tgt := 44) hx hb dX10_readOf_30 (by decide) (fun h_7 => ?_) (fun h_7 => ?_)
    · replace hf := tx_pos hf h_7
      refine lv_iconst (v := 0) hx hb dX10_readOf_44 (by decide) ?_
      have hw := hw.u3
      have hw := hw.u3
      have hw := hw.u2
      have hw := hw.u3
      obtain ⟨e0, e1, e2⟩ := tx_in3 hf
      rw [← e0, ← e1, ← e2]
      exact tx_iret S hr hlk hw dX10_readOf_45
    · replace hf := tx_neg hf h_7
      refine lv_aload_n hx hb dX10_readOf_33 rfl (lv_at hl 1 rfl) ?_
      refine gf_X10_49 S hE hw 11 rfl rfl dX10_readOf_34 ?_
      refine lv_iload_n hx hb dX10_readOf_37 rfl (lv_at hl 3 rfl) ?_
      obtain ⟨r_9, h_8, hf⟩ := tx_b1_e hf
      refine tx_ci hw (tx_runN S hE hw (c_X0_isReader h_8) lk_X10_102 (q0 := 0) rfl rfl rfl hl.1 (rest := []) rfl (Nat.le_of_ble_eq_true rfl) ⟨by decide, by decide⟩ dX10_readOf_38 ⟨Nat.zero_le _, Nat.zero_le _⟩) (fun H locs hw => ?_)
      refine lv_if_ne (tgt := 46) hx hb dX10_readOf_41 (by decide) (fun h_10 => ?_) (fun h_10 => ?_)
      · replace hf := tx_neg hf h_10
        refine lv_ldc2 (v := -9223372036854775808) hx hb hown (hts _ kw_755) dX10_readOf_46 ?_
        refine lv_lstore (lv' := [(4, .long (-9223372036854775808 : Int64)), (3, .int t0), (0, .ref (a_T 0)), (1, .int w1), (2, .int w2)]) hx hb dX10_readOf_49 hl (by decide) rfl (fun ls hl => ?_)
        refine lv_aload_n hx hb dX10_readOf_51 rfl (lv_at hl 2 rfl) ?_
        refine gf_X10_49 S hE hw 11 rfl rfl dX10_readOf_52 ?_
        refine gf_X10_177 S hE hw 0 rfl rfl dX10_readOf_55 ?_
        refine lv_iconst (v := 0) hx hb dX10_readOf_58 (by decide) ?_
        have hw := hw.u2
        obtain ⟨r_12, h_11, hf⟩ := tx_b1_e hf
        refine tx_ci hw (tx_runN S hE hw (c_X5_isTold h_11) lk_X10_181 (q0 := 0) rfl rfl rfl hl.1 (rest := []) rfl (Nat.le_of_ble_eq_true rfl) ⟨by decide, by decide⟩ dX10_readOf_59 ⟨Nat.zero_le _, Nat.zero_le _⟩) (fun H locs hw => ?_)
        refine lv_if_eq (tgt := 97) hx hb dX10_readOf_62 (by decide) (fun h_13 => ?_) (fun h_13 => ?_)
        · replace hf := tx_pos hf h_13
          have hw := hw.u3
          have hw := hw.u1
          have hw := hw.u2
          have hw := hw.u3
          exact J97 hf hw (lv_sub hl [2, 4, 1, 0] rfl)
        · replace hf := tx_neg hf h_13
          refine lv_aload_n hx hb dX10_readOf_65 rfl (lv_at hl 2 rfl) ?_
          refine lv_iload_n hx hb dX10_readOf_66 rfl (lv_at hl 1 rfl) ?_
          refine lv_iload_n hx hb dX10_readOf_67 rfl (lv_at hl 4 rfl) ?_
          refine lv_aload_n hx hb dX10_readOf_68 rfl (lv_at hl 2 rfl) ?_
          refine gf_X10_49 S hE hw 17 rfl rfl dX10_readOf_69 ?_
          refine gf_X10_141 S hE hw 6 rfl rfl dX10_readOf_72 ?_
          refine lv_iload_n hx hb dX10_readOf_75 rfl (lv_at hl 3 rfl) ?_
          obtain ⟨h_14, hf⟩ := tx_ck_e hf
          refine tx_iald S hE hw 11 rfl h_14 dX10_readOf_76 ?_
          have hw := hw.u3
          have hw := hw.u2
          have hw := hw.u3
          obtain ⟨v_N_16, h_15, hf⟩ := tx_b1_e hf
          refine tx_cv hw (tx_runV S hE hw (c_X10_nameDoor h_15) lk_X10_186 (q0 := 0) rfl rfl rfl hl.1 (rest := []) rfl (Nat.le_of_ble_eq_true rfl) ⟨by decide, by decide⟩ dX10_readOf_77 ⟨Nat.zero_le _, Nat.zero_le _⟩) (fun H locs hw => ?_)
          refine lv_aload_n hx hb dX10_readOf_80 rfl (lv_at hl 2 rfl) ?_
          refine gf_X10_49 S hE hw 0 rfl rfl dX10_readOf_81 ?_
          refine gf_X10_177 S hE hw 12 rfl rfl dX10_readOf_84 ?_
          refine lv_iconst (v := 0) hx hb dX10_readOf_87 (by decide) ?_
          refine lv_aload_n hx hb dX10_readOf_88 rfl (lv_at hl 2 rfl) ?_
          refine gf_X10_45 S hE hw 0 rfl rfl dX10_readOf_89 ?_
          have hw := hw.u2
          have hw := hw.u3
          obtain ⟨r_18, v_L_19, h_17, hf⟩ := tx_b2_e hf
          refine tx_cl hw (tx_runN S hE hw (c_X5_work_oNr0 h_17) lk_X10_190 (q0 := 0) rfl rfl rfl hl.1 (rest := []) rfl (Nat.le_of_ble_eq_true rfl) ⟨by decide, by decide⟩ dX10_readOf_92 ⟨Nat.zero_le _, Nat.zero_le _⟩) (fun H locs hw => ?_)
          refine lv_lstore (lv' := [(4, .long r_18), (3, .int t0), (0, .ref (a_T 0)), (1, .int w1), (2, .int w2)]) hx hb dX10_readOf_95 hl (by decide) rfl (fun ls hl => ?_)
          have hw := hw.u1
          have hw := hw.u1
          have hw := hw.u3
          have hw := hw.u3
          exact J97 hf hw (lv_sub hl [2, 4, 1, 0] rfl)
      · replace hf := tx_pos hf h_10
        refine lv_iconst (v := 0) hx hb dX10_readOf_44 (by decide) ?_
        have hw := hw.u3
        have hw := hw.u3
        have hw := hw.u2
        have hw := hw.u3
        obtain ⟨e0, e1, e2⟩ := tx_in3 hf
        rw [← e0, ← e1, ← e2]
        exact tx_iret S hr hlk hw dX10_readOf_45
  unfold f_X10_readOf at hf
  refine lv_aload_n hx hb dX10_readOf_0 rfl (lv_at hl 0 rfl) ?_
  refine gf_X10_49 S hE hw 0 rfl rfl dX10_readOf_1 ?_
  refine lv_iload_n hx hb dX10_readOf_4 rfl (lv_at hl 1 rfl) ?_
  have hw := hw.u1
  obtain ⟨r_2, h_1, hf⟩ := tx_b1_e hf
  refine tx_ci hw (tx_runN S hE hw (c_X0_isThought h_1) lk_X10_168 (q0 := 0) rfl rfl rfl hl.1 (rest := []) rfl (Nat.le_of_ble_eq_true rfl) ⟨by decide, by decide⟩ dX10_readOf_5 ⟨Nat.zero_le _, Nat.zero_le _⟩) (fun H locs hw => ?_)
  refine lv_if_eq (tgt := 20) hx hb dX10_readOf_8 (by decide) (fun h_3 => ?_) (fun h_3 => ?_)
  · replace hf := tx_pos hf h_3
    refine lv_iconst (v := -1) hx hb dX10_readOf_20 (by decide) ?_
    have hw := hw.u3
    have hw := hw.u3
    have hw := hw.u2
    have hw := hw.u3
    exact J21 hf hw (lv_sub hl [0, 1, 2] rfl)
  · replace hf := tx_neg hf h_3
    refine lv_aload_n hx hb dX10_readOf_11 rfl (lv_at hl 0 rfl) ?_
    refine gf_X10_33 S hE hw 11 rfl rfl dX10_readOf_12 ?_
    refine lv_iload_n hx hb dX10_readOf_15 rfl (lv_at hl 1 rfl) ?_
    obtain ⟨h_4, hf⟩ := tx_ck_e hf
    refine tx_iald S hE hw 19 rfl h_4 dX10_readOf_16 ?_
    refine lv_goto (tgt := 21) hx hb dX10_readOf_17 (by decide) ?_
    have hw := hw.u3
    have hw := hw.u3
    have hw := hw.u2
    have hw := hw.u3
    exact J21 hf hw (lv_sub hl [0, 1, 2] rfl)
def f_X10_draw (fu : Nat) (u_T : S32) : Option (Int32 × S32) := tx_let (up2 u_T 0 3 ((((((u_T 0 3).toInt64) * (1103515245 : Int64)) + (12345 : Int64)) &&& (2147483647 : Int64)).toInt32)) fun (u_T_1 : S32) => some ((u_T_1 0 3) / (65536 : Int32), u_T_1)
set_option maxHeartbeats 4000000 in
set_option maxRecDepth 100000 in
theorem c_X10_draw {l : Launch} {g : GG} {A : Nat → Prop} {X : va_W} {fu : Nat} {a_T : Nat → Nat} {p_T_0 p_T_16 : Nat} {u_T : S32} {r : Int32} {zu_T : S32} (hf : f_X10_draw fu  u_T = some (r, zu_T)) : MI l yX10_draw cX10_draw 1 (some .int) 0 g A (cl_X10 g a_T p_T_0 p_T_16 u_T ++ X) [.ref (a_T 0)] r (cl_X10 g a_T p_T_0 p_T_16 zu_T ++ X) := by
  refine tx_start (av := [.ref (a_T 0)]) (by decide) (Nat.le_of_ble_eq_true rfl) ?_
  intro p e s m below meth c ls S hr hlk hE hw hl
  have S : CallFix p m c cX10_draw 1 s (List.toArray [.ref (a_T 0)]) (Cond.code yX10_draw cX10_draw 1 (some .int) :: allW) RX10 := S
  have hx := S.1
  have hb := S.2.1
  have hown := S.2.2.2.1
  have hts : ∀ w ∈ allW, w.before (List.toArray [.ref (a_T 0)]) s = true := fun w h => S.2.2.2.2 w (List.mem_cons_of_mem _ h)
  have hl : lv_has ls 1 [(0, .ref (a_T 0))] := hl
  unfold f_X10_draw at hf
  refine lv_aload_n hx hb dX10_draw_0 rfl (lv_at hl 0 rfl) ?_
  refine lv_aload_n hx hb dX10_draw_1 rfl (lv_at hl 0 rfl) ?_
  refine gf_X10_66 S hE hw 0 rfl rfl dX10_draw_2 ?_
  refine lv_i2l (v := (u_T 0 3).toInt64) hx hb dX10_draw_5 rfl ?_
  refine lv_ldc2 (v := 1103515245) hx hb hown (hts _ kw_871) dX10_draw_6 ?_
  refine lv_lmul hx hb dX10_draw_9 ?_
  refine lv_ldc2 (v := 12345) hx hb hown (hts _ kw_872) dX10_draw_10 ?_
  refine lv_ladd hx hb dX10_draw_13 ?_
  refine lv_ldc2 (v := 2147483647) hx hb hown (hts _ kw_873) dX10_draw_14 ?_
  refine lv_land hx hb dX10_draw_17 ?_
  refine lv_l2i (v := (((((u_T 0 3).toInt64) * (1103515245 : Int64)) + (12345 : Int64)) &&& (2147483647 : Int64)).toInt32) hx hb dX10_draw_18 rfl ?_
  obtain ⟨u_T_1, eu_T_1⟩ : ∃ z : S32, z = up2 u_T 0 3 ((((((u_T 0 3).toInt64) * (1103515245 : Int64)) + (12345 : Int64)) &&& (2147483647 : Int64)).toInt32) := ⟨_, rfl⟩
  replace hf := tx_let_e hf eu_T_1
  refine pf_X10_66 (ws' := cl_X10 g a_T p_T_0 p_T_16 u_T_1 ++ X) S hE hw rfl rfl 0 rfl (Nat.le_of_ble_eq_true rfl) (by rw [eu_T_1]; rfl) dX10_draw_19 (fun H locs hw => ?_)
  refine lv_aload_n hx hb dX10_draw_22 rfl (lv_at hl 0 rfl) ?_
  refine gf_X10_66 S hE hw 0 rfl rfl dX10_draw_23 ?_
  refine lv_ldc (v := 65536) hx hb hown (hts _ kw_874) dX10_draw_26 ?_
  refine lv_idiv hx hb dX10_draw_28 (by decide) ?_
  obtain ⟨e0, e1⟩ := tx_in2 hf
  rw [← e0, ← e1]
  exact tx_iret S hr hlk hw dX10_draw_29
