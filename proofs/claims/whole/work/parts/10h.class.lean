def f_X11_ahead (fu : Nat) (u_T : S32) (u_Y : S32) (u_W : S32) (u_B : S32) (u_L : S32) (p_W2_0 : Nat) (pa_B : Nat) (u_W2 : S32) (v_L : S64) (v_N : S64) (x1 : Int32) (x2 : Int32) : Option (Int32 × S32 × S64 × S64 × Nat) := if x1 < (0 : Int32) then (some ((-1 : Int32), u_W2, v_L, v_N, p_W2_0)) else (if (99 : Int32) < x1 then (some ((-1 : Int32), u_W2, v_L, v_N, p_W2_0)) else (if x2 < (0 : Int32) then (some ((-1 : Int32), u_W2, v_L, v_N, p_W2_0)) else (if x2 ≤ (3 : Int32) then (tx_b4 (f_X9_comes fu u_Y u_W u_B u_L u_W2 v_L v_N x1 x2) fun (r_6 : Int32) (u_W2_7 : S32) (v_L_8 : S64) (v_N_9 : S64) => some (r_6, u_W2_7, v_L_8, v_N_9, pa_B)) else (some ((-1 : Int32), u_W2, v_L, v_N, p_W2_0)))))
set_option maxHeartbeats 4000000 in
set_option maxRecDepth 100000 in
theorem c_X11_ahead {l : Launch} {g : GG} {A : Nat → Prop} {X : va_W} {fu : Nat} {a_T a_Y a_W a_W2 a_B a_L a_N : Nat → Nat} {p_T_0 p_T_2 p_T_3 p_T_5 p_T_7 p_T_8 p_T_9 p_W_16 p_W2_0 : Nat} {u_T : S32} {u_Y : S32} {u_W : S32} {u_W2 : S32} {u_B : S32} {u_L : S32} {v_L : S64} {v_N : S64} {x1 : Int32} {x2 : Int32} {r : Int32} {zu_W2 : S32} {zv_L : S64} {zv_N : S64} {zq_W2_0 : Nat} (hf : f_X11_ahead fu u_T u_Y u_W u_B u_L p_W2_0 (a_B 0) u_W2 v_L v_N x1 x2 = some (r, zu_W2, zv_L, zv_N, zq_W2_0)) : MI l yX11_ahead cX11_ahead 3 (some .int) 7 g A (cl_X11 g a_T p_T_0 (a_B 0) p_T_2 p_T_3 (a_W 0) p_T_5 (a_Y 0) p_T_7 p_T_8 p_T_9 u_T ++ (cl_X9 g a_Y (a_W2 0) u_Y ++ (cl_X10 g a_W (a_B 0) p_W_16 u_W ++ (cl_X10 g a_W2 p_W2_0 (a_N 0) u_W2 ++ (cl_X0 g a_B (a_L 0) u_B ++ (cl_X5 g a_L u_L v_L ++ (cl_N g a_N v_N ++ X))))))) [.ref (a_T 0), .int x1, .int x2] r (cl_X11 g a_T p_T_0 (a_B 0) p_T_2 p_T_3 (a_W 0) p_T_5 (a_Y 0) p_T_7 p_T_8 p_T_9 u_T ++ (cl_X9 g a_Y (a_W2 0) u_Y ++ (cl_X10 g a_W (a_B 0) p_W_16 u_W ++ (cl_X10 g a_W2 zq_W2_0 (a_N 0) zu_W2 ++ (cl_X0 g a_B (a_L 0) u_B ++ (cl_X5 g a_L u_L zv_L ++ (cl_N g a_N zv_N ++ X))))))) := by
  refine tx_start (av := [.ref (a_T 0), .int x1, .int x2]) (by decide) (Nat.le_of_ble_eq_true rfl) ?_
  intro p e s m below meth c ls S hr hlk hE hw hl
  have S : CallFix p m c cX11_ahead 3 s (List.toArray [.ref (a_T 0), .int x1, .int x2]) (Cond.code yX11_ahead cX11_ahead 3 (some .int) :: allW) RX11 := S
  have hx := S.1
  have hb := S.2.1
  have hown := S.2.2.2.1
  have hts : ∀ w ∈ allW, w.before (List.toArray [.ref (a_T 0), .int x1, .int x2]) s = true := fun w h => S.2.2.2.2 w (List.mem_cons_of_mem _ h)
  have hl : lv_has ls 3 [(0, .ref (a_T 0)), (1, .int x1), (2, .int x2)] := hl
  unfold f_X11_ahead at hf
  refine lv_iload_n hx hb dX11_ahead_0 rfl (lv_at hl 1 rfl) ?_
  refine lv_if_lt (tgt := 19) hx hb dX11_ahead_1 (by decide) (fun h_1 => ?_) (fun h_1 => ?_)
  · replace hf := tx_pos hf h_1
    refine lv_iconst (v := -1) hx hb dX11_ahead_19 (by decide) ?_
    obtain ⟨e0, e1, e2, e3, e4⟩ := tx_in5 hf
    rw [← e0, ← e1, ← e2, ← e3, ← e4]
    exact tx_iret S hr hlk hw dX11_ahead_20
  · replace hf := tx_neg hf h_1
    refine lv_iload_n hx hb dX11_ahead_4 rfl (lv_at hl 1 rfl) ?_
    refine lv_bipush (v := 99) hx hb dX11_ahead_5 (by decide) ?_
    refine lv_icmp_gt (tgt := 19) hx hb dX11_ahead_7 (by decide) (fun h_2 => ?_) (fun h_2 => ?_)
    · replace hf := tx_pos hf h_2
      refine lv_iconst (v := -1) hx hb dX11_ahead_19 (by decide) ?_
      obtain ⟨e0, e1, e2, e3, e4⟩ := tx_in5 hf
      rw [← e0, ← e1, ← e2, ← e3, ← e4]
      exact tx_iret S hr hlk hw dX11_ahead_20
    · replace hf := tx_neg hf h_2
      refine lv_iload_n hx hb dX11_ahead_10 rfl (lv_at hl 2 rfl) ?_
      refine lv_if_lt (tgt := 19) hx hb dX11_ahead_11 (by decide) (fun h_3 => ?_) (fun h_3 => ?_)
      · replace hf := tx_pos hf h_3
        refine lv_iconst (v := -1) hx hb dX11_ahead_19 (by decide) ?_
        obtain ⟨e0, e1, e2, e3, e4⟩ := tx_in5 hf
        rw [← e0, ← e1, ← e2, ← e3, ← e4]
        exact tx_iret S hr hlk hw dX11_ahead_20
      · replace hf := tx_neg hf h_3
        refine lv_iload_n hx hb dX11_ahead_14 rfl (lv_at hl 2 rfl) ?_
        refine lv_iconst (v := 3) hx hb dX11_ahead_15 (by decide) ?_
        refine lv_icmp_le (tgt := 21) hx hb dX11_ahead_16 (by decide) (fun h_4 => ?_) (fun h_4 => ?_)
        · replace hf := tx_pos hf h_4
          refine lv_aload_n hx hb dX11_ahead_21 rfl (lv_at hl 0 rfl) ?_
          refine gf_X11_52 S hE hw 0 rfl rfl dX11_ahead_22 ?_
          refine lv_aload_n hx hb dX11_ahead_25 rfl (lv_at hl 0 rfl) ?_
          refine gf_X11_42 S hE hw 0 rfl rfl dX11_ahead_26 ?_
          refine lv_iload_n hx hb dX11_ahead_29 rfl (lv_at hl 1 rfl) ?_
          refine lv_iload_n hx hb dX11_ahead_30 rfl (lv_at hl 2 rfl) ?_
          have hw := hw.u6
          have hw := hw.u6
          have hw := hw.u6
          have hw := hw.u6
          have hw := hw.u6
          have hw := hw.u6
          obtain ⟨r_6, u_W2_7, v_L_8, v_N_9, h_5, hf⟩ := tx_b4_e hf
          refine tx_ci hw (tx_runN S hE hw (c_X9_comes h_5) lk_X11_217 (q0 := 0) rfl rfl rfl hl.1 (rest := []) rfl (Nat.le_of_ble_eq_true rfl) ⟨by decide, by decide⟩ dX11_ahead_31 ⟨Nat.zero_le _, Nat.zero_le _⟩) (fun H locs hw => ?_)
          have hw := hw.u5
          have hw := hw.u5
          have hw := hw.u5
          have hw := hw.u5
          have hw := hw.u5
          have hw := hw.u5
          have hw := hw.u6
          obtain ⟨e0, e1, e2, e3, e4⟩ := tx_in5 hf
          rw [← e0, ← e1, ← e2, ← e3, ← e4]
          exact tx_iret S hr hlk hw dX11_ahead_34
        · replace hf := tx_neg hf h_4
          refine lv_iconst (v := -1) hx hb dX11_ahead_19 (by decide) ?_
          obtain ⟨e0, e1, e2, e3, e4⟩ := tx_in5 hf
          rw [← e0, ← e1, ← e2, ← e3, ← e4]
          exact tx_iret S hr hlk hw dX11_ahead_20
def f_X11_likely (fu : Nat) (u_T : S32) (u_B : S32) (u_W : S32) (u_L : S32) (v_L : S64) (v_N : S64) (x1 : Int32) : Option (Int32 × S64 × S64) := tx_b1 (f_X0_isThought fu u_B x1) fun (r_2 : Int32) => if r_2 = (0 : Int32) then (some ((-1 : Int32), v_L, v_N)) else (tx_b1 (f_X10_isHeld fu u_W u_B x1) fun (r_5 : Int32) => if r_5 = (0 : Int32) then (some ((-2 : Int32), v_L, v_N)) else (tx_b1 (f_X10_readerOf fu u_W u_B x1) fun (r_8 : Int32) => tx_b1 (f_X10_knowsTongue fu u_W u_B r_8 x1) fun (r_10 : Int32) => if r_10 = (0 : Int32) then (some ((0 : Int32), v_L, v_N)) else (tx_b3 (f_X10_readOf fu u_W u_B u_L v_L v_N x1 r_8) fun (r_13 : Int32) (v_L_14 : S64) (v_N_15 : S64) => some (r_13, v_L_14, v_N_15))))
set_option maxHeartbeats 4000000 in
set_option maxRecDepth 100000 in
theorem c_X11_likely {l : Launch} {g : GG} {A : Nat → Prop} {X : va_W} {fu : Nat} {a_T a_B a_W a_L a_N : Nat → Nat} {p_T_0 p_T_2 p_T_3 p_T_5 p_T_6 p_T_7 p_T_8 p_T_9 : Nat} {u_T : S32} {u_B : S32} {u_W : S32} {u_L : S32} {v_L : S64} {v_N : S64} {x1 : Int32} {r : Int32} {zv_L : S64} {zv_N : S64} (hf : f_X11_likely fu u_T u_B u_W u_L v_L v_N x1 = some (r, zv_L, zv_N)) : MI l yX11_likely cX11_likely 3 (some .int) 3 g A (cl_X11 g a_T p_T_0 (a_B 0) p_T_2 p_T_3 (a_W 0) p_T_5 p_T_6 p_T_7 p_T_8 p_T_9 u_T ++ (cl_X0 g a_B (a_L 0) u_B ++ (cl_X10 g a_W (a_B 0) (a_N 0) u_W ++ (cl_X5 g a_L u_L v_L ++ (cl_N g a_N v_N ++ X))))) [.ref (a_T 0), .int x1] r (cl_X11 g a_T p_T_0 (a_B 0) p_T_2 p_T_3 (a_W 0) p_T_5 p_T_6 p_T_7 p_T_8 p_T_9 u_T ++ (cl_X0 g a_B (a_L 0) u_B ++ (cl_X10 g a_W (a_B 0) (a_N 0) u_W ++ (cl_X5 g a_L u_L zv_L ++ (cl_N g a_N zv_N ++ X))))) := by
  refine tx_start (av := [.ref (a_T 0), .int x1]) (by decide) (Nat.le_of_ble_eq_true rfl) ?_
  intro p e s m below meth c ls S hr hlk hE hw hl
  have S : CallFix p m c cX11_likely 3 s (List.toArray [.ref (a_T 0), .int x1]) (Cond.code yX11_likely cX11_likely 3 (some .int) :: allW) RX11 := S
  have hx := S.1
  have hb := S.2.1
  have hown := S.2.2.2.1
  have hts : ∀ w ∈ allW, w.before (List.toArray [.ref (a_T 0), .int x1]) s = true := fun w h => S.2.2.2.2 w (List.mem_cons_of_mem _ h)
  have hl : lv_has ls 3 [(0, .ref (a_T 0)), (1, .int x1)] := hl
  unfold f_X11_likely at hf
  refine lv_aload_n hx hb dX11_likely_0 rfl (lv_at hl 0 rfl) ?_
  refine gf_X11_21 S hE hw 0 rfl rfl dX11_likely_1 ?_
  refine lv_iload_n hx hb dX11_likely_4 rfl (lv_at hl 1 rfl) ?_
  have hw := hw.u1
  obtain ⟨r_2, h_1, hf⟩ := tx_b1_e hf
  refine tx_ci hw (tx_runN S hE hw (c_X0_isThought h_1) lk_X11_120 (q0 := 0) rfl rfl rfl hl.1 (rest := []) rfl (Nat.le_of_ble_eq_true rfl) ⟨by decide, by decide⟩ dX11_likely_5 ⟨Nat.zero_le _, Nat.zero_le _⟩) (fun H locs hw => ?_)
  refine lv_if_ne (tgt := 13) hx hb dX11_likely_8 (by decide) (fun h_3 => ?_) (fun h_3 => ?_)
  · replace hf := tx_neg hf h_3
    refine lv_aload_n hx hb dX11_likely_13 rfl (lv_at hl 0 rfl) ?_
    refine gf_X11_42 S hE hw 11 rfl rfl dX11_likely_14 ?_
    refine lv_iload_n hx hb dX11_likely_17 rfl (lv_at hl 1 rfl) ?_
    have hw := hw.u2
    obtain ⟨r_5, h_4, hf⟩ := tx_b1_e hf
    refine tx_ci hw (tx_runN S hE hw (c_X10_isHeld h_4) lk_X11_197 (q0 := 0) rfl rfl rfl hl.1 (rest := []) rfl (Nat.le_of_ble_eq_true rfl) ⟨by decide, by decide⟩ dX11_likely_18 ⟨Nat.zero_le _, Nat.zero_le _⟩) (fun H locs hw => ?_)
    refine lv_if_ne (tgt := 27) hx hb dX11_likely_21 (by decide) (fun h_6 => ?_) (fun h_6 => ?_)
    · replace hf := tx_neg hf h_6
      refine lv_aload_n hx hb dX11_likely_27 rfl (lv_at hl 0 rfl) ?_
      refine gf_X11_42 S hE hw 23 rfl rfl dX11_likely_28 ?_
      refine lv_iload_n hx hb dX11_likely_31 rfl (lv_at hl 1 rfl) ?_
      obtain ⟨r_8, h_7, hf⟩ := tx_b1_e hf
      refine tx_ci hw (tx_runN S hE hw (c_X10_readerOf h_7) lk_X11_221 (q0 := 0) rfl rfl rfl hl.1 (rest := []) rfl (Nat.le_of_ble_eq_true rfl) ⟨by decide, by decide⟩ dX11_likely_32 ⟨Nat.zero_le _, Nat.zero_le _⟩) (fun H locs hw => ?_)
      refine lv_istore_n (lv' := [(2, .int r_8), (0, .ref (a_T 0)), (1, .int x1)]) hx hb dX11_likely_35 rfl hl (by decide) rfl (fun ls hl => ?_)
      refine lv_aload_n hx hb dX11_likely_36 rfl (lv_at hl 1 rfl) ?_
      refine gf_X11_42 S hE hw 23 rfl rfl dX11_likely_37 ?_
      refine lv_iload_n hx hb dX11_likely_40 rfl (lv_at hl 0 rfl) ?_
      refine lv_iload_n hx hb dX11_likely_41 rfl (lv_at hl 2 rfl) ?_
      obtain ⟨r_10, h_9, hf⟩ := tx_b1_e hf
      refine tx_ci hw (tx_runN S hE hw (c_X10_knowsTongue h_9) lk_X11_224 (q0 := 0) rfl rfl rfl hl.1 (rest := []) rfl (Nat.le_of_ble_eq_true rfl) ⟨by decide, by decide⟩ dX11_likely_42 ⟨Nat.zero_le _, Nat.zero_le _⟩) (fun H locs hw => ?_)
      refine lv_if_eq (tgt := 60) hx hb dX11_likely_45 (by decide) (fun h_11 => ?_) (fun h_11 => ?_)
      · replace hf := tx_pos hf h_11
        refine lv_iconst (v := 0) hx hb dX11_likely_60 (by decide) ?_
        have hw := hw.u4
        have hw := hw.u4
        have hw := hw.u2
        have hw := hw.u3
        have hw := hw.u4
        obtain ⟨e0, e1, e2⟩ := tx_in3 hf
        rw [← e0, ← e1, ← e2]
        exact tx_iret S hr hlk hw dX11_likely_61
      · replace hf := tx_neg hf h_11
        refine lv_aload_n hx hb dX11_likely_48 rfl (lv_at hl 1 rfl) ?_
        refine gf_X11_42 S hE hw 23 rfl rfl dX11_likely_49 ?_
        refine lv_iload_n hx hb dX11_likely_52 rfl (lv_at hl 2 rfl) ?_
        refine lv_iload_n hx hb dX11_likely_53 rfl (lv_at hl 0 rfl) ?_
        have hw := hw.u4
        have hw := hw.u4
        have hw := hw.u3
        have hw := hw.u3
        obtain ⟨r_13, v_L_14, v_N_15, h_12, hf⟩ := tx_b3_e hf
        refine tx_ci hw (tx_runN S hE hw (c_X10_readOf h_12) lk_X11_228 (q0 := 0) rfl rfl rfl hl.1 (rest := []) rfl (Nat.le_of_ble_eq_true rfl) ⟨by decide, by decide⟩ dX11_likely_54 ⟨Nat.zero_le _, Nat.zero_le _⟩) (fun H locs hw => ?_)
        refine lv_goto (tgt := 61) hx hb dX11_likely_57 (by decide) ?_
        have hw := hw.u3
        have hw := hw.u3
        have hw := hw.u2
        have hw := hw.u3
        have hw := hw.u4
        obtain ⟨e0, e1, e2⟩ := tx_in3 hf
        rw [← e0, ← e1, ← e2]
        exact tx_iret S hr hlk hw dX11_likely_61
    · replace hf := tx_pos hf h_6
      refine lv_bipush (v := -2) hx hb dX11_likely_24 (by decide) ?_
      have hw := hw.u4
      have hw := hw.u4
      have hw := hw.u2
      have hw := hw.u3
      have hw := hw.u4
      obtain ⟨e0, e1, e2⟩ := tx_in3 hf
      rw [← e0, ← e1, ← e2]
      exact tx_iret S hr hlk hw dX11_likely_26
  · replace hf := tx_pos hf h_3
    refine lv_iconst (v := -1) hx hb dX11_likely_11 (by decide) ?_
    have hw := hw.u4
    have hw := hw.u4
    have hw := hw.u4
    have hw := hw.u3
    have hw := hw.u4
    obtain ⟨e0, e1, e2⟩ := tx_in3 hf
    rw [← e0, ← e1, ← e2]
    exact tx_iret S hr hlk hw dX11_likely_12
def f_X9_readerOfMost_J53 (fu : Nat) (u_T : S32) (u_B : S32) (u_L : S32) (K7 : S32 → S64 → S64 → Int32 → Int32 → Int32 → Int32 → Option (Int32 × S32 × S64 × S64)) (u_W : S32) (v_L : S64) (v_N : S64) (w1 : Int32) (w2 : Int32) (w3 : Int32) (w4 : Int32) : Option (Int32 × S32 × S64 × S64) := tx_let (w4 + (1 : Int32)) fun (y_9 : Int32) => K7 u_W v_L v_N w1 w2 w3 y_9
def f_X9_readerOfMost_J7 (fu : Nat) (u_T : S32) (u_B : S32) (u_L : S32) (K7 : S32 → S64 → S64 → Int32 → Int32 → Int32 → Int32 → Option (Int32 × S32 × S64 × S64)) (u_W : S32) (v_L : S64) (v_N : S64) (w1 : Int32) (w2 : Int32) (w3 : Int32) (w4 : Int32) : Option (Int32 × S32 × S64 × S64) := if (u_B 0 10) ≤ w4 then (some (w2, u_W, v_L, v_N)) else (if (4 : Int32) ≤ w4 then (some (w2, u_W, v_L, v_N)) else (tx_b4 (f_X10_dueAt fu u_B u_L u_W v_L v_N w1 w4 (0 : Int32)) fun (r_4 : Int32) (u_W_5 : S32) (v_L_6 : S64) (v_N_7 : S64) => if r_4 ≤ w3 then (f_X9_readerOfMost_J53 fu u_T u_B u_L K7 u_W_5 v_L_6 v_N_7 w1 w2 w3 w4) else (f_X9_readerOfMost_J53 fu u_T u_B u_L K7 u_W_5 v_L_6 v_N_7 w1 w4 r_4 w4)))
def f_X9_readerOfMost_L7 (fu : Nat) (u_T : S32) (u_B : S32) (u_L : S32) : Nat → S32 → S64 → S64 → Int32 → Int32 → Int32 → Int32 → Option (Int32 × S32 × S64 × S64)
  | 0 => fun _ _ _ _ _ _ _ => none
  | n + 1 => f_X9_readerOfMost_J7 fu u_T u_B u_L (f_X9_readerOfMost_L7 fu u_T u_B u_L n)
def f_X9_readerOfMost (fu : Nat) (u_T : S32) (u_B : S32) (u_L : S32) (u_W : S32) (v_L : S64) (v_N : S64) (x1 : Int32) : Option (Int32 × S32 × S64 × S64) := f_X9_readerOfMost_L7 fu u_T u_B u_L fu u_W v_L v_N x1 (0 : Int32) (-1 : Int32) (0 : Int32)
set_option maxHeartbeats 4000000 in
set_option maxRecDepth 100000 in
theorem c_X9_readerOfMost {l : Launch} {g : GG} {A : Nat → Prop} {X : va_W} {fu : Nat} {a_T a_W a_B a_L a_N : Nat → Nat} {u_T : S32} {u_W : S32} {u_B : S32} {u_L : S32} {v_L : S64} {v_N : S64} {x1 : Int32} {r : Int32} {zu_W : S32} {zv_L : S64} {zv_N : S64} (hf : f_X9_readerOfMost fu u_T u_B u_L u_W v_L v_N x1 = some (r, zu_W, zv_L, zv_N)) : MI l yX9_readerOfMost cX9_readerOfMost 6 (some .int) 5 g A (cl_X9 g a_T (a_W 0) u_T ++ (cl_X10 g a_W (a_B 0) (a_N 0) u_W ++ (cl_X0 g a_B (a_L 0) u_B ++ (cl_X5 g a_L u_L v_L ++ (cl_N g a_N v_N ++ X))))) [.ref (a_T 0), .int x1] r (cl_X9 g a_T (a_W 0) u_T ++ (cl_X10 g a_W (a_B 0) (a_N 0) zu_W ++ (cl_X0 g a_B (a_L 0) u_B ++ (cl_X5 g a_L u_L zv_L ++ (cl_N g a_N zv_N ++ X))))) := by
  refine tx_start (av := [.ref (a_T 0), .int x1]) (by decide) (Nat.le_of_ble_eq_true rfl) ?_
  intro p e s m below meth c ls S hr hlk hE hw hl
  have S : CallFix p m c cX9_readerOfMost 6 s (List.toArray [.ref (a_T 0), .int x1]) (Cond.code yX9_readerOfMost cX9_readerOfMost 6 (some .int) :: allW) RX9 := S
  have hx := S.1
  have hb := S.2.1
  have hown := S.2.2.2.1
  have hts : ∀ w ∈ allW, w.before (List.toArray [.ref (a_T 0), .int x1]) s = true := fun w h => S.2.2.2.2 w (List.mem_cons_of_mem _ h)
  have hl : lv_has ls 6 [(0, .ref (a_T 0)), (1, .int x1)] := hl
  have J53 : ∀ {K7 : S32 → S64 → S64 → Int32 → Int32 → Int32 → Int32 → Option (Int32 × S32 × S64 × S64)} (hK7 : ∀ {u_W : S32} {v_L : S64} {v_N : S64} {w1 : Int32} {w2 : Int32} {w3 : Int32} {w4 : Int32} {H : Heap} {locs : List Loc} {ls : Array Slot}, K7 u_W v_L v_N w1 w2 w3 w4 = some (r, zu_W, zv_L, zv_N) → WD g A s.heap (cl_X9 g a_T (a_W 0) u_T ++ (cl_X10 g a_W (a_B 0) (a_N 0) u_W ++ (cl_X0 g a_B (a_L 0) u_B ++ (cl_X5 g a_L u_L v_L ++ (cl_N g a_N v_N ++ X))))) H locs → lv_has ls 6 [(0, .ref (a_T 0)), (1, .int w1), (2, .int w2), (3, .int w3), (4, .int w4)] → W p l e (rmH 5) s m (List.toArray [.ref (a_T 0), .int x1]) below meth c H locs 0 0 (MQ below (va_Qi (fun r2 (_ : Unit) => r2 = r) (fun _ t => POST g A (cl_X9 g a_T (a_W 0) u_T ++ (cl_X10 g a_W (a_B 0) (a_N 0) zu_W ++ (cl_X0 g a_B (a_L 0) u_B ++ (cl_X5 g a_L u_L zv_L ++ (cl_N g a_N zv_N ++ X))))) t) A) (List.toArray [.ref (a_T 0), .int x1]) s 0 0 A) (F0 m 7 ls [])), ∀ {u_W : S32} {v_L : S64} {v_N : S64} {w1 : Int32} {w2 : Int32} {w3 : Int32} {w4 : Int32} {H : Heap} {locs : List Loc} {ls : Array Slot}, f_X9_readerOfMost_J53 fu u_T u_B u_L K7 u_W v_L v_N w1 w2 w3 w4 = some (r, zu_W, zv_L, zv_N) → WD g A s.heap (cl_X9 g a_T (a_W 0) u_T ++ (cl_X10 g a_W (a_B 0) (a_N 0) u_W ++ (cl_X0 g a_B (a_L 0) u_B ++ (cl_X5 g a_L u_L v_L ++ (cl_N g a_N v_N ++ X))))) H locs → lv_has ls 6 [(0, .ref (a_T 0)), (1, .int w1), (2, .int w2), (3, .int w3), (4, .int w4)] → W p l e (rmH 5) s m (List.toArray [.ref (a_T 0), .int x1]) below meth c H locs 0 0 (MQ below (va_Qi (fun r2 (_ : Unit) => r2 = r) (fun _ t => POST g A (cl_X9 g a_T (a_W 0) u_T ++ (cl_X10 g a_W (a_B 0) (a_N 0) zu_W ++ (cl_X0 g a_B (a_L 0) u_B ++ (cl_X5 g a_L u_L zv_L ++ (cl_N g a_N zv_N ++ X))))) t) A) (List.toArray [.ref (a_T 0), .int x1]) s 0 0 A) (F0 m 53 ls []) := by
    intro K7 hK7 u_W v_L v_N w1 w2 w3 w4 H locs ls hf hw hl
    unfold f_X9_readerOfMost_J53 at hf
    obtain ⟨y_9, ey_9⟩ : ∃ y : Int32, y = w4 + (1 : Int32) := ⟨_, rfl⟩
    replace hf := tx_let_e hf ey_9
    refine lv_iinc (v := y_9) (lv' := [(4, .int y_9), (0, .ref (a_T 0)), (1, .int w1), (2, .int w2), (3, .int w3)]) hx hb dX9_readerOfMost_53 hl (k := 4) rfl (by rw [ey_9]; rfl) (by decide) rfl (fun ls hl => ?_)
    refine lv_goto (tgt := 7) hx hb dX9_readerOfMost_56 (by decide) ?_
    exact hK7 hf hw (lv_sub hl [1, 2, 3, 4, 0] rfl)
  have J7 : ∀ {K7 : S32 → S64 → S64 → Int32 → Int32 → Int32 → Int32 → Option (Int32 × S32 × S64 × S64)} (hK7 : ∀ {u_W : S32} {v_L : S64} {v_N : S64} {w1 : Int32} {w2 : Int32} {w3 : Int32} {w4 : Int32} {H : Heap} {locs : List Loc} {ls : Array Slot}, K7 u_W v_L v_N w1 w2 w3 w4 = some (r, zu_W, zv_L, zv_N) → WD g A s.heap (cl_X9 g a_T (a_W 0) u_T ++ (cl_X10 g a_W (a_B 0) (a_N 0) u_W ++ (cl_X0 g a_B (a_L 0) u_B ++ (cl_X5 g a_L u_L v_L ++ (cl_N g a_N v_N ++ X))))) H locs → lv_has ls 6 [(0, .ref (a_T 0)), (1, .int w1), (2, .int w2), (3, .int w3), (4, .int w4)] → W p l e (rmH 5) s m (List.toArray [.ref (a_T 0), .int x1]) below meth c H locs 0 0 (MQ below (va_Qi (fun r2 (_ : Unit) => r2 = r) (fun _ t => POST g A (cl_X9 g a_T (a_W 0) u_T ++ (cl_X10 g a_W (a_B 0) (a_N 0) zu_W ++ (cl_X0 g a_B (a_L 0) u_B ++ (cl_X5 g a_L u_L zv_L ++ (cl_N g a_N zv_N ++ X))))) t) A) (List.toArray [.ref (a_T 0), .int x1]) s 0 0 A) (F0 m 7 ls [])), ∀ {u_W : S32} {v_L : S64} {v_N : S64} {w1 : Int32} {w2 : Int32} {w3 : Int32} {w4 : Int32} {H : Heap} {locs : List Loc} {ls : Array Slot}, f_X9_readerOfMost_J7 fu u_T u_B u_L K7 u_W v_L v_N w1 w2 w3 w4 = some (r, zu_W, zv_L, zv_N) → WD g A s.heap (cl_X9 g a_T (a_W 0) u_T ++ (cl_X10 g a_W (a_B 0) (a_N 0) u_W ++ (cl_X0 g a_B (a_L 0) u_B ++ (cl_X5 g a_L u_L v_L ++ (cl_N g a_N v_N ++ X))))) H locs → lv_has ls 6 [(0, .ref (a_T 0)), (1, .int w1), (2, .int w2), (3, .int w3), (4, .int w4)] → W p l e (rmH 5) s m (List.toArray [.ref (a_T 0), .int x1]) below meth c H locs 0 0 (MQ below (va_Qi (fun r2 (_ : Unit) => r2 = r) (fun _ t => POST g A (cl_X9 g a_T (a_W 0) u_T ++ (cl_X10 g a_W (a_B 0) (a_N 0) zu_W ++ (cl_X0 g a_B (a_L 0) u_B ++ (cl_X5 g a_L u_L zv_L ++ (cl_N g a_N zv_N ++ X))))) t) A) (List.toArray [.ref (a_T 0), .int x1]) s 0 0 A) (F0 m 7 ls []) := by
    intro K7 hK7 u_W v_L v_N w1 w2 w3 w4 H locs ls hf hw hl
    unfold f_X9_readerOfMost_J7 at hf
    refine lv_iload hx hb dX9_readerOfMost_7 (lv_at hl 4 rfl) ?_
    refine lv_aload_n hx hb dX9_readerOfMost_9 rfl (lv_at hl 0 rfl) ?_
    refine gf_X9_20 S hE hw 0 rfl rfl dX9_readerOfMost_10 ?_
    refine gf_X9_49 S hE hw 2 rfl rfl dX9_readerOfMost_13 ?_
    refine gf_X9_69 S hE hw 14 rfl rfl dX9_readerOfMost_16 ?_
    refine lv_icmp_ge (tgt := 59) hx hb dX9_readerOfMost_19 (by decide) (fun h_1 => ?_) (fun h_1 => ?_)
    · replace hf := tx_pos hf h_1
      refine lv_iload_n hx hb dX9_readerOfMost_59 rfl (lv_at hl 2 rfl) ?_
      obtain ⟨e0, e1, e2, e3⟩ := tx_in4 hf
      rw [← e0, ← e1, ← e2, ← e3]
      exact tx_iret S hr hlk hw dX9_readerOfMost_60
    · replace hf := tx_neg hf h_1
      refine lv_iload hx hb dX9_readerOfMost_22 (lv_at hl 4 rfl) ?_
      refine lv_iconst (v := 4) hx hb dX9_readerOfMost_24 (by decide) ?_
      refine lv_icmp_ge (tgt := 59) hx hb dX9_readerOfMost_25 (by decide) (fun h_2 => ?_) (fun h_2 => ?_)
      · replace hf := tx_pos hf h_2
        refine lv_iload_n hx hb dX9_readerOfMost_59 rfl (lv_at hl 2 rfl) ?_
        obtain ⟨e0, e1, e2, e3⟩ := tx_in4 hf
        rw [← e0, ← e1, ← e2, ← e3]
        exact tx_iret S hr hlk hw dX9_readerOfMost_60
      · replace hf := tx_neg hf h_2
        refine lv_aload_n hx hb dX9_readerOfMost_28 rfl (lv_at hl 0 rfl) ?_
        refine gf_X9_20 S hE hw 0 rfl rfl dX9_readerOfMost_29 ?_
        refine lv_iload_n hx hb dX9_readerOfMost_32 rfl (lv_at hl 1 rfl) ?_
        refine lv_iload hx hb dX9_readerOfMost_33 (lv_at hl 4 rfl) ?_
        refine lv_iconst (v := 0) hx hb dX9_readerOfMost_35 (by decide) ?_
        have hw := hw.u4
        have hw := hw.u4
        have hw := hw.u4
        have hw := hw.u4
        obtain ⟨r_4, u_W_5, v_L_6, v_N_7, h_3, hf⟩ := tx_b4_e hf
        refine tx_ci hw (tx_runN S hE hw (c_X10_dueAt h_3) lk_X9_65 (q0 := 0) rfl rfl rfl hl.1 (rest := []) rfl (Nat.le_of_ble_eq_true rfl) ⟨by decide, by decide⟩ dX9_readerOfMost_36 ⟨Nat.zero_le _, Nat.zero_le _⟩) (fun H locs hw => ?_)
        refine lv_istore (lv' := [(5, .int r_4), (0, .ref (a_T 0)), (1, .int w1), (2, .int w2), (3, .int w3), (4, .int w4)]) hx hb dX9_readerOfMost_39 hl (by decide) rfl (fun ls hl => ?_)
        refine lv_iload hx hb dX9_readerOfMost_41 (lv_at hl 0 rfl) ?_
        refine lv_iload_n hx hb dX9_readerOfMost_43 rfl (lv_at hl 4 rfl) ?_
        refine lv_icmp_le (tgt := 53) hx hb dX9_readerOfMost_44 (by decide) (fun h_8 => ?_) (fun h_8 => ?_)
        · replace hf := tx_pos hf h_8
          have hw := hw.u3
          have hw := hw.u3
          have hw := hw.u3
          have hw := hw.u3
          have hw := hw.u4
          exact J53 hK7 hf hw (lv_sub hl [1, 2, 3, 4, 5] rfl)
        · replace hf := tx_neg hf h_8
          refine lv_iload hx hb dX9_readerOfMost_47 (lv_at hl 0 rfl) ?_
          refine lv_istore_n (lv' := [(3, .int r_4), (5, .int r_4), (0, .ref (a_T 0)), (1, .int w1), (2, .int w2), (4, .int w4)]) hx hb dX9_readerOfMost_49 rfl hl (by decide) rfl (fun ls hl => ?_)
          refine lv_iload hx hb dX9_readerOfMost_50 (lv_at hl 5 rfl) ?_
          refine lv_istore_n (lv' := [(2, .int w4), (3, .int r_4), (5, .int r_4), (0, .ref (a_T 0)), (1, .int w1), (4, .int w4)]) hx hb dX9_readerOfMost_52 rfl hl (by decide) rfl (fun ls hl => ?_)
          have hw := hw.u3
          have hw := hw.u3
          have hw := hw.u3
          have hw := hw.u3
          have hw := hw.u4
          exact J53 hK7 hf hw (lv_sub hl [3, 4, 0, 1, 5] rfl)
  have L7 : ∀ (n : Nat), ∀ {u_W : S32} {v_L : S64} {v_N : S64} {w1 : Int32} {w2 : Int32} {w3 : Int32} {w4 : Int32} {H : Heap} {locs : List Loc} {ls : Array Slot}, f_X9_readerOfMost_L7 fu u_T u_B u_L n u_W v_L v_N w1 w2 w3 w4 = some (r, zu_W, zv_L, zv_N) → WD g A s.heap (cl_X9 g a_T (a_W 0) u_T ++ (cl_X10 g a_W (a_B 0) (a_N 0) u_W ++ (cl_X0 g a_B (a_L 0) u_B ++ (cl_X5 g a_L u_L v_L ++ (cl_N g a_N v_N ++ X))))) H locs → lv_has ls 6 [(0, .ref (a_T 0)), (1, .int w1), (2, .int w2), (3, .int w3), (4, .int w4)] → W p l e (rmH 5) s m (List.toArray [.ref (a_T 0), .int x1]) below meth c H locs 0 0 (MQ below (va_Qi (fun r2 (_ : Unit) => r2 = r) (fun _ t => POST g A (cl_X9 g a_T (a_W 0) u_T ++ (cl_X10 g a_W (a_B 0) (a_N 0) zu_W ++ (cl_X0 g a_B (a_L 0) u_B ++ (cl_X5 g a_L u_L zv_L ++ (cl_N g a_N zv_N ++ X))))) t) A) (List.toArray [.ref (a_T 0), .int x1]) s 0 0 A) (F0 m 7 ls []) := by
    intro  n
    induction n with
    | zero => intro u_W v_L v_N w1 w2 w3 w4 H locs ls hf; exact absurd hf (by intro q; cases q)
    | succ n ih => exact fun hf hw hl => J7 ih hf hw hl
  unfold f_X9_readerOfMost at hf
  refine lv_iconst (v := 0) hx hb dX9_readerOfMost_0 (by decide) ?_
  refine lv_istore_n (lv' := [(2, .int (0 : Int32)), (0, .ref (a_T 0)), (1, .int x1)]) hx hb dX9_readerOfMost_1 rfl hl (by decide) rfl (fun ls hl => ?_)
  refine lv_iconst (v := -1) hx hb dX9_readerOfMost_2 (by decide) ?_
  refine lv_istore_n (lv' := [(3, .int (-1 : Int32)), (2, .int (0 : Int32)), (0, .ref (a_T 0)), (1, .int x1)]) hx hb dX9_readerOfMost_3 rfl hl (by decide) rfl (fun ls hl => ?_)
  refine lv_iconst (v := 0) hx hb dX9_readerOfMost_4 (by decide) ?_
  refine lv_istore (lv' := [(4, .int (0 : Int32)), (3, .int (-1 : Int32)), (2, .int (0 : Int32)), (0, .ref (a_T 0)), (1, .int x1)]) hx hb dX9_readerOfMost_5 hl (by decide) rfl (fun ls hl => ?_)
  exact L7 fu hf hw (lv_sub hl [3, 4, 2, 1, 0] rfl)
def f_X9_roundOfMost_J77 (fu : Nat) (u_T : S32) (u_Wa : S32) (u_B : S32) (u_L : S32) (K20 : S32 → S64 → S64 → Int32 → Int32 → Int32 → Option (Int32 × S32 × S64 × S64)) (u_W : S32) (v_L : S64) (v_N : S64) (w2 : Int32) (w3 : Int32) (w4 : Int32) (w5 : Int32) : Option (Int32 × S32 × S64 × S64) := tx_b4 (f_X10_dueAt fu u_B u_L u_W v_L v_N w4 w5 (0 : Int32)) fun (r_17 : Int32) (u_W_18 : S32) (v_L_19 : S64) (v_N_20 : S64) => tx_let (w3 + r_17) fun (y_21 : Int32) => tx_let (w4 + (1 : Int32)) fun (y_22 : Int32) => K20 u_W_18 v_L_19 v_N_20 w2 y_21 y_22
def f_X9_roundOfMost_J61 (fu : Nat) (u_T : S32) (u_Wa : S32) (u_B : S32) (u_L : S32) (K20 : S32 → S64 → S64 → Int32 → Int32 → Int32 → Option (Int32 × S32 × S64 × S64)) (u_W : S32) (v_L : S64) (v_N : S64) (w2 : Int32) (w3 : Int32) (w4 : Int32) (t0 : Int32) : Option (Int32 × S32 × S64 × S64) := if w4 = w2 then (if (4 : Int32) ≤ w2 then (f_X9_roundOfMost_J77 fu u_T u_Wa u_B u_L K20 u_W v_L v_N w2 w3 w4 t0) else (some (t0, u_W, v_L, v_N))) else (f_X9_roundOfMost_J77 fu u_T u_Wa u_B u_L K20 u_W v_L v_N w2 w3 w4 t0)
def f_X9_roundOfMost_J20 (fu : Nat) (u_T : S32) (u_Wa : S32) (u_B : S32) (u_L : S32) (K20 : S32 → S64 → S64 → Int32 → Int32 → Int32 → Option (Int32 × S32 × S64 × S64)) (u_W : S32) (v_L : S64) (v_N : S64) (w2 : Int32) (w3 : Int32) (w4 : Int32) : Option (Int32 × S32 × S64 × S64) := if (u_B 0 1) ≤ w4 then (some (w3, u_W, v_L, v_N)) else (if (6 : Int32) ≤ w4 then (some (w3, u_W, v_L, v_N)) else (if (4 : Int32) ≤ w4 then (tx_ck w4 6 <| f_X9_roundOfMost_J61 fu u_T u_Wa u_B u_L K20 u_W v_L v_N w2 w3 w4 (u_Wa 10 w4.toNatClampNeg)) else (tx_b4 (f_X9_readerOfMost fu u_T u_B u_L u_W v_L v_N w4) fun (r_10 : Int32) (u_W_11 : S32) (v_L_12 : S64) (v_N_13 : S64) => f_X9_roundOfMost_J61 fu u_T u_Wa u_B u_L K20 u_W_11 v_L_12 v_N_13 w2 w3 w4 r_10)))
def f_X9_roundOfMost_L20 (fu : Nat) (u_T : S32) (u_Wa : S32) (u_B : S32) (u_L : S32) : Nat → S32 → S64 → S64 → Int32 → Int32 → Int32 → Option (Int32 × S32 × S64 × S64)
  | 0 => fun _ _ _ _ _ _ => none
  | n + 1 => f_X9_roundOfMost_J20 fu u_T u_Wa u_B u_L (f_X9_roundOfMost_L20 fu u_T u_Wa u_B u_L n)
def f_X9_roundOfMost (fu : Nat) (u_T : S32) (u_Wa : S32) (u_B : S32) (u_L : S32) (u_W : S32) (v_L : S64) (v_N : S64) (x2 : Int32) : Option (Int32 × S32 × S64 × S64) := tx_b1 (f_X10_copy fu u_Wa u_W) fun (u_W_2 : S32) => tx_b1 (f_X10_think fu u_B u_W_2) fun (u_W_4 : S32) => f_X9_roundOfMost_L20 fu u_T u_Wa u_B u_L fu u_W_4 v_L v_N x2 (0 : Int32) (0 : Int32)
set_option maxHeartbeats 4000000 in
set_option maxRecDepth 100000 in
theorem c_X9_roundOfMost {l : Launch} {g : GG} {A : Nat → Prop} {X : va_W} {fu : Nat} {a_T a_Wa a_W a_B a_L a_N : Nat → Nat} {p_Wa_16 p_W_0 : Nat} {u_T : S32} {u_Wa : S32} {u_W : S32} {u_B : S32} {u_L : S32} {v_L : S64} {v_N : S64} {x2 : Int32} {r : Int32} {zu_W : S32} {zv_L : S64} {zv_N : S64} (hf : f_X9_roundOfMost fu u_T u_Wa u_B u_L u_W v_L v_N x2 = some (r, zu_W, zv_L, zv_N)) : MI l yX9_roundOfMost cX9_roundOfMost 6 (some .int) 6 g A (cl_X9 g a_T (a_W 0) u_T ++ (cl_X10 g a_Wa (a_B 0) p_Wa_16 u_Wa ++ (cl_X10 g a_W p_W_0 (a_N 0) u_W ++ (cl_X0 g a_B (a_L 0) u_B ++ (cl_X5 g a_L u_L v_L ++ (cl_N g a_N v_N ++ X)))))) [.ref (a_T 0), .ref (a_Wa 0), .int x2] r (cl_X9 g a_T (a_W 0) u_T ++ (cl_X10 g a_Wa (a_B 0) p_Wa_16 u_Wa ++ (cl_X10 g a_W (a_B 0) (a_N 0) zu_W ++ (cl_X0 g a_B (a_L 0) u_B ++ (cl_X5 g a_L u_L zv_L ++ (cl_N g a_N zv_N ++ X)))))) := by
  refine tx_start (av := [.ref (a_T 0), .ref (a_Wa 0), .int x2]) (by decide) (Nat.le_of_ble_eq_true rfl) ?_
  intro p e s m below meth c ls S hr hlk hE hw hl
  have S : CallFix p m c cX9_roundOfMost 6 s (List.toArray [.ref (a_T 0), .ref (a_Wa 0), .int x2]) (Cond.code yX9_roundOfMost cX9_roundOfMost 6 (some .int) :: allW) RX9 := S
  have hx := S.1
  have hb := S.2.1
  have hown := S.2.2.2.1
  have hts : ∀ w ∈ allW, w.before (List.toArray [.ref (a_T 0), .ref (a_Wa 0), .int x2]) s = true := fun w h => S.2.2.2.2 w (List.mem_cons_of_mem _ h)
  have hl : lv_has ls 6 [(0, .ref (a_T 0)), (1, .ref (a_Wa 0)), (2, .int x2)] := hl
  have J77 : ∀ {K20 : S32 → S64 → S64 → Int32 → Int32 → Int32 → Option (Int32 × S32 × S64 × S64)} (hK20 : ∀ {u_W : S32} {v_L : S64} {v_N : S64} {w2 : Int32} {w3 : Int32} {w4 : Int32} {H : Heap} {locs : List Loc} {ls : Array Slot}, K20 u_W v_L v_N w2 w3 w4 = some (r, zu_W, zv_L, zv_N) → WD g A s.heap (cl_X9 g a_T (a_W 0) u_T ++ (cl_X10 g a_Wa (a_B 0) p_Wa_16 u_Wa ++ (cl_X10 g a_W (a_B 0) (a_N 0) u_W ++ (cl_X0 g a_B (a_L 0) u_B ++ (cl_X5 g a_L u_L v_L ++ (cl_N g a_N v_N ++ X)))))) H locs → lv_has ls 6 [(0, .ref (a_T 0)), (1, .ref (a_Wa 0)), (2, .int w2), (3, .int w3), (4, .int w4)] → W p l e (rmH 6) s m (List.toArray [.ref (a_T 0), .ref (a_Wa 0), .int x2]) below meth c H locs 0 0 (MQ below (va_Qi (fun r2 (_ : Unit) => r2 = r) (fun _ t => POST g A (cl_X9 g a_T (a_W 0) u_T ++ (cl_X10 g a_Wa (a_B 0) p_Wa_16 u_Wa ++ (cl_X10 g a_W (a_B 0) (a_N 0) zu_W ++ (cl_X0 g a_B (a_L 0) u_B ++ (cl_X5 g a_L u_L zv_L ++ (cl_N g a_N zv_N ++ X)))))) t) A) (List.toArray [.ref (a_T 0), .ref (a_Wa 0), .int x2]) s 0 0 A) (F0 m 20 ls [])), ∀ {u_W : S32} {v_L : S64} {v_N : S64} {w2 : Int32} {w3 : Int32} {w4 : Int32} {w5 : Int32} {H : Heap} {locs : List Loc} {ls : Array Slot}, f_X9_roundOfMost_J77 fu u_T u_Wa u_B u_L K20 u_W v_L v_N w2 w3 w4 w5 = some (r, zu_W, zv_L, zv_N) → WD g A s.heap (cl_X9 g a_T (a_W 0) u_T ++ (cl_X10 g a_Wa (a_B 0) p_Wa_16 u_Wa ++ (cl_X10 g a_W (a_B 0) (a_N 0) u_W ++ (cl_X0 g a_B (a_L 0) u_B ++ (cl_X5 g a_L u_L v_L ++ (cl_N g a_N v_N ++ X)))))) H locs → lv_has ls 6 [(0, .ref (a_T 0)), (1, .ref (a_Wa 0)), (2, .int w2), (3, .int w3), (4, .int w4), (5, .int w5)] → W p l e (rmH 6) s m (List.toArray [.ref (a_T 0), .ref (a_Wa 0), .int x2]) below meth c H locs 0 0 (MQ below (va_Qi (fun r2 (_ : Unit) => r2 = r) (fun _ t => POST g A (cl_X9 g a_T (a_W 0) u_T ++ (cl_X10 g a_Wa (a_B 0) p_Wa_16 u_Wa ++ (cl_X10 g a_W (a_B 0) (a_N 0) zu_W ++ (cl_X0 g a_B (a_L 0) u_B ++ (cl_X5 g a_L u_L zv_L ++ (cl_N g a_N zv_N ++ X)))))) t) A) (List.toArray [.ref (a_T 0), .ref (a_Wa 0), .int x2]) s 0 0 A) (F0 m 77 ls []) := by
    intro K20 hK20 u_W v_L v_N w2 w3 w4 w5 H locs ls hf hw hl
    unfold f_X9_roundOfMost_J77 at hf
    refine lv_iload_n hx hb dX9_roundOfMost_77 rfl (lv_at hl 3 rfl) ?_
    refine lv_aload_n hx hb dX9_roundOfMost_78 rfl (lv_at hl 0 rfl) ?_
    refine gf_X9_20 S hE hw 0 rfl rfl dX9_roundOfMost_79 ?_
    refine lv_iload hx hb dX9_roundOfMost_82 (lv_at hl 4 rfl) ?_
    refine lv_iload hx hb dX9_roundOfMost_84 (lv_at hl 5 rfl) ?_
    refine lv_iconst (v := 0) hx hb dX9_roundOfMost_86 (by decide) ?_
    have hw := hw.u5
    have hw := hw.u5
    have hw := hw.u5
    have hw := hw.u5
    obtain ⟨r_17, u_W_18, v_L_19, v_N_20, h_16, hf⟩ := tx_b4_e hf
    refine tx_ci hw (tx_runN S hE hw (c_X10_dueAt h_16) lk_X9_65 (q0 := 0) rfl rfl rfl hl.1 (rest := [.int w3]) rfl (Nat.le_of_ble_eq_true rfl) ⟨by decide, by decide⟩ dX9_roundOfMost_87 ⟨Nat.zero_le _, Nat.zero_le _⟩) (fun H locs hw => ?_)
    refine lv_iadd hx hb dX9_roundOfMost_90 ?_
    refine lv_topi (fun y_21 ey_21 => ?_)
    replace hf := tx_let_e hf ey_21
    refine lv_istore_n (lv' := [(3, .int y_21), (0, .ref (a_T 0)), (1, .ref (a_Wa 0)), (2, .int w2), (4, .int w4), (5, .int w5)]) hx hb dX9_roundOfMost_91 rfl hl (by decide) rfl (fun ls hl => ?_)
    obtain ⟨y_22, ey_22⟩ : ∃ y : Int32, y = w4 + (1 : Int32) := ⟨_, rfl⟩
    replace hf := tx_let_e hf ey_22
    refine lv_iinc (v := y_22) (lv' := [(4, .int y_22), (3, .int y_21), (0, .ref (a_T 0)), (1, .ref (a_Wa 0)), (2, .int w2), (5, .int w5)]) hx hb dX9_roundOfMost_92 hl (k := 4) rfl (by rw [ey_22]; rfl) (by decide) rfl (fun ls hl => ?_)
    refine lv_goto (tgt := 20) hx hb dX9_roundOfMost_95 (by decide) ?_
    have hw := hw.u3
    have hw := hw.u3
    have hw := hw.u3
    have hw := hw.u3
    have hw := hw.u5
    have hw := hw.u5
    exact hK20 hf hw (lv_sub hl [2, 3, 4, 1, 0] rfl)
  have J61 : ∀ {K20 : S32 → S64 → S64 → Int32 → Int32 → Int32 → Option (Int32 × S32 × S64 × S64)} (hK20 : ∀ {u_W : S32} {v_L : S64} {v_N : S64} {w2 : Int32} {w3 : Int32} {w4 : Int32} {H : Heap} {locs : List Loc} {ls : Array Slot}, K20 u_W v_L v_N w2 w3 w4 = some (r, zu_W, zv_L, zv_N) → WD g A s.heap (cl_X9 g a_T (a_W 0) u_T ++ (cl_X10 g a_Wa (a_B 0) p_Wa_16 u_Wa ++ (cl_X10 g a_W (a_B 0) (a_N 0) u_W ++ (cl_X0 g a_B (a_L 0) u_B ++ (cl_X5 g a_L u_L v_L ++ (cl_N g a_N v_N ++ X)))))) H locs → lv_has ls 6 [(0, .ref (a_T 0)), (1, .ref (a_Wa 0)), (2, .int w2), (3, .int w3), (4, .int w4)] → W p l e (rmH 6) s m (List.toArray [.ref (a_T 0), .ref (a_Wa 0), .int x2]) below meth c H locs 0 0 (MQ below (va_Qi (fun r2 (_ : Unit) => r2 = r) (fun _ t => POST g A (cl_X9 g a_T (a_W 0) u_T ++ (cl_X10 g a_Wa (a_B 0) p_Wa_16 u_Wa ++ (cl_X10 g a_W (a_B 0) (a_N 0) zu_W ++ (cl_X0 g a_B (a_L 0) u_B ++ (cl_X5 g a_L u_L zv_L ++ (cl_N g a_N zv_N ++ X)))))) t) A) (List.toArray [.ref (a_T 0), .ref (a_Wa 0), .int x2]) s 0 0 A) (F0 m 20 ls [])), ∀ {u_W : S32} {v_L : S64} {v_N : S64} {w2 : Int32} {w3 : Int32} {w4 : Int32} {t0 : Int32} {H : Heap} {locs : List Loc} {ls : Array Slot}, f_X9_roundOfMost_J61 fu u_T u_Wa u_B u_L K20 u_W v_L v_N w2 w3 w4 t0 = some (r, zu_W, zv_L, zv_N) → WD g A s.heap (cl_X9 g a_T (a_W 0) u_T ++ (cl_X10 g a_Wa (a_B 0) p_Wa_16 u_Wa ++ (cl_X10 g a_W (a_B 0) (a_N 0) u_W ++ (cl_X0 g a_B (a_L 0) u_B ++ (cl_X5 g a_L u_L v_L ++ (cl_N g a_N v_N ++ X)))))) H locs → lv_has ls 6 [(0, .ref (a_T 0)), (1, .ref (a_Wa 0)), (2, .int w2), (3, .int w3), (4, .int w4)] → W p l e (rmH 6) s m (List.toArray [.ref (a_T 0), .ref (a_Wa 0), .int x2]) below meth c H locs 0 0 (MQ below (va_Qi (fun r2 (_ : Unit) => r2 = r) (fun _ t => POST g A (cl_X9 g a_T (a_W 0) u_T ++ (cl_X10 g a_Wa (a_B 0) p_Wa_16 u_Wa ++ (cl_X10 g a_W (a_B 0) (a_N 0) zu_W ++ (cl_X0 g a_B (a_L 0) u_B ++ (cl_X5 g a_L u_L zv_L ++ (cl_N g a_N zv_N ++ X)))))) t) A) (List.toArray [.ref (a_T 0), .ref (a_Wa 0), .int x2]) s 0 0 A) (F0 m 61 ls [.int t0]) := by
    intro K20 hK20 u_W v_L v_N w2 w3 w4 t0 H locs ls hf hw hl
    unfold f_X9_roundOfMost_J61 at hf
    refine lv_istore (lv' := [(5, .int t0), (0, .ref (a_T 0)), (1, .ref (a_Wa 0)), (2, .int w2), (3, .int w3), (4, .int w4)]) hx hb dX9_roundOfMost_61 hl (by decide) rfl (fun ls hl => ?_)
    refine lv_iload hx hb dX9_roundOfMost_63 (lv_at hl 5 rfl) ?_
    refine lv_iload_n hx hb dX9_roundOfMost_65 rfl (lv_at hl 3 rfl) ?_
    refine lv_icmp_ne (tgt := 77) hx hb dX9_roundOfMost_66 (by decide) (fun h_14 => ?_) (fun h_14 => ?_)
    · replace hf := tx_neg hf h_14
      exact J77 hK20 hf hw (lv_sub hl [1, 2, 3, 4, 5, 0] rfl)
    · replace hf := tx_pos hf h_14
      refine lv_iload_n hx hb dX9_roundOfMost_69 rfl (lv_at hl 3 rfl) ?_
      refine lv_iconst (v := 4) hx hb dX9_roundOfMost_70 (by decide) ?_
      refine lv_icmp_ge (tgt := 77) hx hb dX9_roundOfMost_71 (by decide) (fun h_15 => ?_) (fun h_15 => ?_)
      · replace hf := tx_pos hf h_15
        exact J77 hK20 hf hw (lv_sub hl [1, 2, 3, 4, 5, 0] rfl)
      · replace hf := tx_neg hf h_15
        refine lv_iload hx hb dX9_roundOfMost_74 (lv_at hl 0 rfl) ?_
        obtain ⟨e0, e1, e2, e3⟩ := tx_in4 hf
        rw [← e0, ← e1, ← e2, ← e3]
        exact tx_iret S hr hlk hw dX9_roundOfMost_76
  have J20 : ∀ {K20 : S32 → S64 → S64 → Int32 → Int32 → Int32 → Option (Int32 × S32 × S64 × S64)} (hK20 : ∀ {u_W : S32} {v_L : S64} {v_N : S64} {w2 : Int32} {w3 : Int32} {w4 : Int32} {H : Heap} {locs : List Loc} {ls : Array Slot}, K20 u_W v_L v_N w2 w3 w4 = some (r, zu_W, zv_L, zv_N) → WD g A s.heap (cl_X9 g a_T (a_W 0) u_T ++ (cl_X10 g a_Wa (a_B 0) p_Wa_16 u_Wa ++ (cl_X10 g a_W (a_B 0) (a_N 0) u_W ++ (cl_X0 g a_B (a_L 0) u_B ++ (cl_X5 g a_L u_L v_L ++ (cl_N g a_N v_N ++ X)))))) H locs → lv_has ls 6 [(0, .ref (a_T 0)), (1, .ref (a_Wa 0)), (2, .int w2), (3, .int w3), (4, .int w4)] → W p l e (rmH 6) s m (List.toArray [.ref (a_T 0), .ref (a_Wa 0), .int x2]) below meth c H locs 0 0 (MQ below (va_Qi (fun r2 (_ : Unit) => r2 = r) (fun _ t => POST g A (cl_X9 g a_T (a_W 0) u_T ++ (cl_X10 g a_Wa (a_B 0) p_Wa_16 u_Wa ++ (cl_X10 g a_W (a_B 0) (a_N 0) zu_W ++ (cl_X0 g a_B (a_L 0) u_B ++ (cl_X5 g a_L u_L zv_L ++ (cl_N g a_N zv_N ++ X)))))) t) A) (List.toArray [.ref (a_T 0), .ref (a_Wa 0), .int x2]) s 0 0 A) (F0 m 20 ls [])), ∀ {u_W : S32} {v_L : S64} {v_N : S64} {w2 : Int32} {w3 : Int32} {w4 : Int32} {H : Heap} {locs : List Loc} {ls : Array Slot}, f_X9_roundOfMost_J20 fu u_T u_Wa u_B u_L K20 u_W v_L v_N w2 w3 w4 = some (r, zu_W, zv_L, zv_N) → WD g A s.heap (cl_X9 g a_T (a_W 0) u_T ++ (cl_X10 g a_Wa (a_B 0) p_Wa_16 u_Wa ++ (cl_X10 g a_W (a_B 0) (a_N 0) u_W ++ (cl_X0 g a_B (a_L 0) u_B ++ (cl_X5 g a_L u_L v_L ++ (cl_N g a_N v_N ++ X)))))) H locs → lv_has ls 6 [(0, .ref (a_T 0)), (1, .ref (a_Wa 0)), (2, .int w2), (3, .int w3), (4, .int w4)] → W p l e (rmH 6) s m (List.toArray [.ref (a_T 0), .ref (a_Wa 0), .int x2]) below meth c H locs 0 0 (MQ below (va_Qi (fun r2 (_ : Unit) => r2 = r) (fun _ t => POST g A (cl_X9 g a_T (a_W 0) u_T ++ (cl_X10 g a_Wa (a_B 0) p_Wa_16 u_Wa ++ (cl_X10 g a_W (a_B 0) (a_N 0) zu_W ++ (cl_X0 g a_B (a_L 0) u_B ++ (cl_X5 g a_L u_L zv_L ++ (cl_N g a_N zv_N ++ X)))))) t) A) (List.toArray [.ref (a_T 0), .ref (a_Wa 0), .int x2]) s 0 0 A) (F0 m 20 ls []) := by
    intro K20 hK20 u_W v_L v_N w2 w3 w4 H locs ls hf hw hl
    unfold f_X9_roundOfMost_J20 at hf
    refine lv_iload hx hb dX9_roundOfMost_20 (lv_at hl 4 rfl) ?_
    refine lv_aload_n hx hb dX9_roundOfMost_22 rfl (lv_at hl 1 rfl) ?_
    refine gf_X9_49 S hE hw 2 rfl rfl dX9_roundOfMost_23 ?_
    refine gf_X9_53 S hE hw 26 rfl rfl dX9_roundOfMost_26 ?_
    refine lv_icmp_ge (tgt := 98) hx hb dX9_roundOfMost_29 (by decide) (fun h_5 => ?_) (fun h_5 => ?_)
    · replace hf := tx_pos hf h_5
      refine lv_iload_n hx hb dX9_roundOfMost_98 rfl (lv_at hl 3 rfl) ?_
      obtain ⟨e0, e1, e2, e3⟩ := tx_in4 hf
      rw [← e0, ← e1, ← e2, ← e3]
      exact tx_iret S hr hlk hw dX9_roundOfMost_99
    · replace hf := tx_neg hf h_5
      refine lv_iload hx hb dX9_roundOfMost_32 (lv_at hl 4 rfl) ?_
      refine lv_bipush (v := 6) hx hb dX9_roundOfMost_34 (by decide) ?_
      refine lv_icmp_ge (tgt := 98) hx hb dX9_roundOfMost_36 (by decide) (fun h_6 => ?_) (fun h_6 => ?_)
      · replace hf := tx_pos hf h_6
        refine lv_iload_n hx hb dX9_roundOfMost_98 rfl (lv_at hl 3 rfl) ?_
        obtain ⟨e0, e1, e2, e3⟩ := tx_in4 hf
        rw [← e0, ← e1, ← e2, ← e3]
        exact tx_iret S hr hlk hw dX9_roundOfMost_99
      · replace hf := tx_neg hf h_6
        refine lv_iload hx hb dX9_roundOfMost_39 (lv_at hl 4 rfl) ?_
        refine lv_iconst (v := 4) hx hb dX9_roundOfMost_41 (by decide) ?_
        refine lv_icmp_ge (tgt := 54) hx hb dX9_roundOfMost_42 (by decide) (fun h_7 => ?_) (fun h_7 => ?_)
        · replace hf := tx_pos hf h_7
          refine lv_aload_n hx hb dX9_roundOfMost_54 rfl (lv_at hl 1 rfl) ?_
          refine gf_X9_62 S hE hw 2 rfl rfl dX9_roundOfMost_55 ?_
          refine lv_iload hx hb dX9_roundOfMost_58 (lv_at hl 4 rfl) ?_
          obtain ⟨h_8, hf⟩ := tx_ck_e hf
          refine tx_iald S hE hw 8 rfl h_8 dX9_roundOfMost_60 ?_
          exact J61 hK20 hf hw (lv_sub hl [0, 1, 2, 3, 4] rfl)
        · replace hf := tx_neg hf h_7
          refine lv_aload_n hx hb dX9_roundOfMost_45 rfl (lv_at hl 0 rfl) ?_
          refine lv_iload hx hb dX9_roundOfMost_46 (lv_at hl 4 rfl) ?_
          have hw := hw.u5
          have hw := hw.u5
          have hw := hw.u5
          have hw := hw.u5
          have hw := hw.u4
          obtain ⟨r_10, u_W_11, v_L_12, v_N_13, h_9, hf⟩ := tx_b4_e hf
          refine tx_ci hw (tx_runV S hE hw (c_X9_readerOfMost h_9) lk_X9_59 (q0 := 0) rfl rfl rfl hl.1 (rest := []) rfl (Nat.le_of_ble_eq_true rfl) ⟨by decide, by decide⟩ dX9_roundOfMost_48 ⟨Nat.zero_le _, Nat.zero_le _⟩) (fun H locs hw => ?_)
          refine lv_goto (tgt := 61) hx hb dX9_roundOfMost_51 (by decide) ?_
          have hw := hw.u4
          have hw := hw.u4
          have hw := hw.u4
          have hw := hw.u4
          have hw := hw.u5
          have hw := hw.u5
          exact J61 hK20 hf hw (lv_sub hl [0, 1, 2, 3, 4] rfl)
  have L20 : ∀ (n : Nat), ∀ {u_W : S32} {v_L : S64} {v_N : S64} {w2 : Int32} {w3 : Int32} {w4 : Int32} {H : Heap} {locs : List Loc} {ls : Array Slot}, f_X9_roundOfMost_L20 fu u_T u_Wa u_B u_L n u_W v_L v_N w2 w3 w4 = some (r, zu_W, zv_L, zv_N) → WD g A s.heap (cl_X9 g a_T (a_W 0) u_T ++ (cl_X10 g a_Wa (a_B 0) p_Wa_16 u_Wa ++ (cl_X10 g a_W (a_B 0) (a_N 0) u_W ++ (cl_X0 g a_B (a_L 0) u_B ++ (cl_X5 g a_L u_L v_L ++ (cl_N g a_N v_N ++ X)))))) H locs → lv_has ls 6 [(0, .ref (a_T 0)), (1, .ref (a_Wa 0)), (2, .int w2), (3, .int w3), (4, .int w4)] → W p l e (rmH 6) s m (List.toArray [.ref (a_T 0), .ref (a_Wa 0), .int x2]) below meth c H locs 0 0 (MQ below (va_Qi (fun r2 (_ : Unit) => r2 = r) (fun _ t => POST g A (cl_X9 g a_T (a_W 0) u_T ++ (cl_X10 g a_Wa (a_B 0) p_Wa_16 u_Wa ++ (cl_X10 g a_W (a_B 0) (a_N 0) zu_W ++ (cl_X0 g a_B (a_L 0) u_B ++ (cl_X5 g a_L u_L zv_L ++ (cl_N g a_N zv_N ++ X)))))) t) A) (List.toArray [.ref (a_T 0), .ref (a_Wa 0), .int x2]) s 0 0 A) (F0 m 20 ls []) := by
    intro  n
    induction n with
    | zero => intro u_W v_L v_N w2 w3 w4 H locs ls hf; exact absurd hf (by intro q; cases q)
    | succ n ih => exact fun hf hw hl => J20 ih hf hw hl
  unfold f_X9_roundOfMost at hf
  refine lv_aload_n hx hb dX9_roundOfMost_0 rfl (lv_at hl 0 rfl) ?_
  refine gf_X9_20 S hE hw 0 rfl rfl dX9_roundOfMost_1 ?_
  refine lv_aload_n hx hb dX9_roundOfMost_4 rfl (lv_at hl 1 rfl) ?_
  have hw := hw.u1
  have hw := hw.u2
  obtain ⟨u_W_2, h_1, hf⟩ := tx_b1_e hf
  refine tx_cv hw (tx_runN S hE hw (c_X10_copy h_1) lk_X9_24 (q0 := 0) rfl rfl rfl hl.1 (rest := []) rfl (Nat.le_of_ble_eq_true rfl) ⟨by decide, by decide⟩ dX9_roundOfMost_5 ⟨Nat.zero_le _, Nat.zero_le _⟩) (fun H locs hw => ?_)
  refine lv_aload_n hx hb dX9_roundOfMost_8 rfl (lv_at hl 0 rfl) ?_
  refine gf_X9_20 S hE hw 24 rfl rfl dX9_roundOfMost_9 ?_
  have hw := hw.u3
  have hw := hw.u1
  obtain ⟨u_W_4, h_3, hf⟩ := tx_b1_e hf
  refine tx_cv hw (tx_runN S hE hw (c_X10_think h_3) lk_X9_46 (q0 := 0) rfl rfl rfl hl.1 (rest := []) rfl (Nat.le_of_ble_eq_true rfl) ⟨by decide, by decide⟩ dX9_roundOfMost_12 ⟨Nat.zero_le _, Nat.zero_le _⟩) (fun H locs hw => ?_)
  refine lv_iconst (v := 0) hx hb dX9_roundOfMost_15 (by decide) ?_
  refine lv_istore_n (lv' := [(3, .int (0 : Int32)), (0, .ref (a_T 0)), (1, .ref (a_Wa 0)), (2, .int x2)]) hx hb dX9_roundOfMost_16 rfl hl (by decide) rfl (fun ls hl => ?_)
  refine lv_iconst (v := 0) hx hb dX9_roundOfMost_17 (by decide) ?_
  refine lv_istore (lv' := [(4, .int (0 : Int32)), (3, .int (0 : Int32)), (0, .ref (a_T 0)), (1, .ref (a_Wa 0)), (2, .int x2)]) hx hb dX9_roundOfMost_18 hl (by decide) rfl (fun ls hl => ?_)
  have hw := hw.u5
  have hw := hw.u5
  have hw := hw.u3
  have hw := hw.u3
  have hw := hw.u4
  have hw := hw.u5
  exact L20 fu hf hw (lv_sub hl [2, 3, 4, 1, 0] rfl)
def f_X11_bestRound_J40 (fu : Nat) (u_T : S32) (u_B : S32) (u_Y : S32) (u_W : S32) (u_L : S32) (p_W2_0 : Nat) (pa_B : Nat) (u_W2 : S32) (v_L : S64) (v_N : S64) (w1 : Int32) : Option (Int32 × S32 × S64 × S64 × Nat) := tx_b4 (f_X9_roundOfMost fu u_Y u_W u_B u_L u_W2 v_L v_N w1) fun (r_7 : Int32) (u_W2_8 : S32) (v_L_9 : S64) (v_N_10 : S64) => some (r_7, u_W2_8, v_L_9, v_N_10, pa_B)
def f_X11_bestRound (fu : Nat) (u_T : S32) (u_B : S32) (u_Y : S32) (u_W : S32) (u_L : S32) (p_W2_0 : Nat) (pa_B : Nat) (u_W2 : S32) (v_L : S64) (v_N : S64) (x1 : Int32) : Option (Int32 × S32 × S64 × S64 × Nat) := if x1 < (0 : Int32) then (some ((-1 : Int32), u_W2, v_L, v_N, p_W2_0)) else (if (4 : Int32) < x1 then (some ((-1 : Int32), u_W2, v_L, v_N, p_W2_0)) else (if (u_B 0 10) = (0 : Int32) then (some ((-1 : Int32), u_W2, v_L, v_N, p_W2_0)) else (if (4 : Int32) ≤ x1 then (f_X11_bestRound_J40 fu u_T u_B u_Y u_W u_L p_W2_0 pa_B u_W2 v_L v_N x1) else (if x1 < (u_B 0 1) then (f_X11_bestRound_J40 fu u_T u_B u_Y u_W u_L p_W2_0 pa_B u_W2 v_L v_N x1) else (some ((-2 : Int32), u_W2, v_L, v_N, p_W2_0))))))
set_option maxHeartbeats 4000000 in
set_option maxRecDepth 100000 in
theorem c_X11_bestRound {l : Launch} {g : GG} {A : Nat → Prop} {X : va_W} {fu : Nat} {a_T a_B a_Y a_W a_W2 a_L a_N : Nat → Nat} {p_T_0 p_T_2 p_T_3 p_T_5 p_T_7 p_T_8 p_T_9 p_W_16 p_W2_0 : Nat} {u_T : S32} {u_B : S32} {u_Y : S32} {u_W : S32} {u_W2 : S32} {u_L : S32} {v_L : S64} {v_N : S64} {x1 : Int32} {r : Int32} {zu_W2 : S32} {zv_L : S64} {zv_N : S64} {zq_W2_0 : Nat} (hf : f_X11_bestRound fu u_T u_B u_Y u_W u_L p_W2_0 (a_B 0) u_W2 v_L v_N x1 = some (r, zu_W2, zv_L, zv_N, zq_W2_0)) : MI l yX11_bestRound cX11_bestRound 2 (some .int) 7 g A (cl_X11 g a_T p_T_0 (a_B 0) p_T_2 p_T_3 (a_W 0) p_T_5 (a_Y 0) p_T_7 p_T_8 p_T_9 u_T ++ (cl_X0 g a_B (a_L 0) u_B ++ (cl_X9 g a_Y (a_W2 0) u_Y ++ (cl_X10 g a_W (a_B 0) p_W_16 u_W ++ (cl_X10 g a_W2 p_W2_0 (a_N 0) u_W2 ++ (cl_X5 g a_L u_L v_L ++ (cl_N g a_N v_N ++ X))))))) [.ref (a_T 0), .int x1] r (cl_X11 g a_T p_T_0 (a_B 0) p_T_2 p_T_3 (a_W 0) p_T_5 (a_Y 0) p_T_7 p_T_8 p_T_9 u_T ++ (cl_X0 g a_B (a_L 0) u_B ++ (cl_X9 g a_Y (a_W2 0) u_Y ++ (cl_X10 g a_W (a_B 0) p_W_16 u_W ++ (cl_X10 g a_W2 zq_W2_0 (a_N 0) zu_W2 ++ (cl_X5 g a_L u_L zv_L ++ (cl_N g a_N zv_N ++ X))))))) := by
  refine tx_start (av := [.ref (a_T 0), .int x1]) (by decide) (Nat.le_of_ble_eq_true rfl) ?_
  intro p e s m below meth c ls S hr hlk hE hw hl
  have S : CallFix p m c cX11_bestRound 2 s (List.toArray [.ref (a_T 0), .int x1]) (Cond.code yX11_bestRound cX11_bestRound 2 (some .int) :: allW) RX11 := S
  have hx := S.1
  have hb := S.2.1
  have hown := S.2.2.2.1
  have hts : ∀ w ∈ allW, w.before (List.toArray [.ref (a_T 0), .int x1]) s = true := fun w h => S.2.2.2.2 w (List.mem_cons_of_mem _ h)
  have hl : lv_has ls 2 [(0, .ref (a_T 0)), (1, .int x1)] := hl
  have J40 : ∀ {u_W2 : S32} {v_L : S64} {v_N : S64} {w1 : Int32} {H : Heap} {locs : List Loc} {ls : Array Slot}, f_X11_bestRound_J40 fu u_T u_B u_Y u_W u_L p_W2_0 (a_B 0) u_W2 v_L v_N w1 = some (r, zu_W2, zv_L, zv_N, zq_W2_0) → WD g A s.heap (cl_X11 g a_T p_T_0 (a_B 0) p_T_2 p_T_3 (a_W 0) p_T_5 (a_Y 0) p_T_7 p_T_8 p_T_9 u_T ++ (cl_X0 g a_B (a_L 0) u_B ++ (cl_X9 g a_Y (a_W2 0) u_Y ++ (cl_X10 g a_W (a_B 0) p_W_16 u_W ++ (cl_X10 g a_W2 p_W2_0 (a_N 0) u_W2 ++ (cl_X5 g a_L u_L v_L ++ (cl_N g a_N v_N ++ X))))))) H locs → lv_has ls 2 [(0, .ref (a_T 0)), (1, .int w1)] → W p l e (rmH 7) s m (List.toArray [.ref (a_T 0), .int x1]) below meth c H locs 0 0 (MQ below (va_Qi (fun r2 (_ : Unit) => r2 = r) (fun _ t => POST g A (cl_X11 g a_T p_T_0 (a_B 0) p_T_2 p_T_3 (a_W 0) p_T_5 (a_Y 0) p_T_7 p_T_8 p_T_9 u_T ++ (cl_X0 g a_B (a_L 0) u_B ++ (cl_X9 g a_Y (a_W2 0) u_Y ++ (cl_X10 g a_W (a_B 0) p_W_16 u_W ++ (cl_X10 g a_W2 zq_W2_0 (a_N 0) zu_W2 ++ (cl_X5 g a_L u_L zv_L ++ (cl_N g a_N zv_N ++ X))))))) t) A) (List.toArray [.ref (a_T 0), .int x1]) s 0 0 A) (F0 m 40 ls []) := by
    intro u_W2 v_L v_N w1 H locs ls hf hw hl
    unfold f_X11_bestRound_J40 at hf
    refine lv_aload_n hx hb dX11_bestRound_40 rfl (lv_at hl 0 rfl) ?_
    refine gf_X11_52 S hE hw 0 rfl rfl dX11_bestRound_41 ?_
    refine lv_aload_n hx hb dX11_bestRound_44 rfl (lv_at hl 0 rfl) ?_
    refine gf_X11_42 S hE hw 0 rfl rfl dX11_bestRound_45 ?_
    refine lv_iload_n hx hb dX11_bestRound_48 rfl (lv_at hl 1 rfl) ?_
    have hw := hw.u6
    have hw := hw.u6
    have hw := hw.u3
    have hw := hw.u6
    have hw := hw.u6
    have hw := hw.u6
    obtain ⟨r_7, u_W2_8, v_L_9, v_N_10, h_6, hf⟩ := tx_b4_e hf
    refine tx_ci hw (tx_runN S hE hw (c_X9_roundOfMost h_6) lk_X11_238 (q0 := 0) rfl rfl rfl hl.1 (rest := []) rfl (Nat.le_of_ble_eq_true rfl) ⟨by decide, by decide⟩ dX11_bestRound_49 ⟨Nat.zero_le _, Nat.zero_le _⟩) (fun H locs hw => ?_)
    have hw := hw.u5
    have hw := hw.u5
    have hw := hw.u4
    have hw := hw.u4
    have hw := hw.u4
    have hw := hw.u5
    have hw := hw.u6
    obtain ⟨e0, e1, e2, e3, e4⟩ := tx_in5 hf
    rw [← e0, ← e1, ← e2, ← e3, ← e4]
    exact tx_iret S hr hlk hw dX11_bestRound_52
  unfold f_X11_bestRound at hf
  refine lv_iload_n hx hb dX11_bestRound_0 rfl (lv_at hl 1 rfl) ?_
  refine lv_if_lt (tgt := 19) hx hb dX11_bestRound_1 (by decide) (fun h_1 => ?_) (fun h_1 => ?_)
  · replace hf := tx_pos hf h_1
    refine lv_iconst (v := -1) hx hb dX11_bestRound_19 (by decide) ?_
    obtain ⟨e0, e1, e2, e3, e4⟩ := tx_in5 hf
    rw [← e0, ← e1, ← e2, ← e3, ← e4]
    exact tx_iret S hr hlk hw dX11_bestRound_20
  · replace hf := tx_neg hf h_1
    refine lv_iload_n hx hb dX11_bestRound_4 rfl (lv_at hl 1 rfl) ?_
    refine lv_iconst (v := 4) hx hb dX11_bestRound_5 (by decide) ?_
    refine lv_icmp_gt (tgt := 19) hx hb dX11_bestRound_6 (by decide) (fun h_2 => ?_) (fun h_2 => ?_)
    · replace hf := tx_pos hf h_2
      refine lv_iconst (v := -1) hx hb dX11_bestRound_19 (by decide) ?_
      obtain ⟨e0, e1, e2, e3, e4⟩ := tx_in5 hf
      rw [← e0, ← e1, ← e2, ← e3, ← e4]
      exact tx_iret S hr hlk hw dX11_bestRound_20
    · replace hf := tx_neg hf h_2
      refine lv_aload_n hx hb dX11_bestRound_9 rfl (lv_at hl 0 rfl) ?_
      refine gf_X11_21 S hE hw 0 rfl rfl dX11_bestRound_10 ?_
      refine gf_X11_232 S hE hw 1 rfl rfl dX11_bestRound_13 ?_
      refine lv_if_ne (tgt := 21) hx hb dX11_bestRound_16 (by decide) (fun h_3 => ?_) (fun h_3 => ?_)
      · replace hf := tx_neg hf h_3
        refine lv_iload_n hx hb dX11_bestRound_21 rfl (lv_at hl 1 rfl) ?_
        refine lv_iconst (v := 4) hx hb dX11_bestRound_22 (by decide) ?_
        refine lv_icmp_ge (tgt := 40) hx hb dX11_bestRound_23 (by decide) (fun h_4 => ?_) (fun h_4 => ?_)
        · replace hf := tx_pos hf h_4
          exact J40 hf hw (lv_sub hl [0, 1] rfl)
        · replace hf := tx_neg hf h_4
          refine lv_iload_n hx hb dX11_bestRound_26 rfl (lv_at hl 1 rfl) ?_
          refine lv_aload_n hx hb dX11_bestRound_27 rfl (lv_at hl 0 rfl) ?_
          refine gf_X11_21 S hE hw 0 rfl rfl dX11_bestRound_28 ?_
          refine gf_X11_235 S hE hw 1 rfl rfl dX11_bestRound_31 ?_
          refine lv_icmp_lt (tgt := 40) hx hb dX11_bestRound_34 (by decide) (fun h_5 => ?_) (fun h_5 => ?_)
          · replace hf := tx_pos hf h_5
            exact J40 hf hw (lv_sub hl [0, 1] rfl)
          · replace hf := tx_neg hf h_5
            refine lv_bipush (v := -2) hx hb dX11_bestRound_37 (by decide) ?_
            obtain ⟨e0, e1, e2, e3, e4⟩ := tx_in5 hf
            rw [← e0, ← e1, ← e2, ← e3, ← e4]
            exact tx_iret S hr hlk hw dX11_bestRound_39
      · replace hf := tx_pos hf h_3
        refine lv_iconst (v := -1) hx hb dX11_bestRound_19 (by decide) ?_
        obtain ⟨e0, e1, e2, e3, e4⟩ := tx_in5 hf
        rw [← e0, ← e1, ← e2, ← e3, ← e4]
        exact tx_iret S hr hlk hw dX11_bestRound_20
def f_X10_tax (fu : Nat) (u_T : S32) (u_B : S32) : Option (Int32) := tx_b1 (f_X10_sum_tX10r7 fu u_T u_B) fun (r_2 : Int32) => tx_b1 (f_X10_sum_tX10r8 fu u_T u_B) fun (r_4 : Int32) => some (r_2 + r_4)
set_option maxHeartbeats 4000000 in
set_option maxRecDepth 100000 in
theorem c_X10_tax {l : Launch} {g : GG} {A : Nat → Prop} {X : va_W} {fu : Nat} {a_T a_B : Nat → Nat} {p_T_16 p_B_17 : Nat} {u_T : S32} {u_B : S32} {r : Int32} (hf : f_X10_tax fu u_T u_B = some r) : MI l yX10_tax cX10_tax 1 (some .int) 1 g A (cl_X10 g a_T (a_B 0) p_T_16 u_T ++ (cl_X0 g a_B p_B_17 u_B ++ X)) [.ref (a_T 0)] r (cl_X10 g a_T (a_B 0) p_T_16 u_T ++ (cl_X0 g a_B p_B_17 u_B ++ X)) := by
  refine tx_start (av := [.ref (a_T 0)]) (by decide) (Nat.le_of_ble_eq_true rfl) ?_
  intro p e s m below meth c ls S hr hlk hE hw hl
  have S : CallFix p m c cX10_tax 1 s (List.toArray [.ref (a_T 0)]) (Cond.code yX10_tax cX10_tax 1 (some .int) :: allW) RX10 := S
  have hx := S.1
  have hb := S.2.1
  have hown := S.2.2.2.1
  have hts : ∀ w ∈ allW, w.before (List.toArray [.ref (a_T 0)]) s = true := fun w h => S.2.2.2.2 w (List.mem_cons_of_mem _ h)
  have hl : lv_has ls 1 [(0, .ref (a_T 0))] := hl
  unfold f_X10_tax at hf
  refine lv_aload_n hx hb dX10_tax_0 rfl (lv_at hl 0 rfl) ?_
  refine lv_aload_n hx hb dX10_tax_1 rfl (lv_at hl 0 rfl) ?_
  refine gf_X10_18 S hE hw 0 rfl rfl dX10_tax_2 ?_
  obtain ⟨r_2, h_1, hf⟩ := tx_b1_e hf
  refine tx_ci hw (tx_runV S hE hw (c_X10_sum_tX10r7 h_1) lk_X10_216 (q0 := 0) rfl rfl rfl hl.1 (rest := []) rfl (Nat.le_of_ble_eq_true rfl) ⟨by decide, by decide⟩ dX10_tax_5 ⟨Nat.zero_le _, Nat.zero_le _⟩) (fun H locs hw => ?_)
  refine lv_aload_n hx hb dX10_tax_8 rfl (lv_at hl 0 rfl) ?_
  refine lv_aload_n hx hb dX10_tax_9 rfl (lv_at hl 0 rfl) ?_
  refine gf_X10_21 S hE hw 0 rfl rfl dX10_tax_10 ?_
  obtain ⟨r_4, h_3, hf⟩ := tx_b1_e hf
  refine tx_ci hw (tx_runV S hE hw (c_X10_sum_tX10r8 h_3) lk_X10_216 (q0 := 0) rfl rfl rfl hl.1 (rest := [.int r_2]) rfl (Nat.le_of_ble_eq_true rfl) ⟨by decide, by decide⟩ dX10_tax_13 ⟨Nat.zero_le _, Nat.zero_le _⟩) (fun H locs hw => ?_)
  refine lv_iadd hx hb dX10_tax_16 ?_
  obtain e0 := tx_in1 hf
  rw [← e0]
  exact tx_iret S hr hlk hw dX10_tax_17
def f_X9_holderOfLeast_J100 (fu : Nat) (u_T : S32) (u_Wa : S32) (u_B : S32) (u_L : S32) (p_W_0 : Nat) (pa_B : Nat) (K9 : S32 → S64 → S64 → Nat → Int32 → Int32 → Int32 → Int32 → Int32 → Option (Int32 × S32 × S64 × S64 × Nat)) (u_W : S32) (v_L : S64) (v_N : S64) (w2 : Int32) (w3 : Int32) (w4 : Int32) (w5 : Int32) (w6 : Int32) : Option (Int32 × S32 × S64 × S64 × Nat) := tx_let (w6 + (1 : Int32)) fun (y_22 : Int32) => K9 u_W v_L v_N pa_B w2 w3 w4 w5 y_22
def f_X9_holderOfLeast_J92 (fu : Nat) (u_T : S32) (u_Wa : S32) (u_B : S32) (u_L : S32) (p_W_0 : Nat) (pa_B : Nat) (K9 : S32 → S64 → S64 → Nat → Int32 → Int32 → Int32 → Int32 → Int32 → Option (Int32 × S32 × S64 × S64 × Nat)) (u_W : S32) (v_L : S64) (v_N : S64) (w2 : Int32) (w3 : Int32) (w6 : Int32) (w7 : Int32) : Option (Int32 × S32 × S64 × S64 × Nat) := f_X9_holderOfLeast_J100 fu u_T u_Wa u_B u_L p_W_0 pa_B K9 u_W v_L v_N w2 w3 w6 w7 w6
def f_X9_holderOfLeast_J106 (fu : Nat) (u_T : S32) (u_Wa : S32) (u_B : S32) (u_L : S32) (p_W_0 : Nat) (pa_B : Nat) (u_W : S32) (v_L : S64) (v_N : S64) (q_W_0 : Nat) (w3 : Int32) (w4 : Int32) (w5 : Int32) : Option (Int32 × S32 × S64 × S64 × Nat) := if w3 = (0 : Int32) then (some (w4, u_W, v_L, v_N, q_W_0)) else (some (w5, u_W, v_L, v_N, q_W_0))
def f_X9_holderOfLeast_J9 (fu : Nat) (u_T : S32) (u_Wa : S32) (u_B : S32) (u_L : S32) (p_W_0 : Nat) (pa_B : Nat) (K9 : S32 → S64 → S64 → Nat → Int32 → Int32 → Int32 → Int32 → Int32 → Option (Int32 × S32 × S64 × S64 × Nat)) (u_W : S32) (v_L : S64) (v_N : S64) (q_W_0 : Nat) (w2 : Int32) (w3 : Int32) (w4 : Int32) (w5 : Int32) (w6 : Int32) : Option (Int32 × S32 × S64 × S64 × Nat) := if (u_B 0 1) ≤ w6 then (f_X9_holderOfLeast_J106 fu u_T u_Wa u_B u_L p_W_0 pa_B u_W v_L v_N q_W_0 w3 w4 w5) else (if (6 : Int32) ≤ w6 then (f_X9_holderOfLeast_J106 fu u_T u_Wa u_B u_L p_W_0 pa_B u_W v_L v_N q_W_0 w3 w4 w5) else (tx_b1 (f_X10_isHeld fu u_Wa u_B w2) fun (r_4 : Int32) => if r_4 = (0 : Int32) then (f_X9_holderOfLeast_J106 fu u_T u_Wa u_B u_L p_W_0 pa_B u_W v_L v_N q_W_0 w3 w4 w5) else (tx_b1 (f_X10_copy fu u_Wa u_W) fun (u_W_7 : S32) => tx_ck w2 12 <| tx_let (up2 u_W_7 12 w2.toNatClampNeg w6) fun (u_W_9 : S32) => tx_b3 (f_X10_goWeeks fu u_B u_L u_W_9 v_L v_N (12 : Int32) (0 : Int32)) fun (u_W_11 : S32) (v_L_12 : S64) (v_N_13 : S64) => tx_b1 (f_X10_tax fu u_W_11 u_B) fun (r_15 : Int32) => tx_b1 (f_X10_tax fu u_Wa u_B) fun (r_17 : Int32) => tx_let (r_15 - r_17) fun (y_18 : Int32) => if w4 = (-1 : Int32) then (f_X9_holderOfLeast_J92 fu u_T u_Wa u_B u_L p_W_0 pa_B K9 u_W_11 v_L_12 v_N_13 w2 w3 w6 y_18) else (if w5 ≤ y_18 then (f_X9_holderOfLeast_J100 fu u_T u_Wa u_B u_L p_W_0 pa_B K9 u_W_11 v_L_12 v_N_13 w2 w3 w4 w5 w6) else (f_X9_holderOfLeast_J92 fu u_T u_Wa u_B u_L p_W_0 pa_B K9 u_W_11 v_L_12 v_N_13 w2 w3 w6 y_18)))))
def f_X9_holderOfLeast_L9 (fu : Nat) (u_T : S32) (u_Wa : S32) (u_B : S32) (u_L : S32) (p_W_0 : Nat) (pa_B : Nat) : Nat → S32 → S64 → S64 → Nat → Int32 → Int32 → Int32 → Int32 → Int32 → Option (Int32 × S32 × S64 × S64 × Nat)
  | 0 => fun _ _ _ _ _ _ _ _ _ => none
  | n + 1 => f_X9_holderOfLeast_J9 fu u_T u_Wa u_B u_L p_W_0 pa_B (f_X9_holderOfLeast_L9 fu u_T u_Wa u_B u_L p_W_0 pa_B n)
def f_X9_holderOfLeast (fu : Nat) (u_T : S32) (u_Wa : S32) (u_B : S32) (u_L : S32) (p_W_0 : Nat) (pa_B : Nat) (u_W : S32) (v_L : S64) (v_N : S64) (x2 : Int32) (x3 : Int32) : Option (Int32 × S32 × S64 × S64 × Nat) := f_X9_holderOfLeast_L9 fu u_T u_Wa u_B u_L p_W_0 pa_B fu u_W v_L v_N p_W_0 x2 x3 (-1 : Int32) (0 : Int32) (0 : Int32)
set_option maxHeartbeats 4000000 in
set_option maxRecDepth 100000 in
theorem c_X9_holderOfLeast {l : Launch} {g : GG} {A : Nat → Prop} {X : va_W} {fu : Nat} {a_T a_Wa a_B a_W a_L a_N : Nat → Nat} {p_Wa_16 p_W_0 : Nat} {u_T : S32} {u_Wa : S32} {u_B : S32} {u_W : S32} {u_L : S32} {v_L : S64} {v_N : S64} {x2 : Int32} {x3 : Int32} {r : Int32} {zu_W : S32} {zv_L : S64} {zv_N : S64} {zq_W_0 : Nat} (hf : f_X9_holderOfLeast fu u_T u_Wa u_B u_L p_W_0 (a_B 0) u_W v_L v_N x2 x3 = some (r, zu_W, zv_L, zv_N, zq_W_0)) : MI l yX9_holderOfLeast cX9_holderOfLeast 8 (some .int) 6 g A (cl_X9 g a_T (a_W 0) u_T ++ (cl_X10 g a_Wa (a_B 0) p_Wa_16 u_Wa ++ (cl_X0 g a_B (a_L 0) u_B ++ (cl_X10 g a_W p_W_0 (a_N 0) u_W ++ (cl_X5 g a_L u_L v_L ++ (cl_N g a_N v_N ++ X)))))) [.ref (a_T 0), .ref (a_Wa 0), .int x2, .int x3] r (cl_X9 g a_T (a_W 0) u_T ++ (cl_X10 g a_Wa (a_B 0) p_Wa_16 u_Wa ++ (cl_X0 g a_B (a_L 0) u_B ++ (cl_X10 g a_W zq_W_0 (a_N 0) zu_W ++ (cl_X5 g a_L u_L zv_L ++ (cl_N g a_N zv_N ++ X)))))) := by
  refine tx_start (av := [.ref (a_T 0), .ref (a_Wa 0), .int x2, .int x3]) (by decide) (Nat.le_of_ble_eq_true rfl) ?_
  intro p e s m below meth c ls S hr hlk hE hw hl
  have S : CallFix p m c cX9_holderOfLeast 8 s (List.toArray [.ref (a_T 0), .ref (a_Wa 0), .int x2, .int x3]) (Cond.code yX9_holderOfLeast cX9_holderOfLeast 8 (some .int) :: allW) RX9 := S
  have hx := S.1
  have hb := S.2.1
  have hown := S.2.2.2.1
  have hts : ∀ w ∈ allW, w.before (List.toArray [.ref (a_T 0), .ref (a_Wa 0), .int x2, .int x3]) s = true := fun w h => S.2.2.2.2 w (List.mem_cons_of_mem _ h)
  have hl : lv_has ls 8 [(0, .ref (a_T 0)), (1, .ref (a_Wa 0)), (2, .int x2), (3, .int x3)] := hl
  have J100 : ∀ {K9 : S32 → S64 → S64 → Nat → Int32 → Int32 → Int32 → Int32 → Int32 → Option (Int32 × S32 × S64 × S64 × Nat)} (hK9 : ∀ {u_W : S32} {v_L : S64} {v_N : S64} {q_W_0 : Nat} {w2 : Int32} {w3 : Int32} {w4 : Int32} {w5 : Int32} {w6 : Int32} {H : Heap} {locs : List Loc} {ls : Array Slot}, K9 u_W v_L v_N q_W_0 w2 w3 w4 w5 w6 = some (r, zu_W, zv_L, zv_N, zq_W_0) → WD g A s.heap (cl_X9 g a_T (a_W 0) u_T ++ (cl_X10 g a_Wa (a_B 0) p_Wa_16 u_Wa ++ (cl_X0 g a_B (a_L 0) u_B ++ (cl_X10 g a_W q_W_0 (a_N 0) u_W ++ (cl_X5 g a_L u_L v_L ++ (cl_N g a_N v_N ++ X)))))) H locs → lv_has ls 8 [(0, .ref (a_T 0)), (1, .ref (a_Wa 0)), (2, .int w2), (3, .int w3), (4, .int w4), (5, .int w5), (6, .int w6)] → W p l e (rmH 6) s m (List.toArray [.ref (a_T 0), .ref (a_Wa 0), .int x2, .int x3]) below meth c H locs 0 0 (MQ below (va_Qi (fun r2 (_ : Unit) => r2 = r) (fun _ t => POST g A (cl_X9 g a_T (a_W 0) u_T ++ (cl_X10 g a_Wa (a_B 0) p_Wa_16 u_Wa ++ (cl_X0 g a_B (a_L 0) u_B ++ (cl_X10 g a_W zq_W_0 (a_N 0) zu_W ++ (cl_X5 g a_L u_L zv_L ++ (cl_N g a_N zv_N ++ X)))))) t) A) (List.toArray [.ref (a_T 0), .ref (a_Wa 0), .int x2, .int x3]) s 0 0 A) (F0 m 9 ls [])), ∀ {u_W : S32} {v_L : S64} {v_N : S64} {w2 : Int32} {w3 : Int32} {w4 : Int32} {w5 : Int32} {w6 : Int32} {H : Heap} {locs : List Loc} {ls : Array Slot}, f_X9_holderOfLeast_J100 fu u_T u_Wa u_B u_L p_W_0 (a_B 0) K9 u_W v_L v_N w2 w3 w4 w5 w6 = some (r, zu_W, zv_L, zv_N, zq_W_0) → WD g A s.heap (cl_X9 g a_T (a_W 0) u_T ++ (cl_X10 g a_Wa (a_B 0) p_Wa_16 u_Wa ++ (cl_X0 g a_B (a_L 0) u_B ++ (cl_X10 g a_W (a_B 0) (a_N 0) u_W ++ (cl_X5 g a_L u_L v_L ++ (cl_N g a_N v_N ++ X)))))) H locs → lv_has ls 8 [(0, .ref (a_T 0)), (1, .ref (a_Wa 0)), (2, .int w2), (3, .int w3), (4, .int w4), (5, .int w5), (6, .int w6)] → W p l e (rmH 6) s m (List.toArray [.ref (a_T 0), .ref (a_Wa 0), .int x2, .int x3]) below meth c H locs 0 0 (MQ below (va_Qi (fun r2 (_ : Unit) => r2 = r) (fun _ t => POST g A (cl_X9 g a_T (a_W 0) u_T ++ (cl_X10 g a_Wa (a_B 0) p_Wa_16 u_Wa ++ (cl_X0 g a_B (a_L 0) u_B ++ (cl_X10 g a_W zq_W_0 (a_N 0) zu_W ++ (cl_X5 g a_L u_L zv_L ++ (cl_N g a_N zv_N ++ X)))))) t) A) (List.toArray [.ref (a_T 0), .ref (a_Wa 0), .int x2, .int x3]) s 0 0 A) (F0 m 100 ls []) := by
    intro K9 hK9 u_W v_L v_N w2 w3 w4 w5 w6 H locs ls hf hw hl
    unfold f_X9_holderOfLeast_J100 at hf
    obtain ⟨y_22, ey_22⟩ : ∃ y : Int32, y = w6 + (1 : Int32) := ⟨_, rfl⟩
    replace hf := tx_let_e hf ey_22
    refine lv_iinc (v := y_22) (lv' := [(6, .int y_22), (0, .ref (a_T 0)), (1, .ref (a_Wa 0)), (2, .int w2), (3, .int w3), (4, .int w4), (5, .int w5)]) hx hb dX9_holderOfLeast_100 hl (k := 6) rfl (by rw [ey_22]; rfl) (by decide) rfl (fun ls hl => ?_)
    refine lv_goto (tgt := 9) hx hb dX9_holderOfLeast_103 (by decide) ?_
    exact hK9 hf hw (lv_sub hl [1, 2, 3, 4, 5, 6, 0] rfl)
  have J92 : ∀ {K9 : S32 → S64 → S64 → Nat → Int32 → Int32 → Int32 → Int32 → Int32 → Option (Int32 × S32 × S64 × S64 × Nat)} (hK9 : ∀ {u_W : S32} {v_L : S64} {v_N : S64} {q_W_0 : Nat} {w2 : Int32} {w3 : Int32} {w4 : Int32} {w5 : Int32} {w6 : Int32} {H : Heap} {locs : List Loc} {ls : Array Slot}, K9 u_W v_L v_N q_W_0 w2 w3 w4 w5 w6 = some (r, zu_W, zv_L, zv_N, zq_W_0) → WD g A s.heap (cl_X9 g a_T (a_W 0) u_T ++ (cl_X10 g a_Wa (a_B 0) p_Wa_16 u_Wa ++ (cl_X0 g a_B (a_L 0) u_B ++ (cl_X10 g a_W q_W_0 (a_N 0) u_W ++ (cl_X5 g a_L u_L v_L ++ (cl_N g a_N v_N ++ X)))))) H locs → lv_has ls 8 [(0, .ref (a_T 0)), (1, .ref (a_Wa 0)), (2, .int w2), (3, .int w3), (4, .int w4), (5, .int w5), (6, .int w6)] → W p l e (rmH 6) s m (List.toArray [.ref (a_T 0), .ref (a_Wa 0), .int x2, .int x3]) below meth c H locs 0 0 (MQ below (va_Qi (fun r2 (_ : Unit) => r2 = r) (fun _ t => POST g A (cl_X9 g a_T (a_W 0) u_T ++ (cl_X10 g a_Wa (a_B 0) p_Wa_16 u_Wa ++ (cl_X0 g a_B (a_L 0) u_B ++ (cl_X10 g a_W zq_W_0 (a_N 0) zu_W ++ (cl_X5 g a_L u_L zv_L ++ (cl_N g a_N zv_N ++ X)))))) t) A) (List.toArray [.ref (a_T 0), .ref (a_Wa 0), .int x2, .int x3]) s 0 0 A) (F0 m 9 ls [])), ∀ {u_W : S32} {v_L : S64} {v_N : S64} {w2 : Int32} {w3 : Int32} {w6 : Int32} {w7 : Int32} {H : Heap} {locs : List Loc} {ls : Array Slot}, f_X9_holderOfLeast_J92 fu u_T u_Wa u_B u_L p_W_0 (a_B 0) K9 u_W v_L v_N w2 w3 w6 w7 = some (r, zu_W, zv_L, zv_N, zq_W_0) → WD g A s.heap (cl_X9 g a_T (a_W 0) u_T ++ (cl_X10 g a_Wa (a_B 0) p_Wa_16 u_Wa ++ (cl_X0 g a_B (a_L 0) u_B ++ (cl_X10 g a_W (a_B 0) (a_N 0) u_W ++ (cl_X5 g a_L u_L v_L ++ (cl_N g a_N v_N ++ X)))))) H locs → lv_has ls 8 [(0, .ref (a_T 0)), (1, .ref (a_Wa 0)), (2, .int w2), (3, .int w3), (6, .int w6), (7, .int w7)] → W p l e (rmH 6) s m (List.toArray [.ref (a_T 0), .ref (a_Wa 0), .int x2, .int x3]) below meth c H locs 0 0 (MQ below (va_Qi (fun r2 (_ : Unit) => r2 = r) (fun _ t => POST g A (cl_X9 g a_T (a_W 0) u_T ++ (cl_X10 g a_Wa (a_B 0) p_Wa_16 u_Wa ++ (cl_X0 g a_B (a_L 0) u_B ++ (cl_X10 g a_W zq_W_0 (a_N 0) zu_W ++ (cl_X5 g a_L u_L zv_L ++ (cl_N g a_N zv_N ++ X)))))) t) A) (List.toArray [.ref (a_T 0), .ref (a_Wa 0), .int x2, .int x3]) s 0 0 A) (F0 m 92 ls []) := by
    intro K9 hK9 u_W v_L v_N w2 w3 w6 w7 H locs ls hf hw hl
    unfold f_X9_holderOfLeast_J92 at hf
    refine lv_iload hx hb dX9_holderOfLeast_92 (lv_at hl 4 rfl) ?_
    refine lv_istore (lv' := [(4, .int w6), (0, .ref (a_T 0)), (1, .ref (a_Wa 0)), (2, .int w2), (3, .int w3), (6, .int w6), (7, .int w7)]) hx hb dX9_holderOfLeast_94 hl (by decide) rfl (fun ls hl => ?_)
    refine lv_iload hx hb dX9_holderOfLeast_96 (lv_at hl 6 rfl) ?_
    refine lv_istore (lv' := [(5, .int w7), (4, .int w6), (0, .ref (a_T 0)), (1, .ref (a_Wa 0)), (2, .int w2), (3, .int w3), (6, .int w6), (7, .int w7)]) hx hb dX9_holderOfLeast_98 hl (by decide) rfl (fun ls hl => ?_)
    exact J100 hK9 hf hw (lv_sub hl [2, 3, 4, 5, 1, 0, 6] rfl)
  have J106 : ∀ {u_W : S32} {v_L : S64} {v_N : S64} {q_W_0 : Nat} {w3 : Int32} {w4 : Int32} {w5 : Int32} {H : Heap} {locs : List Loc} {ls : Array Slot}, f_X9_holderOfLeast_J106 fu u_T u_Wa u_B u_L p_W_0 (a_B 0) u_W v_L v_N q_W_0 w3 w4 w5 = some (r, zu_W, zv_L, zv_N, zq_W_0) → WD g A s.heap (cl_X9 g a_T (a_W 0) u_T ++ (cl_X10 g a_Wa (a_B 0) p_Wa_16 u_Wa ++ (cl_X0 g a_B (a_L 0) u_B ++ (cl_X10 g a_W q_W_0 (a_N 0) u_W ++ (cl_X5 g a_L u_L v_L ++ (cl_N g a_N v_N ++ X)))))) H locs → lv_has ls 8 [(3, .int w3), (4, .int w4), (5, .int w5)] → W p l e (rmH 6) s m (List.toArray [.ref (a_T 0), .ref (a_Wa 0), .int x2, .int x3]) below meth c H locs 0 0 (MQ below (va_Qi (fun r2 (_ : Unit) => r2 = r) (fun _ t => POST g A (cl_X9 g a_T (a_W 0) u_T ++ (cl_X10 g a_Wa (a_B 0) p_Wa_16 u_Wa ++ (cl_X0 g a_B (a_L 0) u_B ++ (cl_X10 g a_W zq_W_0 (a_N 0) zu_W ++ (cl_X5 g a_L u_L zv_L ++ (cl_N g a_N zv_N ++ X)))))) t) A) (List.toArray [.ref (a_T 0), .ref (a_Wa 0), .int x2, .int x3]) s 0 0 A) (F0 m 106 ls []) := by
    intro u_W v_L v_N q_W_0 w3 w4 w5 H locs ls hf hw hl
    unfold f_X9_holderOfLeast_J106 at hf
    refine lv_iload_n hx hb dX9_holderOfLeast_106 rfl (lv_at hl 0 rfl) ?_
    refine lv_if_ne (tgt := 115) hx hb dX9_holderOfLeast_107 (by decide) (fun h_21 => ?_) (fun h_21 => ?_)
    · replace hf := tx_neg hf h_21
      refine lv_iload hx hb dX9_holderOfLeast_115 (lv_at hl 2 rfl) ?_
      obtain ⟨e0, e1, e2, e3, e4⟩ := tx_in5 hf
      rw [← e0, ← e1, ← e2, ← e3, ← e4]
      exact tx_iret S hr hlk hw dX9_holderOfLeast_117
    · replace hf := tx_pos hf h_21
      refine lv_iload hx hb dX9_holderOfLeast_110 (lv_at hl 1 rfl) ?_
      refine lv_goto (tgt := 117) hx hb dX9_holderOfLeast_112 (by decide) ?_
      obtain ⟨e0, e1, e2, e3, e4⟩ := tx_in5 hf
      rw [← e0, ← e1, ← e2, ← e3, ← e4]
      exact tx_iret S hr hlk hw dX9_holderOfLeast_117
  have J9 : ∀ {K9 : S32 → S64 → S64 → Nat → Int32 → Int32 → Int32 → Int32 → Int32 → Option (Int32 × S32 × S64 × S64 × Nat)} (hK9 : ∀ {u_W : S32} {v_L : S64} {v_N : S64} {q_W_0 : Nat} {w2 : Int32} {w3 : Int32} {w4 : Int32} {w5 : Int32} {w6 : Int32} {H : Heap} {locs : List Loc} {ls : Array Slot}, K9 u_W v_L v_N q_W_0 w2 w3 w4 w5 w6 = some (r, zu_W, zv_L, zv_N, zq_W_0) → WD g A s.heap (cl_X9 g a_T (a_W 0) u_T ++ (cl_X10 g a_Wa (a_B 0) p_Wa_16 u_Wa ++ (cl_X0 g a_B (a_L 0) u_B ++ (cl_X10 g a_W q_W_0 (a_N 0) u_W ++ (cl_X5 g a_L u_L v_L ++ (cl_N g a_N v_N ++ X)))))) H locs → lv_has ls 8 [(0, .ref (a_T 0)), (1, .ref (a_Wa 0)), (2, .int w2), (3, .int w3), (4, .int w4), (5, .int w5), (6, .int w6)] → W p l e (rmH 6) s m (List.toArray [.ref (a_T 0), .ref (a_Wa 0), .int x2, .int x3]) below meth c H locs 0 0 (MQ below (va_Qi (fun r2 (_ : Unit) => r2 = r) (fun _ t => POST g A (cl_X9 g a_T (a_W 0) u_T ++ (cl_X10 g a_Wa (a_B 0) p_Wa_16 u_Wa ++ (cl_X0 g a_B (a_L 0) u_B ++ (cl_X10 g a_W zq_W_0 (a_N 0) zu_W ++ (cl_X5 g a_L u_L zv_L ++ (cl_N g a_N zv_N ++ X)))))) t) A) (List.toArray [.ref (a_T 0), .ref (a_Wa 0), .int x2, .int x3]) s 0 0 A) (F0 m 9 ls [])), ∀ {u_W : S32} {v_L : S64} {v_N : S64} {q_W_0 : Nat} {w2 : Int32} {w3 : Int32} {w4 : Int32} {w5 : Int32} {w6 : Int32} {H : Heap} {locs : List Loc} {ls : Array Slot}, f_X9_holderOfLeast_J9 fu u_T u_Wa u_B u_L p_W_0 (a_B 0) K9 u_W v_L v_N q_W_0 w2 w3 w4 w5 w6 = some (r, zu_W, zv_L, zv_N, zq_W_0) → WD g A s.heap (cl_X9 g a_T (a_W 0) u_T ++ (cl_X10 g a_Wa (a_B 0) p_Wa_16 u_Wa ++ (cl_X0 g a_B (a_L 0) u_B ++ (cl_X10 g a_W q_W_0 (a_N 0) u_W ++ (cl_X5 g a_L u_L v_L ++ (cl_N g a_N v_N ++ X)))))) H locs → lv_has ls 8 [(0, .ref (a_T 0)), (1, .ref (a_Wa 0)), (2, .int w2), (3, .int w3), (4, .int w4), (5, .int w5), (6, .int w6)] → W p l e (rmH 6) s m (List.toArray [.ref (a_T 0), .ref (a_Wa 0), .int x2, .int x3]) below meth c H locs 0 0 (MQ below (va_Qi (fun r2 (_ : Unit) => r2 = r) (fun _ t => POST g A (cl_X9 g a_T (a_W 0) u_T ++ (cl_X10 g a_Wa (a_B 0) p_Wa_16 u_Wa ++ (cl_X0 g a_B (a_L 0) u_B ++ (cl_X10 g a_W zq_W_0 (a_N 0) zu_W ++ (cl_X5 g a_L u_L zv_L ++ (cl_N g a_N zv_N ++ X)))))) t) A) (List.toArray [.ref (a_T 0), .ref (a_Wa 0), .int x2, .int x3]) s 0 0 A) (F0 m 9 ls []) := by
    intro K9 hK9 u_W v_L v_N q_W_0 w2 w3 w4 w5 w6 H locs ls hf hw hl
    unfold f_X9_holderOfLeast_J9 at hf
    refine lv_iload hx hb dX9_holderOfLeast_9 (lv_at hl 6 rfl) ?_
    refine lv_aload_n hx hb dX9_holderOfLeast_11 rfl (lv_at hl 1 rfl) ?_
    refine gf_X9_49 S hE hw 2 rfl rfl dX9_holderOfLeast_12 ?_
    refine gf_X9_53 S hE hw 14 rfl rfl dX9_holderOfLeast_15 ?_
    refine lv_icmp_ge (tgt := 106) hx hb dX9_holderOfLeast_18 (by decide) (fun h_1 => ?_) (fun h_1 => ?_)
    · replace hf := tx_pos hf h_1
      exact J106 hf hw (lv_sub hl [3, 4, 5] rfl)
    · replace hf := tx_neg hf h_1
      refine lv_iload hx hb dX9_holderOfLeast_21 (lv_at hl 6 rfl) ?_
      refine lv_bipush (v := 6) hx hb dX9_holderOfLeast_23 (by decide) ?_
      refine lv_icmp_ge (tgt := 106) hx hb dX9_holderOfLeast_25 (by decide) (fun h_2 => ?_) (fun h_2 => ?_)
      · replace hf := tx_pos hf h_2
        exact J106 hf hw (lv_sub hl [3, 4, 5] rfl)
      · replace hf := tx_neg hf h_2
        refine lv_aload_n hx hb dX9_holderOfLeast_28 rfl (lv_at hl 1 rfl) ?_
        refine lv_iload_n hx hb dX9_holderOfLeast_29 rfl (lv_at hl 2 rfl) ?_
        have hw := hw.u2
        have hw := hw.u2
        obtain ⟨r_4, h_3, hf⟩ := tx_b1_e hf
        refine tx_ci hw (tx_runN S hE hw (c_X10_isHeld h_3) lk_X9_72 (q0 := 0) rfl rfl rfl hl.1 (rest := []) rfl (Nat.le_of_ble_eq_true rfl) ⟨by decide, by decide⟩ dX9_holderOfLeast_30 ⟨Nat.zero_le _, Nat.zero_le _⟩) (fun H locs hw => ?_)
        refine lv_if_eq (tgt := 106) hx hb dX9_holderOfLeast_33 (by decide) (fun h_5 => ?_) (fun h_5 => ?_)
        · replace hf := tx_pos hf h_5
          have hw := hw.u5
          have hw := hw.u5
          have hw := hw.u5
          have hw := hw.u4
          have hw := hw.u4
          have hw := hw.u5
          exact J106 hf hw (lv_sub hl [3, 4, 5] rfl)
        · replace hf := tx_neg hf h_5
          refine lv_aload_n hx hb dX9_holderOfLeast_36 rfl (lv_at hl 0 rfl) ?_
          refine gf_X9_20 S hE hw 23 rfl rfl dX9_holderOfLeast_37 ?_
          refine lv_aload_n hx hb dX9_holderOfLeast_40 rfl (lv_at hl 1 rfl) ?_
          have hw := hw.u3
          obtain ⟨u_W_7, h_6, hf⟩ := tx_b1_e hf
          refine tx_cv hw (tx_runN S hE hw (c_X10_copy h_6) lk_X9_24 (q0 := 0) rfl rfl rfl hl.1 (rest := []) rfl (Nat.le_of_ble_eq_true rfl) ⟨by decide, by decide⟩ dX9_holderOfLeast_41 ⟨Nat.zero_le _, Nat.zero_le _⟩) (fun H locs hw => ?_)
          refine lv_aload_n hx hb dX9_holderOfLeast_44 rfl (lv_at hl 0 rfl) ?_
          refine gf_X9_20 S hE hw 35 rfl rfl dX9_holderOfLeast_45 ?_
          refine gf_X9_76 S hE hw 0 rfl rfl dX9_holderOfLeast_48 ?_
          refine lv_iload_n hx hb dX9_holderOfLeast_51 rfl (lv_at hl 2 rfl) ?_
          refine lv_iload hx hb dX9_holderOfLeast_52 (lv_at hl 6 rfl) ?_
          obtain ⟨h_8, hf⟩ := tx_ck_e hf
          obtain ⟨u_W_9, eu_W_9⟩ : ∃ z : S32, z = up2 u_W_7 12 w2.toNatClampNeg w6 := ⟨_, rfl⟩
          replace hf := tx_let_e hf eu_W_9
          refine tx_iast (ws' := cl_X10 g a_W (a_B 0) (a_N 0) u_W_9 ++ (cl_X10 g a_Wa (a_B 0) p_Wa_16 u_Wa ++ (cl_X0 g a_B (a_L 0) u_B ++ (cl_X9 g a_T (a_W 0) u_T ++ (cl_X5 g a_L u_L v_L ++ (cl_N g a_N v_N ++ X)))))) S hE hw 8 rfl h_8 (by rw [eu_W_9]; rfl) dX9_holderOfLeast_54 (fun H locs hw => ?_)
          refine lv_aload_n hx hb dX9_holderOfLeast_55 rfl (lv_at hl 0 rfl) ?_
          refine gf_X9_20 S hE hw 35 rfl rfl dX9_holderOfLeast_56 ?_
          refine lv_bipush (v := 12) hx hb dX9_holderOfLeast_59 (by decide) ?_
          refine lv_iconst (v := 0) hx hb dX9_holderOfLeast_61 (by decide) ?_
          have hw := hw.u5
          have hw := hw.u5
          have hw := hw.u4
          have hw := hw.u3
          obtain ⟨u_W_11, v_L_12, v_N_13, h_10, hf⟩ := tx_b3_e hf
          refine tx_cv hw (tx_runN S hE hw (c_X10_goWeeks h_10) lk_X9_28 (q0 := 0) rfl rfl rfl hl.1 (rest := []) rfl (Nat.le_of_ble_eq_true rfl) ⟨by decide, by decide⟩ dX9_holderOfLeast_62 ⟨Nat.zero_le _, Nat.zero_le _⟩) (fun H locs hw => ?_)
          refine lv_aload_n hx hb dX9_holderOfLeast_65 rfl (lv_at hl 0 rfl) ?_
          refine gf_X9_20 S hE hw 42 rfl rfl dX9_holderOfLeast_66 ?_
          obtain ⟨r_15, h_14, hf⟩ := tx_b1_e hf
          refine tx_ci hw (tx_runN S hE hw (c_X10_tax h_14) lk_X9_79 (q0 := 0) rfl rfl rfl hl.1 (rest := []) rfl (Nat.le_of_ble_eq_true rfl) ⟨by decide, by decide⟩ dX9_holderOfLeast_69 ⟨Nat.zero_le _, Nat.zero_le _⟩) (fun H locs hw => ?_)
          refine lv_aload_n hx hb dX9_holderOfLeast_72 rfl (lv_at hl 1 rfl) ?_
          have hw := hw.u1
          have hw := hw.u4
          obtain ⟨r_17, h_16, hf⟩ := tx_b1_e hf
          refine tx_ci hw (tx_runN S hE hw (c_X10_tax h_16) lk_X9_79 (q0 := 0) rfl rfl rfl hl.1 (rest := [.int r_15]) rfl (Nat.le_of_ble_eq_true rfl) ⟨by decide, by decide⟩ dX9_holderOfLeast_73 ⟨Nat.zero_le _, Nat.zero_le _⟩) (fun H locs hw => ?_)
          refine lv_isub hx hb dX9_holderOfLeast_76 ?_
          refine lv_topi (fun y_18 ey_18 => ?_)
          replace hf := tx_let_e hf ey_18
          refine lv_istore (lv' := [(7, .int y_18), (0, .ref (a_T 0)), (1, .ref (a_Wa 0)), (2, .int w2), (3, .int w3), (4, .int w4), (5, .int w5), (6, .int w6)]) hx hb dX9_holderOfLeast_77 hl (by decide) rfl (fun ls hl => ?_)
          refine lv_iload hx hb dX9_holderOfLeast_79 (lv_at hl 5 rfl) ?_
          refine lv_iconst (v := -1) hx hb dX9_holderOfLeast_81 (by decide) ?_
          refine lv_icmp_eq (tgt := 92) hx hb dX9_holderOfLeast_82 (by decide) (fun h_19 => ?_) (fun h_19 => ?_)
          · replace hf := tx_pos hf h_19
            have hw := hw.u4
            have hw := hw.u4
            have hw := hw.u4
            have hw := hw.u4
            have hw := hw.u4
            have hw := hw.u5
            exact J92 hK9 hf hw (lv_sub hl [1, 2, 3, 4, 7, 0] rfl)
          · replace hf := tx_neg hf h_19
            refine lv_iload hx hb dX9_holderOfLeast_85 (lv_at hl 0 rfl) ?_
            refine lv_iload hx hb dX9_holderOfLeast_87 (lv_at hl 6 rfl) ?_
            refine lv_icmp_ge (tgt := 100) hx hb dX9_holderOfLeast_89 (by decide) (fun h_20 => ?_) (fun h_20 => ?_)
            · replace hf := tx_pos hf h_20
              have hw := hw.u4
              have hw := hw.u4
              have hw := hw.u4
              have hw := hw.u4
              have hw := hw.u4
              have hw := hw.u5
              exact J100 hK9 hf hw (lv_sub hl [1, 2, 3, 4, 5, 6, 7] rfl)
            · replace hf := tx_neg hf h_20
              have hw := hw.u4
              have hw := hw.u4
              have hw := hw.u4
              have hw := hw.u4
              have hw := hw.u4
              have hw := hw.u5
              exact J92 hK9 hf hw (lv_sub hl [1, 2, 3, 4, 7, 0] rfl)
  have L9 : ∀ (n : Nat), ∀ {u_W : S32} {v_L : S64} {v_N : S64} {q_W_0 : Nat} {w2 : Int32} {w3 : Int32} {w4 : Int32} {w5 : Int32} {w6 : Int32} {H : Heap} {locs : List Loc} {ls : Array Slot}, f_X9_holderOfLeast_L9 fu u_T u_Wa u_B u_L p_W_0 (a_B 0) n u_W v_L v_N q_W_0 w2 w3 w4 w5 w6 = some (r, zu_W, zv_L, zv_N, zq_W_0) → WD g A s.heap (cl_X9 g a_T (a_W 0) u_T ++ (cl_X10 g a_Wa (a_B 0) p_Wa_16 u_Wa ++ (cl_X0 g a_B (a_L 0) u_B ++ (cl_X10 g a_W q_W_0 (a_N 0) u_W ++ (cl_X5 g a_L u_L v_L ++ (cl_N g a_N v_N ++ X)))))) H locs → lv_has ls 8 [(0, .ref (a_T 0)), (1, .ref (a_Wa 0)), (2, .int w2), (3, .int w3), (4, .int w4), (5, .int w5), (6, .int w6)] → W p l e (rmH 6) s m (List.toArray [.ref (a_T 0), .ref (a_Wa 0), .int x2, .int x3]) below meth c H locs 0 0 (MQ below (va_Qi (fun r2 (_ : Unit) => r2 = r) (fun _ t => POST g A (cl_X9 g a_T (a_W 0) u_T ++ (cl_X10 g a_Wa (a_B 0) p_Wa_16 u_Wa ++ (cl_X0 g a_B (a_L 0) u_B ++ (cl_X10 g a_W zq_W_0 (a_N 0) zu_W ++ (cl_X5 g a_L u_L zv_L ++ (cl_N g a_N zv_N ++ X)))))) t) A) (List.toArray [.ref (a_T 0), .ref (a_Wa 0), .int x2, .int x3]) s 0 0 A) (F0 m 9 ls []) := by
    intro  n
    induction n with
    | zero => intro u_W v_L v_N q_W_0 w2 w3 w4 w5 w6 H locs ls hf; exact absurd hf (by intro q; cases q)
    | succ n ih => exact fun hf hw hl => J9 ih hf hw hl
  unfold f_X9_holderOfLeast at hf
  refine lv_iconst (v := -1) hx hb dX9_holderOfLeast_0 (by decide) ?_
  refine lv_istore (lv' := [(4, .int (-1 : Int32)), (0, .ref (a_T 0)), (1, .ref (a_Wa 0)), (2, .int x2), (3, .int x3)]) hx hb dX9_holderOfLeast_1 hl (by decide) rfl (fun ls hl => ?_)
  refine lv_iconst (v := 0) hx hb dX9_holderOfLeast_3 (by decide) ?_
  refine lv_istore (lv' := [(5, .int (0 : Int32)), (4, .int (-1 : Int32)), (0, .ref (a_T 0)), (1, .ref (a_Wa 0)), (2, .int x2), (3, .int x3)]) hx hb dX9_holderOfLeast_4 hl (by decide) rfl (fun ls hl => ?_)
  refine lv_iconst (v := 0) hx hb dX9_holderOfLeast_6 (by decide) ?_
  refine lv_istore (lv' := [(6, .int (0 : Int32)), (5, .int (0 : Int32)), (4, .int (-1 : Int32)), (0, .ref (a_T 0)), (1, .ref (a_Wa 0)), (2, .int x2), (3, .int x3)]) hx hb dX9_holderOfLeast_7 hl (by decide) rfl (fun ls hl => ?_)
  exact L9 fu hf hw (lv_sub hl [3, 4, 5, 6, 2, 1, 0] rfl)
def f_X11_hideIn (fu : Nat) (u_T : S32) (u_B : S32) (u_W : S32) (u_Y : S32) (u_L : S32) (p_W2_0 : Nat) (pa_B : Nat) (u_W2 : S32) (v_L : S64) (v_N : S64) (x1 : Int32) (x2 : Int32) : Option (Int32 × S32 × S64 × S64 × Nat) := tx_b1 (f_X0_isThought fu u_B x1) fun (r_2 : Int32) => if r_2 = (0 : Int32) then (some ((-1 : Int32), u_W2, v_L, v_N, p_W2_0)) else (if x2 < (0 : Int32) then (some ((-1 : Int32), u_W2, v_L, v_N, p_W2_0)) else (if x2 ≤ (1 : Int32) then (tx_b1 (f_X10_isHeld fu u_W u_B x1) fun (r_7 : Int32) => if r_7 = (0 : Int32) then (some ((-2 : Int32), u_W2, v_L, v_N, p_W2_0)) else (tx_b5 (f_X9_holderOfLeast fu u_Y u_W u_B u_L p_W2_0 pa_B u_W2 v_L v_N x1 x2) fun (r_10 : Int32) (u_W2_11 : S32) (v_L_12 : S64) (v_N_13 : S64) (q_14 : Nat) => some (r_10, u_W2_11, v_L_12, v_N_13, q_14))) else (some ((-1 : Int32), u_W2, v_L, v_N, p_W2_0))))
set_option maxHeartbeats 4000000 in
set_option maxRecDepth 100000 in
theorem c_X11_hideIn {l : Launch} {g : GG} {A : Nat → Prop} {X : va_W} {fu : Nat} {a_T a_B a_W a_Y a_W2 a_L a_N : Nat → Nat} {p_T_0 p_T_2 p_T_3 p_T_5 p_T_7 p_T_8 p_T_9 p_W_16 p_W2_0 : Nat} {u_T : S32} {u_B : S32} {u_W : S32} {u_Y : S32} {u_W2 : S32} {u_L : S32} {v_L : S64} {v_N : S64} {x1 : Int32} {x2 : Int32} {r : Int32} {zu_W2 : S32} {zv_L : S64} {zv_N : S64} {zq_W2_0 : Nat} (hf : f_X11_hideIn fu u_T u_B u_W u_Y u_L p_W2_0 (a_B 0) u_W2 v_L v_N x1 x2 = some (r, zu_W2, zv_L, zv_N, zq_W2_0)) : MI l yX11_hideIn cX11_hideIn 3 (some .int) 7 g A (cl_X11 g a_T p_T_0 (a_B 0) p_T_2 p_T_3 (a_W 0) p_T_5 (a_Y 0) p_T_7 p_T_8 p_T_9 u_T ++ (cl_X0 g a_B (a_L 0) u_B ++ (cl_X10 g a_W (a_B 0) p_W_16 u_W ++ (cl_X9 g a_Y (a_W2 0) u_Y ++ (cl_X10 g a_W2 p_W2_0 (a_N 0) u_W2 ++ (cl_X5 g a_L u_L v_L ++ (cl_N g a_N v_N ++ X))))))) [.ref (a_T 0), .int x1, .int x2] r (cl_X11 g a_T p_T_0 (a_B 0) p_T_2 p_T_3 (a_W 0) p_T_5 (a_Y 0) p_T_7 p_T_8 p_T_9 u_T ++ (cl_X0 g a_B (a_L 0) u_B ++ (cl_X10 g a_W (a_B 0) p_W_16 u_W ++ (cl_X9 g a_Y (a_W2 0) u_Y ++ (cl_X10 g a_W2 zq_W2_0 (a_N 0) zu_W2 ++ (cl_X5 g a_L u_L zv_L ++ (cl_N g a_N zv_N ++ X))))))) := by
  refine tx_start (av := [.ref (a_T 0), .int x1, .int x2]) (by decide) (Nat.le_of_ble_eq_true rfl) ?_
  intro p e s m below meth c ls S hr hlk hE hw hl
  have S : CallFix p m c cX11_hideIn 3 s (List.toArray [.ref (a_T 0), .int x1, .int x2]) (Cond.code yX11_hideIn cX11_hideIn 3 (some .int) :: allW) RX11 := S
  have hx := S.1
  have hb := S.2.1
  have hown := S.2.2.2.1
  have hts : ∀ w ∈ allW, w.before (List.toArray [.ref (a_T 0), .int x1, .int x2]) s = true := fun w h => S.2.2.2.2 w (List.mem_cons_of_mem _ h)
  have hl : lv_has ls 3 [(0, .ref (a_T 0)), (1, .int x1), (2, .int x2)] := hl
  unfold f_X11_hideIn at hf
  refine lv_aload_n hx hb dX11_hideIn_0 rfl (lv_at hl 0 rfl) ?_
  refine gf_X11_21 S hE hw 0 rfl rfl dX11_hideIn_1 ?_
  refine lv_iload_n hx hb dX11_hideIn_4 rfl (lv_at hl 1 rfl) ?_
  have hw := hw.u1
  obtain ⟨r_2, h_1, hf⟩ := tx_b1_e hf
  refine tx_ci hw (tx_runN S hE hw (c_X0_isThought h_1) lk_X11_120 (q0 := 0) rfl rfl rfl hl.1 (rest := []) rfl (Nat.le_of_ble_eq_true rfl) ⟨by decide, by decide⟩ dX11_hideIn_5 ⟨Nat.zero_le _, Nat.zero_le _⟩) (fun H locs hw => ?_)
  refine lv_if_eq (tgt := 20) hx hb dX11_hideIn_8 (by decide) (fun h_3 => ?_) (fun h_3 => ?_)
  · replace hf := tx_pos hf h_3
    refine lv_iconst (v := -1) hx hb dX11_hideIn_20 (by decide) ?_
    have hw := hw.u6
    have hw := hw.u6
    have hw := hw.u6
    have hw := hw.u6
    have hw := hw.u6
    have hw := hw.u5
    have hw := hw.u6
    obtain ⟨e0, e1, e2, e3, e4⟩ := tx_in5 hf
    rw [← e0, ← e1, ← e2, ← e3, ← e4]
    exact tx_iret S hr hlk hw dX11_hideIn_21
  · replace hf := tx_neg hf h_3
    refine lv_iload_n hx hb dX11_hideIn_11 rfl (lv_at hl 2 rfl) ?_
    refine lv_if_lt (tgt := 20) hx hb dX11_hideIn_12 (by decide) (fun h_4 => ?_) (fun h_4 => ?_)
    · replace hf := tx_pos hf h_4
      refine lv_iconst (v := -1) hx hb dX11_hideIn_20 (by decide) ?_
      have hw := hw.u6
      have hw := hw.u6
      have hw := hw.u6
      have hw := hw.u6
      have hw := hw.u6
      have hw := hw.u5
      have hw := hw.u6
      obtain ⟨e0, e1, e2, e3, e4⟩ := tx_in5 hf
      rw [← e0, ← e1, ← e2, ← e3, ← e4]
      exact tx_iret S hr hlk hw dX11_hideIn_21
    · replace hf := tx_neg hf h_4
      refine lv_iload_n hx hb dX11_hideIn_15 rfl (lv_at hl 2 rfl) ?_
      refine lv_iconst (v := 1) hx hb dX11_hideIn_16 (by decide) ?_
      refine lv_icmp_le (tgt := 22) hx hb dX11_hideIn_17 (by decide) (fun h_5 => ?_) (fun h_5 => ?_)
      · replace hf := tx_pos hf h_5
        refine lv_aload_n hx hb dX11_hideIn_22 rfl (lv_at hl 0 rfl) ?_
        refine gf_X11_42 S hE hw 11 rfl rfl dX11_hideIn_23 ?_
        refine lv_iload_n hx hb dX11_hideIn_26 rfl (lv_at hl 1 rfl) ?_
        have hw := hw.u2
        obtain ⟨r_7, h_6, hf⟩ := tx_b1_e hf
        refine tx_ci hw (tx_runN S hE hw (c_X10_isHeld h_6) lk_X11_197 (q0 := 0) rfl rfl rfl hl.1 (rest := []) rfl (Nat.le_of_ble_eq_true rfl) ⟨by decide, by decide⟩ dX11_hideIn_27 ⟨Nat.zero_le _, Nat.zero_le _⟩) (fun H locs hw => ?_)
        refine lv_if_ne (tgt := 36) hx hb dX11_hideIn_30 (by decide) (fun h_8 => ?_) (fun h_8 => ?_)
        · replace hf := tx_neg hf h_8
          refine lv_aload_n hx hb dX11_hideIn_36 rfl (lv_at hl 0 rfl) ?_
          refine gf_X11_52 S hE hw 23 rfl rfl dX11_hideIn_37 ?_
          refine lv_aload_n hx hb dX11_hideIn_40 rfl (lv_at hl 0 rfl) ?_
          refine gf_X11_42 S hE hw 23 rfl rfl dX11_hideIn_41 ?_
          refine lv_iload_n hx hb dX11_hideIn_44 rfl (lv_at hl 1 rfl) ?_
          refine lv_iload_n hx hb dX11_hideIn_45 rfl (lv_at hl 2 rfl) ?_
          have hw := hw.u6
          have hw := hw.u6
          have hw := hw.u6
          have hw := hw.u4
          have hw := hw.u4
          have hw := hw.u6
          obtain ⟨r_10, u_W2_11, v_L_12, v_N_13, q_14, h_9, hf⟩ := tx_b5_e hf
          refine tx_ci hw (tx_runN S hE hw (c_X9_holderOfLeast h_9) lk_X11_242 (q0 := 0) rfl rfl rfl hl.1 (rest := []) rfl (Nat.le_of_ble_eq_true rfl) ⟨by decide, by decide⟩ dX11_hideIn_46 ⟨Nat.zero_le _, Nat.zero_le _⟩) (fun H locs hw => ?_)
          have hw := hw.u5
          have hw := hw.u5
          have hw := hw.u5
          have hw := hw.u3
          have hw := hw.u4
          have hw := hw.u5
          have hw := hw.u6
          obtain ⟨e0, e1, e2, e3, e4⟩ := tx_in5 hf
          rw [← e0, ← e1, ← e2, ← e3, ← e4]
          exact tx_iret S hr hlk hw dX11_hideIn_49
        · replace hf := tx_pos hf h_8
          refine lv_bipush (v := -2) hx hb dX11_hideIn_33 (by decide) ?_
          have hw := hw.u6
          have hw := hw.u6
          have hw := hw.u6
          have hw := hw.u6
          have hw := hw.u4
          have hw := hw.u5
          have hw := hw.u6
          obtain ⟨e0, e1, e2, e3, e4⟩ := tx_in5 hf
          rw [← e0, ← e1, ← e2, ← e3, ← e4]
          exact tx_iret S hr hlk hw dX11_hideIn_35
      · replace hf := tx_neg hf h_5
        refine lv_iconst (v := -1) hx hb dX11_hideIn_20 (by decide) ?_
        have hw := hw.u6
        have hw := hw.u6
        have hw := hw.u6
        have hw := hw.u6
        have hw := hw.u6
        have hw := hw.u5
        have hw := hw.u6
        obtain ⟨e0, e1, e2, e3, e4⟩ := tx_in5 hf
        rw [← e0, ← e1, ← e2, ← e3, ← e4]
        exact tx_iret S hr hlk hw dX11_hideIn_21
def f_X9_rateOfMost_J109 (fu : Nat) (u_T : S32) (u_Wa : S32) (u_B : S32) (u_L : S32) (p_W_0 : Nat) (pa_B : Nat) (u_W : S32) (v_L : S64) (v_N : S64) (q_W_0 : Nat) (w3 : Int32) (w4 : Int32) (w5 : Int32) : Option (Int32 × S32 × S64 × S64 × Nat) := if w3 = (0 : Int32) then (some (w4, u_W, v_L, v_N, q_W_0)) else (some (w5, u_W, v_L, v_N, q_W_0))
def f_X9_rateOfMost_J90 (fu : Nat) (u_T : S32) (u_Wa : S32) (u_B : S32) (u_L : S32) (p_W_0 : Nat) (pa_B : Nat) (K9 : S32 → S64 → S64 → Nat → Int32 → Int32 → Int32 → Int32 → Int32 → Option (Int32 × S32 × S64 × S64 × Nat)) (u_W : S32) (v_L : S64) (v_N : S64) (w2 : Int32) (w3 : Int32) (w4 : Int32) (w5 : Int32) (w6 : Int32) : Option (Int32 × S32 × S64 × S64 × Nat) := if (u_W 0 15) = (0 : Int32) then (f_X9_rateOfMost_J109 fu u_T u_Wa u_B u_L p_W_0 pa_B u_W v_L v_N pa_B w3 w4 w5) else (tx_let (w6 + (1 : Int32)) fun (y_17 : Int32) => K9 u_W v_L v_N pa_B w2 w3 w4 w5 y_17)
def f_X9_rateOfMost_J9 (fu : Nat) (u_T : S32) (u_Wa : S32) (u_B : S32) (u_L : S32) (p_W_0 : Nat) (pa_B : Nat) (K9 : S32 → S64 → S64 → Nat → Int32 → Int32 → Int32 → Int32 → Int32 → Option (Int32 × S32 × S64 × S64 × Nat)) (u_W : S32) (v_L : S64) (v_N : S64) (q_W_0 : Nat) (w2 : Int32) (w3 : Int32) (w4 : Int32) (w5 : Int32) (w6 : Int32) : Option (Int32 × S32 × S64 × S64 × Nat) := if (100 : Int32) < w6 then (f_X9_rateOfMost_J109 fu u_T u_Wa u_B u_L p_W_0 pa_B u_W v_L v_N q_W_0 w3 w4 w5) else (tx_b1 (f_X10_copy fu u_Wa u_W) fun (u_W_3 : S32) => tx_let (up2 u_W_3 0 2 w6) fun (u_W_4 : S32) => tx_let (up2 u_W_4 0 15 (0 : Int32)) fun (u_W_5 : S32) => tx_b3 (f_X10_goWeeks fu u_B u_L u_W_5 v_L v_N w2 (0 : Int32)) fun (u_W_7 : S32) (v_L_8 : S64) (v_N_9 : S64) => tx_b1 (f_X10_sum_tX10r7 fu u_W_7 u_B) fun (r_11 : Int32) => tx_b1 (f_X10_sum_tX10r7 fu u_Wa u_B) fun (r_13 : Int32) => tx_let (r_11 - r_13) fun (y_14 : Int32) => if y_14 ≤ w5 then (f_X9_rateOfMost_J90 fu u_T u_Wa u_B u_L p_W_0 pa_B K9 u_W_7 v_L_8 v_N_9 w2 w3 w4 w5 w6) else (f_X9_rateOfMost_J90 fu u_T u_Wa u_B u_L p_W_0 pa_B K9 u_W_7 v_L_8 v_N_9 w2 w3 w6 y_14 w6))
def f_X9_rateOfMost_L9 (fu : Nat) (u_T : S32) (u_Wa : S32) (u_B : S32) (u_L : S32) (p_W_0 : Nat) (pa_B : Nat) : Nat → S32 → S64 → S64 → Nat → Int32 → Int32 → Int32 → Int32 → Int32 → Option (Int32 × S32 × S64 × S64 × Nat)
  | 0 => fun _ _ _ _ _ _ _ _ _ => none
  | n + 1 => f_X9_rateOfMost_J9 fu u_T u_Wa u_B u_L p_W_0 pa_B (f_X9_rateOfMost_L9 fu u_T u_Wa u_B u_L p_W_0 pa_B n)
def f_X9_rateOfMost (fu : Nat) (u_T : S32) (u_Wa : S32) (u_B : S32) (u_L : S32) (p_W_0 : Nat) (pa_B : Nat) (u_W : S32) (v_L : S64) (v_N : S64) (x2 : Int32) (x3 : Int32) : Option (Int32 × S32 × S64 × S64 × Nat) := f_X9_rateOfMost_L9 fu u_T u_Wa u_B u_L p_W_0 pa_B fu u_W v_L v_N p_W_0 x2 x3 (0 : Int32) (-1 : Int32) (0 : Int32)
set_option maxHeartbeats 4000000 in
set_option maxRecDepth 100000 in
theorem c_X9_rateOfMost {l : Launch} {g : GG} {A : Nat → Prop} {X : va_W} {fu : Nat} {a_T a_Wa a_W a_B a_L a_N : Nat → Nat} {p_Wa_16 p_W_0 : Nat} {u_T : S32} {u_Wa : S32} {u_W : S32} {u_B : S32} {u_L : S32} {v_L : S64} {v_N : S64} {x2 : Int32} {x3 : Int32} {r : Int32} {zu_W : S32} {zv_L : S64} {zv_N : S64} {zq_W_0 : Nat} (hf : f_X9_rateOfMost fu u_T u_Wa u_B u_L p_W_0 (a_B 0) u_W v_L v_N x2 x3 = some (r, zu_W, zv_L, zv_N, zq_W_0)) : MI l yX9_rateOfMost cX9_rateOfMost 8 (some .int) 6 g A (cl_X9 g a_T (a_W 0) u_T ++ (cl_X10 g a_Wa (a_B 0) p_Wa_16 u_Wa ++ (cl_X10 g a_W p_W_0 (a_N 0) u_W ++ (cl_X0 g a_B (a_L 0) u_B ++ (cl_X5 g a_L u_L v_L ++ (cl_N g a_N v_N ++ X)))))) [.ref (a_T 0), .ref (a_Wa 0), .int x2, .int x3] r (cl_X9 g a_T (a_W 0) u_T ++ (cl_X10 g a_Wa (a_B 0) p_Wa_16 u_Wa ++ (cl_X10 g a_W zq_W_0 (a_N 0) zu_W ++ (cl_X0 g a_B (a_L 0) u_B ++ (cl_X5 g a_L u_L zv_L ++ (cl_N g a_N zv_N ++ X)))))) := by
  refine tx_start (av := [.ref (a_T 0), .ref (a_Wa 0), .int x2, .int x3]) (by decide) (Nat.le_of_ble_eq_true rfl) ?_
  intro p e s m below meth c ls S hr hlk hE hw hl
  have S : CallFix p m c cX9_rateOfMost 8 s (List.toArray [.ref (a_T 0), .ref (a_Wa 0), .int x2, .int x3]) (Cond.code yX9_rateOfMost cX9_rateOfMost 8 (some .int) :: allW) RX9 := S
  have hx := S.1
  have hb := S.2.1
  have hown := S.2.2.2.1
  have hts : ∀ w ∈ allW, w.before (List.toArray [.ref (a_T 0), .ref (a_Wa 0), .int x2, .int x3]) s = true := fun w h => S.2.2.2.2 w (List.mem_cons_of_mem _ h)
  have hl : lv_has ls 8 [(0, .ref (a_T 0)), (1, .ref (a_Wa 0)), (2, .int x2), (3, .int x3)] := hl
  have J109 : ∀ {u_W : S32} {v_L : S64} {v_N : S64} {q_W_0 : Nat} {w3 : Int32} {w4 : Int32} {w5 : Int32} {H : Heap} {locs : List Loc} {ls : Array Slot}, f_X9_rateOfMost_J109 fu u_T u_Wa u_B u_L p_W_0 (a_B 0) u_W v_L v_N q_W_0 w3 w4 w5 = some (r, zu_W, zv_L, zv_N, zq_W_0) → WD g A s.heap (cl_X9 g a_T (a_W 0) u_T ++ (cl_X10 g a_Wa (a_B 0) p_Wa_16 u_Wa ++ (cl_X10 g a_W q_W_0 (a_N 0) u_W ++ (cl_X0 g a_B (a_L 0) u_B ++ (cl_X5 g a_L u_L v_L ++ (cl_N g a_N v_N ++ X)))))) H locs → lv_has ls 8 [(3, .int w3), (4, .int w4), (5, .int w5)] → W p l e (rmH 6) s m (List.toArray [.ref (a_T 0), .ref (a_Wa 0), .int x2, .int x3]) below meth c H locs 0 0 (MQ below (va_Qi (fun r2 (_ : Unit) => r2 = r) (fun _ t => POST g A (cl_X9 g a_T (a_W 0) u_T ++ (cl_X10 g a_Wa (a_B 0) p_Wa_16 u_Wa ++ (cl_X10 g a_W zq_W_0 (a_N 0) zu_W ++ (cl_X0 g a_B (a_L 0) u_B ++ (cl_X5 g a_L u_L zv_L ++ (cl_N g a_N zv_N ++ X)))))) t) A) (List.toArray [.ref (a_T 0), .ref (a_Wa 0), .int x2, .int x3]) s 0 0 A) (F0 m 109 ls []) := by
    intro u_W v_L v_N q_W_0 w3 w4 w5 H locs ls hf hw hl
    unfold f_X9_rateOfMost_J109 at hf
    refine lv_iload_n hx hb dX9_rateOfMost_109 rfl (lv_at hl 0 rfl) ?_
    refine lv_if_ne (tgt := 118) hx hb dX9_rateOfMost_110 (by decide) (fun h_18 => ?_) (fun h_18 => ?_)
    · replace hf := tx_neg hf h_18
      refine lv_iload hx hb dX9_rateOfMost_118 (lv_at hl 2 rfl) ?_
      obtain ⟨e0, e1, e2, e3, e4⟩ := tx_in5 hf
      rw [← e0, ← e1, ← e2, ← e3, ← e4]
      exact tx_iret S hr hlk hw dX9_rateOfMost_120
    · replace hf := tx_pos hf h_18
      refine lv_iload hx hb dX9_rateOfMost_113 (lv_at hl 1 rfl) ?_
      refine lv_goto (tgt := 120) hx hb dX9_rateOfMost_115 (by decide) ?_
      obtain ⟨e0, e1, e2, e3, e4⟩ := tx_in5 hf
      rw [← e0, ← e1, ← e2, ← e3, ← e4]
      exact tx_iret S hr hlk hw dX9_rateOfMost_120
  have J90 : ∀ {K9 : S32 → S64 → S64 → Nat → Int32 → Int32 → Int32 → Int32 → Int32 → Option (Int32 × S32 × S64 × S64 × Nat)} (hK9 : ∀ {u_W : S32} {v_L : S64} {v_N : S64} {q_W_0 : Nat} {w2 : Int32} {w3 : Int32} {w4 : Int32} {w5 : Int32} {w6 : Int32} {H : Heap} {locs : List Loc} {ls : Array Slot}, K9 u_W v_L v_N q_W_0 w2 w3 w4 w5 w6 = some (r, zu_W, zv_L, zv_N, zq_W_0) → WD g A s.heap (cl_X9 g a_T (a_W 0) u_T ++ (cl_X10 g a_Wa (a_B 0) p_Wa_16 u_Wa ++ (cl_X10 g a_W q_W_0 (a_N 0) u_W ++ (cl_X0 g a_B (a_L 0) u_B ++ (cl_X5 g a_L u_L v_L ++ (cl_N g a_N v_N ++ X)))))) H locs → lv_has ls 8 [(0, .ref (a_T 0)), (1, .ref (a_Wa 0)), (2, .int w2), (3, .int w3), (4, .int w4), (5, .int w5), (6, .int w6)] → W p l e (rmH 6) s m (List.toArray [.ref (a_T 0), .ref (a_Wa 0), .int x2, .int x3]) below meth c H locs 0 0 (MQ below (va_Qi (fun r2 (_ : Unit) => r2 = r) (fun _ t => POST g A (cl_X9 g a_T (a_W 0) u_T ++ (cl_X10 g a_Wa (a_B 0) p_Wa_16 u_Wa ++ (cl_X10 g a_W zq_W_0 (a_N 0) zu_W ++ (cl_X0 g a_B (a_L 0) u_B ++ (cl_X5 g a_L u_L zv_L ++ (cl_N g a_N zv_N ++ X)))))) t) A) (List.toArray [.ref (a_T 0), .ref (a_Wa 0), .int x2, .int x3]) s 0 0 A) (F0 m 9 ls [])), ∀ {u_W : S32} {v_L : S64} {v_N : S64} {w2 : Int32} {w3 : Int32} {w4 : Int32} {w5 : Int32} {w6 : Int32} {H : Heap} {locs : List Loc} {ls : Array Slot}, f_X9_rateOfMost_J90 fu u_T u_Wa u_B u_L p_W_0 (a_B 0) K9 u_W v_L v_N w2 w3 w4 w5 w6 = some (r, zu_W, zv_L, zv_N, zq_W_0) → WD g A s.heap (cl_X9 g a_T (a_W 0) u_T ++ (cl_X10 g a_Wa (a_B 0) p_Wa_16 u_Wa ++ (cl_X10 g a_W (a_B 0) (a_N 0) u_W ++ (cl_X0 g a_B (a_L 0) u_B ++ (cl_X5 g a_L u_L v_L ++ (cl_N g a_N v_N ++ X)))))) H locs → lv_has ls 8 [(0, .ref (a_T 0)), (1, .ref (a_Wa 0)), (2, .int w2), (3, .int w3), (4, .int w4), (5, .int w5), (6, .int w6)] → W p l e (rmH 6) s m (List.toArray [.ref (a_T 0), .ref (a_Wa 0), .int x2, .int x3]) below meth c H locs 0 0 (MQ below (va_Qi (fun r2 (_ : Unit) => r2 = r) (fun _ t => POST g A (cl_X9 g a_T (a_W 0) u_T ++ (cl_X10 g a_Wa (a_B 0) p_Wa_16 u_Wa ++ (cl_X10 g a_W zq_W_0 (a_N 0) zu_W ++ (cl_X0 g a_B (a_L 0) u_B ++ (cl_X5 g a_L u_L zv_L ++ (cl_N g a_N zv_N ++ X)))))) t) A) (List.toArray [.ref (a_T 0), .ref (a_Wa 0), .int x2, .int x3]) s 0 0 A) (F0 m 90 ls []) := by
    intro K9 hK9 u_W v_L v_N w2 w3 w4 w5 w6 H locs ls hf hw hl
    unfold f_X9_rateOfMost_J90 at hf
    refine lv_aload_n hx hb dX9_rateOfMost_90 rfl (lv_at hl 0 rfl) ?_
    refine gf_X9_20 S hE hw 0 rfl rfl dX9_rateOfMost_91 ?_
    refine gf_X9_86 S hE hw 14 rfl rfl dX9_rateOfMost_94 ?_
    refine lv_if_ne (tgt := 103) hx hb dX9_rateOfMost_97 (by decide) (fun h_16 => ?_) (fun h_16 => ?_)
    · replace hf := tx_neg hf h_16
      obtain ⟨y_17, ey_17⟩ : ∃ y : Int32, y = w6 + (1 : Int32) := ⟨_, rfl⟩
      replace hf := tx_let_e hf ey_17
      refine lv_iinc (v := y_17) (lv' := [(6, .int y_17), (0, .ref (a_T 0)), (1, .ref (a_Wa 0)), (2, .int w2), (3, .int w3), (4, .int w4), (5, .int w5)]) hx hb dX9_rateOfMost_103 hl (k := 6) rfl (by rw [ey_17]; rfl) (by decide) rfl (fun ls hl => ?_)
      refine lv_goto (tgt := 9) hx hb dX9_rateOfMost_106 (by decide) ?_
      exact hK9 hf hw (lv_sub hl [1, 2, 3, 4, 5, 6, 0] rfl)
    · replace hf := tx_pos hf h_16
      refine lv_goto (tgt := 109) hx hb dX9_rateOfMost_100 (by decide) ?_
      exact J109 hf hw (lv_sub hl [3, 4, 5] rfl)
  have J9 : ∀ {K9 : S32 → S64 → S64 → Nat → Int32 → Int32 → Int32 → Int32 → Int32 → Option (Int32 × S32 × S64 × S64 × Nat)} (hK9 : ∀ {u_W : S32} {v_L : S64} {v_N : S64} {q_W_0 : Nat} {w2 : Int32} {w3 : Int32} {w4 : Int32} {w5 : Int32} {w6 : Int32} {H : Heap} {locs : List Loc} {ls : Array Slot}, K9 u_W v_L v_N q_W_0 w2 w3 w4 w5 w6 = some (r, zu_W, zv_L, zv_N, zq_W_0) → WD g A s.heap (cl_X9 g a_T (a_W 0) u_T ++ (cl_X10 g a_Wa (a_B 0) p_Wa_16 u_Wa ++ (cl_X10 g a_W q_W_0 (a_N 0) u_W ++ (cl_X0 g a_B (a_L 0) u_B ++ (cl_X5 g a_L u_L v_L ++ (cl_N g a_N v_N ++ X)))))) H locs → lv_has ls 8 [(0, .ref (a_T 0)), (1, .ref (a_Wa 0)), (2, .int w2), (3, .int w3), (4, .int w4), (5, .int w5), (6, .int w6)] → W p l e (rmH 6) s m (List.toArray [.ref (a_T 0), .ref (a_Wa 0), .int x2, .int x3]) below meth c H locs 0 0 (MQ below (va_Qi (fun r2 (_ : Unit) => r2 = r) (fun _ t => POST g A (cl_X9 g a_T (a_W 0) u_T ++ (cl_X10 g a_Wa (a_B 0) p_Wa_16 u_Wa ++ (cl_X10 g a_W zq_W_0 (a_N 0) zu_W ++ (cl_X0 g a_B (a_L 0) u_B ++ (cl_X5 g a_L u_L zv_L ++ (cl_N g a_N zv_N ++ X)))))) t) A) (List.toArray [.ref (a_T 0), .ref (a_Wa 0), .int x2, .int x3]) s 0 0 A) (F0 m 9 ls [])), ∀ {u_W : S32} {v_L : S64} {v_N : S64} {q_W_0 : Nat} {w2 : Int32} {w3 : Int32} {w4 : Int32} {w5 : Int32} {w6 : Int32} {H : Heap} {locs : List Loc} {ls : Array Slot}, f_X9_rateOfMost_J9 fu u_T u_Wa u_B u_L p_W_0 (a_B 0) K9 u_W v_L v_N q_W_0 w2 w3 w4 w5 w6 = some (r, zu_W, zv_L, zv_N, zq_W_0) → WD g A s.heap (cl_X9 g a_T (a_W 0) u_T ++ (cl_X10 g a_Wa (a_B 0) p_Wa_16 u_Wa ++ (cl_X10 g a_W q_W_0 (a_N 0) u_W ++ (cl_X0 g a_B (a_L 0) u_B ++ (cl_X5 g a_L u_L v_L ++ (cl_N g a_N v_N ++ X)))))) H locs → lv_has ls 8 [(0, .ref (a_T 0)), (1, .ref (a_Wa 0)), (2, .int w2), (3, .int w3), (4, .int w4), (5, .int w5), (6, .int w6)] → W p l e (rmH 6) s m (List.toArray [.ref (a_T 0), .ref (a_Wa 0), .int x2, .int x3]) below meth c H locs 0 0 (MQ below (va_Qi (fun r2 (_ : Unit) => r2 = r) (fun _ t => POST g A (cl_X9 g a_T (a_W 0) u_T ++ (cl_X10 g a_Wa (a_B 0) p_Wa_16 u_Wa ++ (cl_X10 g a_W zq_W_0 (a_N 0) zu_W ++ (cl_X0 g a_B (a_L 0) u_B ++ (cl_X5 g a_L u_L zv_L ++ (cl_N g a_N zv_N ++ X)))))) t) A) (List.toArray [.ref (a_T 0), .ref (a_Wa 0), .int x2, .int x3]) s 0 0 A) (F0 m 9 ls []) := by
    intro K9 hK9 u_W v_L v_N q_W_0 w2 w3 w4 w5 w6 H locs ls hf hw hl
    unfold f_X9_rateOfMost_J9 at hf
    refine lv_iload hx hb dX9_rateOfMost_9 (lv_at hl 6 rfl) ?_
    refine lv_bipush (v := 100) hx hb dX9_rateOfMost_11 (by decide) ?_
    refine lv_icmp_gt (tgt := 109) hx hb dX9_rateOfMost_13 (by decide) (fun h_1 => ?_) (fun h_1 => ?_)
    · replace hf := tx_pos hf h_1
      exact J109 hf hw (lv_sub hl [3, 4, 5] rfl)
    · replace hf := tx_neg hf h_1
      refine lv_aload_n hx hb dX9_rateOfMost_16 rfl (lv_at hl 0 rfl) ?_
      refine gf_X9_20 S hE hw 0 rfl rfl dX9_rateOfMost_17 ?_
      refine lv_aload_n hx hb dX9_rateOfMost_20 rfl (lv_at hl 1 rfl) ?_
      have hw := hw.u1
      have hw := hw.u2
      obtain ⟨u_W_3, h_2, hf⟩ := tx_b1_e hf
      refine tx_cv hw (tx_runN S hE hw (c_X10_copy h_2) lk_X9_24 (q0 := 0) rfl rfl rfl hl.1 (rest := []) rfl (Nat.le_of_ble_eq_true rfl) ⟨by decide, by decide⟩ dX9_rateOfMost_21 ⟨Nat.zero_le _, Nat.zero_le _⟩) (fun H locs hw => ?_)
      refine lv_aload_n hx hb dX9_rateOfMost_24 rfl (lv_at hl 0 rfl) ?_
      refine gf_X9_20 S hE hw 24 rfl rfl dX9_rateOfMost_25 ?_
      refine lv_iload hx hb dX9_rateOfMost_28 (lv_at hl 6 rfl) ?_
      obtain ⟨u_W_4, eu_W_4⟩ : ∃ z : S32, z = up2 u_W_3 0 2 w6 := ⟨_, rfl⟩
      replace hf := tx_let_e hf eu_W_4
      refine pf_X9_83 (ws' := cl_X10 g a_W (a_B 0) (a_N 0) u_W_4 ++ (cl_X10 g a_Wa (a_B 0) p_Wa_16 u_Wa ++ (cl_X9 g a_T (a_W 0) u_T ++ (cl_X0 g a_B (a_L 0) u_B ++ (cl_X5 g a_L u_L v_L ++ (cl_N g a_N v_N ++ X)))))) S hE hw rfl rfl 0 rfl (Nat.le_of_ble_eq_true rfl) (by rw [eu_W_4]; rfl) dX9_rateOfMost_30 (fun H locs hw => ?_)
      refine lv_aload_n hx hb dX9_rateOfMost_33 rfl (lv_at hl 0 rfl) ?_
      refine gf_X9_20 S hE hw 24 rfl rfl dX9_rateOfMost_34 ?_
      refine lv_iconst (v := 0) hx hb dX9_rateOfMost_37 (by decide) ?_
      obtain ⟨u_W_5, eu_W_5⟩ : ∃ z : S32, z = up2 u_W_4 0 15 (0 : Int32) := ⟨_, rfl⟩
      replace hf := tx_let_e hf eu_W_5
      refine pf_X9_86 (ws' := cl_X10 g a_W (a_B 0) (a_N 0) u_W_5 ++ (cl_X10 g a_Wa (a_B 0) p_Wa_16 u_Wa ++ (cl_X9 g a_T (a_W 0) u_T ++ (cl_X0 g a_B (a_L 0) u_B ++ (cl_X5 g a_L u_L v_L ++ (cl_N g a_N v_N ++ X)))))) S hE hw (by decide) (by decide) 0 rfl (Nat.le_of_ble_eq_true rfl) (by rw [eu_W_5]; rfl) dX9_rateOfMost_38 (fun H locs hw => ?_)
      refine lv_aload_n hx hb dX9_rateOfMost_41 rfl (lv_at hl 0 rfl) ?_
      refine gf_X9_20 S hE hw 24 rfl rfl dX9_rateOfMost_42 ?_
      refine lv_iload_n hx hb dX9_rateOfMost_45 rfl (lv_at hl 2 rfl) ?_
      refine lv_iconst (v := 0) hx hb dX9_rateOfMost_46 (by decide) ?_
      have hw := hw.u5
      have hw := hw.u5
      have hw := hw.u5
      have hw := hw.u3
      obtain ⟨u_W_7, v_L_8, v_N_9, h_6, hf⟩ := tx_b3_e hf
      refine tx_cv hw (tx_runN S hE hw (c_X10_goWeeks h_6) lk_X9_28 (q0 := 0) rfl rfl rfl hl.1 (rest := []) rfl (Nat.le_of_ble_eq_true rfl) ⟨by decide, by decide⟩ dX9_rateOfMost_47 ⟨Nat.zero_le _, Nat.zero_le _⟩) (fun H locs hw => ?_)
      refine lv_aload_n hx hb dX9_rateOfMost_50 rfl (lv_at hl 0 rfl) ?_
      refine gf_X9_20 S hE hw 42 rfl rfl dX9_rateOfMost_51 ?_
      refine lv_aload_n hx hb dX9_rateOfMost_54 rfl (lv_at hl 0 rfl) ?_
      refine gf_X9_20 S hE hw 42 rfl rfl dX9_rateOfMost_55 ?_
      refine gf_X9_32 S hE hw 0 rfl rfl dX9_rateOfMost_58 ?_
      obtain ⟨r_11, h_10, hf⟩ := tx_b1_e hf
      refine tx_ci hw (tx_runN S hE hw (c_X10_sum_tX10r7 h_10) lk_X9_35 (q0 := 0) rfl rfl rfl hl.1 (rest := []) rfl (Nat.le_of_ble_eq_true rfl) ⟨by decide, by decide⟩ dX9_rateOfMost_61 ⟨Nat.zero_le _, Nat.zero_le _⟩) (fun H locs hw => ?_)
      refine lv_aload_n hx hb dX9_rateOfMost_64 rfl (lv_at hl 1 rfl) ?_
      refine lv_aload_n hx hb dX9_rateOfMost_65 rfl (lv_at hl 1 rfl) ?_
      refine gf_X9_32 S hE hw 30 rfl rfl dX9_rateOfMost_66 ?_
      have hw := hw.u1
      have hw := hw.u4
      obtain ⟨r_13, h_12, hf⟩ := tx_b1_e hf
      refine tx_ci hw (tx_runN S hE hw (c_X10_sum_tX10r7 h_12) lk_X9_35 (q0 := 0) rfl rfl rfl hl.1 (rest := [.int r_11]) rfl (Nat.le_of_ble_eq_true rfl) ⟨by decide, by decide⟩ dX9_rateOfMost_69 ⟨Nat.zero_le _, Nat.zero_le _⟩) (fun H locs hw => ?_)
      refine lv_isub hx hb dX9_rateOfMost_72 ?_
      refine lv_topi (fun y_14 ey_14 => ?_)
      replace hf := tx_let_e hf ey_14
      refine lv_istore (lv' := [(7, .int y_14), (0, .ref (a_T 0)), (1, .ref (a_Wa 0)), (2, .int w2), (3, .int w3), (4, .int w4), (5, .int w5), (6, .int w6)]) hx hb dX9_rateOfMost_73 hl (by decide) rfl (fun ls hl => ?_)
      refine lv_iload hx hb dX9_rateOfMost_75 (lv_at hl 0 rfl) ?_
      refine lv_iload hx hb dX9_rateOfMost_77 (lv_at hl 6 rfl) ?_
      refine lv_icmp_le (tgt := 90) hx hb dX9_rateOfMost_79 (by decide) (fun h_15 => ?_) (fun h_15 => ?_)
      · replace hf := tx_pos hf h_15
        have hw := hw.u4
        have hw := hw.u4
        have hw := hw.u3
        have hw := hw.u4
        have hw := hw.u4
        have hw := hw.u5
        exact J90 hK9 hf hw (lv_sub hl [1, 2, 3, 4, 5, 6, 7] rfl)
      · replace hf := tx_neg hf h_15
        refine lv_iload hx hb dX9_rateOfMost_82 (lv_at hl 7 rfl) ?_
        refine lv_istore (lv' := [(4, .int w6), (7, .int y_14), (0, .ref (a_T 0)), (1, .ref (a_Wa 0)), (2, .int w2), (3, .int w3), (5, .int w5), (6, .int w6)]) hx hb dX9_rateOfMost_84 hl (by decide) rfl (fun ls hl => ?_)
        refine lv_iload hx hb dX9_rateOfMost_86 (lv_at hl 1 rfl) ?_
        refine lv_istore (lv' := [(5, .int y_14), (4, .int w6), (7, .int y_14), (0, .ref (a_T 0)), (1, .ref (a_Wa 0)), (2, .int w2), (3, .int w3), (6, .int w6)]) hx hb dX9_rateOfMost_88 hl (by decide) rfl (fun ls hl => ?_)
        have hw := hw.u4
        have hw := hw.u4
        have hw := hw.u3
        have hw := hw.u4
        have hw := hw.u4
        have hw := hw.u5
        exact J90 hK9 hf hw (lv_sub hl [3, 4, 5, 6, 1, 0, 7] rfl)
  have L9 : ∀ (n : Nat), ∀ {u_W : S32} {v_L : S64} {v_N : S64} {q_W_0 : Nat} {w2 : Int32} {w3 : Int32} {w4 : Int32} {w5 : Int32} {w6 : Int32} {H : Heap} {locs : List Loc} {ls : Array Slot}, f_X9_rateOfMost_L9 fu u_T u_Wa u_B u_L p_W_0 (a_B 0) n u_W v_L v_N q_W_0 w2 w3 w4 w5 w6 = some (r, zu_W, zv_L, zv_N, zq_W_0) → WD g A s.heap (cl_X9 g a_T (a_W 0) u_T ++ (cl_X10 g a_Wa (a_B 0) p_Wa_16 u_Wa ++ (cl_X10 g a_W q_W_0 (a_N 0) u_W ++ (cl_X0 g a_B (a_L 0) u_B ++ (cl_X5 g a_L u_L v_L ++ (cl_N g a_N v_N ++ X)))))) H locs → lv_has ls 8 [(0, .ref (a_T 0)), (1, .ref (a_Wa 0)), (2, .int w2), (3, .int w3), (4, .int w4), (5, .int w5), (6, .int w6)] → W p l e (rmH 6) s m (List.toArray [.ref (a_T 0), .ref (a_Wa 0), .int x2, .int x3]) below meth c H locs 0 0 (MQ below (va_Qi (fun r2 (_ : Unit) => r2 = r) (fun _ t => POST g A (cl_X9 g a_T (a_W 0) u_T ++ (cl_X10 g a_Wa (a_B 0) p_Wa_16 u_Wa ++ (cl_X10 g a_W zq_W_0 (a_N 0) zu_W ++ (cl_X0 g a_B (a_L 0) u_B ++ (cl_X5 g a_L u_L zv_L ++ (cl_N g a_N zv_N ++ X)))))) t) A) (List.toArray [.ref (a_T 0), .ref (a_Wa 0), .int x2, .int x3]) s 0 0 A) (F0 m 9 ls []) := by
    intro  n
    induction n with
    | zero => intro u_W v_L v_N q_W_0 w2 w3 w4 w5 w6 H locs ls hf; exact absurd hf (by intro q; cases q)
    | succ n ih => exact fun hf hw hl => J9 ih hf hw hl
  unfold f_X9_rateOfMost at hf
  refine lv_iconst (v := 0) hx hb dX9_rateOfMost_0 (by decide) ?_
  refine lv_istore (lv' := [(4, .int (0 : Int32)), (0, .ref (a_T 0)), (1, .ref (a_Wa 0)), (2, .int x2), (3, .int x3)]) hx hb dX9_rateOfMost_1 hl (by decide) rfl (fun ls hl => ?_)
  refine lv_iconst (v := -1) hx hb dX9_rateOfMost_3 (by decide) ?_
  refine lv_istore (lv' := [(5, .int (-1 : Int32)), (4, .int (0 : Int32)), (0, .ref (a_T 0)), (1, .ref (a_Wa 0)), (2, .int x2), (3, .int x3)]) hx hb dX9_rateOfMost_4 hl (by decide) rfl (fun ls hl => ?_)
  refine lv_iconst (v := 0) hx hb dX9_rateOfMost_6 (by decide) ?_
  refine lv_istore (lv' := [(6, .int (0 : Int32)), (5, .int (-1 : Int32)), (4, .int (0 : Int32)), (0, .ref (a_T 0)), (1, .ref (a_Wa 0)), (2, .int x2), (3, .int x3)]) hx hb dX9_rateOfMost_7 hl (by decide) rfl (fun ls hl => ?_)
  exact L9 fu hf hw (lv_sub hl [3, 4, 5, 6, 2, 1, 0] rfl)
def f_X11_bestRate (fu : Nat) (u_T : S32) (u_Y : S32) (u_W : S32) (u_B : S32) (u_L : S32) (p_W2_0 : Nat) (pa_B : Nat) (u_W2 : S32) (v_L : S64) (v_N : S64) (x1 : Int32) (x2 : Int32) : Option (Int32 × S32 × S64 × S64 × Nat) := if x1 < (1 : Int32) then (some ((-1 : Int32), u_W2, v_L, v_N, p_W2_0)) else (if (40 : Int32) < x1 then (some ((-1 : Int32), u_W2, v_L, v_N, p_W2_0)) else (if x2 < (0 : Int32) then (some ((-1 : Int32), u_W2, v_L, v_N, p_W2_0)) else (if x2 ≤ (1 : Int32) then (tx_b5 (f_X9_rateOfMost fu u_Y u_W u_B u_L p_W2_0 pa_B u_W2 v_L v_N x1 x2) fun (r_6 : Int32) (u_W2_7 : S32) (v_L_8 : S64) (v_N_9 : S64) (q_10 : Nat) => some (r_6, u_W2_7, v_L_8, v_N_9, q_10)) else (some ((-1 : Int32), u_W2, v_L, v_N, p_W2_0)))))
set_option maxHeartbeats 4000000 in
set_option maxRecDepth 100000 in
theorem c_X11_bestRate {l : Launch} {g : GG} {A : Nat → Prop} {X : va_W} {fu : Nat} {a_T a_Y a_W a_W2 a_B a_L a_N : Nat → Nat} {p_T_0 p_T_2 p_T_3 p_T_5 p_T_7 p_T_8 p_T_9 p_W_16 p_W2_0 : Nat} {u_T : S32} {u_Y : S32} {u_W : S32} {u_W2 : S32} {u_B : S32} {u_L : S32} {v_L : S64} {v_N : S64} {x1 : Int32} {x2 : Int32} {r : Int32} {zu_W2 : S32} {zv_L : S64} {zv_N : S64} {zq_W2_0 : Nat} (hf : f_X11_bestRate fu u_T u_Y u_W u_B u_L p_W2_0 (a_B 0) u_W2 v_L v_N x1 x2 = some (r, zu_W2, zv_L, zv_N, zq_W2_0)) : MI l yX11_bestRate cX11_bestRate 3 (some .int) 7 g A (cl_X11 g a_T p_T_0 (a_B 0) p_T_2 p_T_3 (a_W 0) p_T_5 (a_Y 0) p_T_7 p_T_8 p_T_9 u_T ++ (cl_X9 g a_Y (a_W2 0) u_Y ++ (cl_X10 g a_W (a_B 0) p_W_16 u_W ++ (cl_X10 g a_W2 p_W2_0 (a_N 0) u_W2 ++ (cl_X0 g a_B (a_L 0) u_B ++ (cl_X5 g a_L u_L v_L ++ (cl_N g a_N v_N ++ X))))))) [.ref (a_T 0), .int x1, .int x2] r (cl_X11 g a_T p_T_0 (a_B 0) p_T_2 p_T_3 (a_W 0) p_T_5 (a_Y 0) p_T_7 p_T_8 p_T_9 u_T ++ (cl_X9 g a_Y (a_W2 0) u_Y ++ (cl_X10 g a_W (a_B 0) p_W_16 u_W ++ (cl_X10 g a_W2 zq_W2_0 (a_N 0) zu_W2 ++ (cl_X0 g a_B (a_L 0) u_B ++ (cl_X5 g a_L u_L zv_L ++ (cl_N g a_N zv_N ++ X))))))) := by
  refine tx_start (av := [.ref (a_T 0), .int x1, .int x2]) (by decide) (Nat.le_of_ble_eq_true rfl) ?_
  intro p e s m below meth c ls S hr hlk hE hw hl
  have S : CallFix p m c cX11_bestRate 3 s (List.toArray [.ref (a_T 0), .int x1, .int x2]) (Cond.code yX11_bestRate cX11_bestRate 3 (some .int) :: allW) RX11 := S
  have hx := S.1
  have hb := S.2.1
  have hown := S.2.2.2.1
  have hts : ∀ w ∈ allW, w.before (List.toArray [.ref (a_T 0), .int x1, .int x2]) s = true := fun w h => S.2.2.2.2 w (List.mem_cons_of_mem _ h)
  have hl : lv_has ls 3 [(0, .ref (a_T 0)), (1, .int x1), (2, .int x2)] := hl
  unfold f_X11_bestRate at hf
  refine lv_iload_n hx hb dX11_bestRate_0 rfl (lv_at hl 1 rfl) ?_
  refine lv_iconst (v := 1) hx hb dX11_bestRate_1 (by decide) ?_
  refine lv_icmp_lt (tgt := 20) hx hb dX11_bestRate_2 (by decide) (fun h_1 => ?_) (fun h_1 => ?_)
  · replace hf := tx_pos hf h_1
    refine lv_iconst (v := -1) hx hb dX11_bestRate_20 (by decide) ?_
    obtain ⟨e0, e1, e2, e3, e4⟩ := tx_in5 hf
    rw [← e0, ← e1, ← e2, ← e3, ← e4]
    exact tx_iret S hr hlk hw dX11_bestRate_21
  · replace hf := tx_neg hf h_1
    refine lv_iload_n hx hb dX11_bestRate_5 rfl (lv_at hl 1 rfl) ?_
    refine lv_bipush (v := 40) hx hb dX11_bestRate_6 (by decide) ?_
    refine lv_icmp_gt (tgt := 20) hx hb dX11_bestRate_8 (by decide) (fun h_2 => ?_) (fun h_2 => ?_)
    · replace hf := tx_pos hf h_2
      refine lv_iconst (v := -1) hx hb dX11_bestRate_20 (by decide) ?_
      obtain ⟨e0, e1, e2, e3, e4⟩ := tx_in5 hf
      rw [← e0, ← e1, ← e2, ← e3, ← e4]
      exact tx_iret S hr hlk hw dX11_bestRate_21
    · replace hf := tx_neg hf h_2
      refine lv_iload_n hx hb dX11_bestRate_11 rfl (lv_at hl 2 rfl) ?_
      refine lv_if_lt (tgt := 20) hx hb dX11_bestRate_12 (by decide) (fun h_3 => ?_) (fun h_3 => ?_)
      · replace hf := tx_pos hf h_3
        refine lv_iconst (v := -1) hx hb dX11_bestRate_20 (by decide) ?_
        obtain ⟨e0, e1, e2, e3, e4⟩ := tx_in5 hf
        rw [← e0, ← e1, ← e2, ← e3, ← e4]
        exact tx_iret S hr hlk hw dX11_bestRate_21
      · replace hf := tx_neg hf h_3
        refine lv_iload_n hx hb dX11_bestRate_15 rfl (lv_at hl 2 rfl) ?_
        refine lv_iconst (v := 1) hx hb dX11_bestRate_16 (by decide) ?_
        refine lv_icmp_le (tgt := 22) hx hb dX11_bestRate_17 (by decide) (fun h_4 => ?_) (fun h_4 => ?_)
        · replace hf := tx_pos hf h_4
          refine lv_aload_n hx hb dX11_bestRate_22 rfl (lv_at hl 0 rfl) ?_
          refine gf_X11_52 S hE hw 0 rfl rfl dX11_bestRate_23 ?_
          refine lv_aload_n hx hb dX11_bestRate_26 rfl (lv_at hl 0 rfl) ?_
          refine gf_X11_42 S hE hw 0 rfl rfl dX11_bestRate_27 ?_
          refine lv_iload_n hx hb dX11_bestRate_30 rfl (lv_at hl 1 rfl) ?_
          refine lv_iload_n hx hb dX11_bestRate_31 rfl (lv_at hl 2 rfl) ?_
          have hw := hw.u6
          have hw := hw.u6
          have hw := hw.u6
          have hw := hw.u6
          have hw := hw.u6
          have hw := hw.u6
          obtain ⟨r_6, u_W2_7, v_L_8, v_N_9, q_10, h_5, hf⟩ := tx_b5_e hf
          refine tx_ci hw (tx_runN S hE hw (c_X9_rateOfMost h_5) lk_X11_245 (q0 := 0) rfl rfl rfl hl.1 (rest := []) rfl (Nat.le_of_ble_eq_true rfl) ⟨by decide, by decide⟩ dX11_bestRate_32 ⟨Nat.zero_le _, Nat.zero_le _⟩) (fun H locs hw => ?_)
          have hw := hw.u5
          have hw := hw.u5
          have hw := hw.u5
          have hw := hw.u5
          have hw := hw.u5
          have hw := hw.u5
          have hw := hw.u6
          obtain ⟨e0, e1, e2, e3, e4⟩ := tx_in5 hf
          rw [← e0, ← e1, ← e2, ← e3, ← e4]
          exact tx_iret S hr hlk hw dX11_bestRate_35
        · replace hf := tx_neg hf h_4
          refine lv_iconst (v := -1) hx hb dX11_bestRate_20 (by decide) ?_
          obtain ⟨e0, e1, e2, e3, e4⟩ := tx_in5 hf
          rw [← e0, ← e1, ← e2, ← e3, ← e4]
          exact tx_iret S hr hlk hw dX11_bestRate_21
