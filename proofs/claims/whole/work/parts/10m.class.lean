def f_X11_tried_J46 (fu : Nat) (u_T : S32) (u_B : S32) (u_Y : S32) (u_W : S32) (u_L : S32) (p_W2_0 : Nat) (pa_B : Nat) (u_W2 : S32) (v_L : S64) (v_N : S64) (w1 : Int32) (w2 : Int32) (w3 : Int32) : Option (Int32 × S32 × S64 × S64 × Nat) := tx_b4 (f_X9_paidIf fu u_Y u_W u_B u_L u_W2 v_L v_N w1 w2 w3) fun (r_11 : Int32) (u_W2_12 : S32) (v_L_13 : S64) (v_N_14 : S64) => some (r_11, u_W2_12, v_L_13, v_N_14, pa_B)
def f_X11_tried (fu : Nat) (u_T : S32) (u_B : S32) (u_Y : S32) (u_W : S32) (u_L : S32) (p_W2_0 : Nat) (pa_B : Nat) (u_W2 : S32) (v_L : S64) (v_N : S64) (x1 : Int32) (x2 : Int32) (x3 : Int32) : Option (Int32 × S32 × S64 × S64 × Nat) := if x1 < (0 : Int32) then (some ((-1 : Int32), u_W2, v_L, v_N, p_W2_0)) else (if (4 : Int32) < x1 then (some ((-1 : Int32), u_W2, v_L, v_N, p_W2_0)) else (if x3 < (0 : Int32) then (some ((-1 : Int32), u_W2, v_L, v_N, p_W2_0)) else (if x3 ≤ (99 : Int32) then (if x1 = (2 : Int32) then (tx_b1 (f_X0_isMan fu u_B x2) fun (r_8 : Int32) => if r_8 = (0 : Int32) then (some ((-1 : Int32), u_W2, v_L, v_N, p_W2_0)) else (f_X11_tried_J46 fu u_T u_B u_Y u_W u_L p_W2_0 pa_B u_W2 v_L v_N x1 x2 x3)) else (if x2 = (0 : Int32) then (f_X11_tried_J46 fu u_T u_B u_Y u_W u_L p_W2_0 pa_B u_W2 v_L v_N x1 x2 x3) else (some ((-1 : Int32), u_W2, v_L, v_N, p_W2_0)))) else (some ((-1 : Int32), u_W2, v_L, v_N, p_W2_0)))))
set_option maxHeartbeats 4000000 in
set_option maxRecDepth 100000 in
theorem c_X11_tried {l : Launch} {g : GG} {A : Nat → Prop} {X : va_W} {fu : Nat} {a_T a_B a_Y a_W a_W2 a_L a_N : Nat → Nat} {p_T_0 p_T_2 p_T_3 p_T_5 p_T_7 p_T_8 p_T_9 p_W_16 p_W2_0 : Nat} {u_T : S32} {u_B : S32} {u_Y : S32} {u_W : S32} {u_W2 : S32} {u_L : S32} {v_L : S64} {v_N : S64} {x1 : Int32} {x2 : Int32} {x3 : Int32} {r : Int32} {zu_W2 : S32} {zv_L : S64} {zv_N : S64} {zq_W2_0 : Nat} (hf : f_X11_tried fu u_T u_B u_Y u_W u_L p_W2_0 (a_B 0) u_W2 v_L v_N x1 x2 x3 = some (r, zu_W2, zv_L, zv_N, zq_W2_0)) : MI l yX11_tried cX11_tried 4 (some .int) 7 g A (cl_X11 g a_T p_T_0 (a_B 0) p_T_2 p_T_3 (a_W 0) p_T_5 (a_Y 0) p_T_7 p_T_8 p_T_9 u_T ++ (cl_X0 g a_B (a_L 0) u_B ++ (cl_X9 g a_Y (a_W2 0) u_Y ++ (cl_X10 g a_W (a_B 0) p_W_16 u_W ++ (cl_X10 g a_W2 p_W2_0 (a_N 0) u_W2 ++ (cl_X5 g a_L u_L v_L ++ (cl_N g a_N v_N ++ X))))))) [.ref (a_T 0), .int x1, .int x2, .int x3] r (cl_X11 g a_T p_T_0 (a_B 0) p_T_2 p_T_3 (a_W 0) p_T_5 (a_Y 0) p_T_7 p_T_8 p_T_9 u_T ++ (cl_X0 g a_B (a_L 0) u_B ++ (cl_X9 g a_Y (a_W2 0) u_Y ++ (cl_X10 g a_W (a_B 0) p_W_16 u_W ++ (cl_X10 g a_W2 zq_W2_0 (a_N 0) zu_W2 ++ (cl_X5 g a_L u_L zv_L ++ (cl_N g a_N zv_N ++ X))))))) := by
  refine tx_start (av := [.ref (a_T 0), .int x1, .int x2, .int x3]) (by decide) (Nat.le_of_ble_eq_true rfl) ?_
  intro p e s m below meth c ls S hr hlk hE hw hl
  have S : CallFix p m c cX11_tried 4 s (List.toArray [.ref (a_T 0), .int x1, .int x2, .int x3]) (Cond.code yX11_tried cX11_tried 4 (some .int) :: allW) RX11 := S
  have hx := S.1
  have hb := S.2.1
  have hown := S.2.2.2.1
  have hts : ∀ w ∈ allW, w.before (List.toArray [.ref (a_T 0), .int x1, .int x2, .int x3]) s = true := fun w h => S.2.2.2.2 w (List.mem_cons_of_mem _ h)
  have hl : lv_has ls 4 [(0, .ref (a_T 0)), (1, .int x1), (2, .int x2), (3, .int x3)] := hl
  have J46 : ∀ {u_W2 : S32} {v_L : S64} {v_N : S64} {w1 : Int32} {w2 : Int32} {w3 : Int32} {H : Heap} {locs : List Loc} {ls : Array Slot}, f_X11_tried_J46 fu u_T u_B u_Y u_W u_L p_W2_0 (a_B 0) u_W2 v_L v_N w1 w2 w3 = some (r, zu_W2, zv_L, zv_N, zq_W2_0) → WD g A s.heap (cl_X11 g a_T p_T_0 (a_B 0) p_T_2 p_T_3 (a_W 0) p_T_5 (a_Y 0) p_T_7 p_T_8 p_T_9 u_T ++ (cl_X0 g a_B (a_L 0) u_B ++ (cl_X9 g a_Y (a_W2 0) u_Y ++ (cl_X10 g a_W (a_B 0) p_W_16 u_W ++ (cl_X10 g a_W2 p_W2_0 (a_N 0) u_W2 ++ (cl_X5 g a_L u_L v_L ++ (cl_N g a_N v_N ++ X))))))) H locs → lv_has ls 4 [(0, .ref (a_T 0)), (1, .int w1), (2, .int w2), (3, .int w3)] → W p l e (rmH 7) s m (List.toArray [.ref (a_T 0), .int x1, .int x2, .int x3]) below meth c H locs 0 0 (MQ below (va_Qi (fun r2 (_ : Unit) => r2 = r) (fun _ t => POST g A (cl_X11 g a_T p_T_0 (a_B 0) p_T_2 p_T_3 (a_W 0) p_T_5 (a_Y 0) p_T_7 p_T_8 p_T_9 u_T ++ (cl_X0 g a_B (a_L 0) u_B ++ (cl_X9 g a_Y (a_W2 0) u_Y ++ (cl_X10 g a_W (a_B 0) p_W_16 u_W ++ (cl_X10 g a_W2 zq_W2_0 (a_N 0) zu_W2 ++ (cl_X5 g a_L u_L zv_L ++ (cl_N g a_N zv_N ++ X))))))) t) A) (List.toArray [.ref (a_T 0), .int x1, .int x2, .int x3]) s 0 0 A) (F0 m 46 ls []) := by
    intro u_W2 v_L v_N w1 w2 w3 H locs ls hf hw hl
    unfold f_X11_tried_J46 at hf
    refine lv_aload_n hx hb dX11_tried_46 rfl (lv_at hl 0 rfl) ?_
    refine gf_X11_52 S hE hw 0 rfl rfl dX11_tried_47 ?_
    refine lv_aload_n hx hb dX11_tried_50 rfl (lv_at hl 0 rfl) ?_
    refine gf_X11_42 S hE hw 0 rfl rfl dX11_tried_51 ?_
    refine lv_iload_n hx hb dX11_tried_54 rfl (lv_at hl 1 rfl) ?_
    refine lv_iload_n hx hb dX11_tried_55 rfl (lv_at hl 2 rfl) ?_
    refine lv_iload_n hx hb dX11_tried_56 rfl (lv_at hl 3 rfl) ?_
    have hw := hw.u6
    have hw := hw.u6
    have hw := hw.u3
    have hw := hw.u6
    have hw := hw.u6
    have hw := hw.u6
    obtain ⟨r_11, u_W2_12, v_L_13, v_N_14, h_10, hf⟩ := tx_b4_e hf
    refine tx_ci hw (tx_runN S hE hw (c_X9_paidIf h_10) lk_X11_325 (q0 := 0) rfl rfl rfl hl.1 (rest := []) rfl (Nat.le_of_ble_eq_true rfl) ⟨by decide, by decide⟩ dX11_tried_57 ⟨Nat.zero_le _, Nat.zero_le _⟩) (fun H locs hw => ?_)
    have hw := hw.u5
    have hw := hw.u5
    have hw := hw.u4
    have hw := hw.u4
    have hw := hw.u4
    have hw := hw.u5
    have hw := hw.u6
    obtain ⟨e0, e1, e2, e3, e4⟩ := tx_in5 hf
    rw [← e0, ← e1, ← e2, ← e3, ← e4]
    exact tx_iret S hr hlk hw dX11_tried_60
  unfold f_X11_tried at hf
  refine lv_iload_n hx hb dX11_tried_0 rfl (lv_at hl 1 rfl) ?_
  refine lv_if_lt (tgt := 19) hx hb dX11_tried_1 (by decide) (fun h_1 => ?_) (fun h_1 => ?_)
  · replace hf := tx_pos hf h_1
    refine lv_iconst (v := -1) hx hb dX11_tried_19 (by decide) ?_
    obtain ⟨e0, e1, e2, e3, e4⟩ := tx_in5 hf
    rw [← e0, ← e1, ← e2, ← e3, ← e4]
    exact tx_iret S hr hlk hw dX11_tried_20
  · replace hf := tx_neg hf h_1
    refine lv_iload_n hx hb dX11_tried_4 rfl (lv_at hl 1 rfl) ?_
    refine lv_iconst (v := 4) hx hb dX11_tried_5 (by decide) ?_
    refine lv_icmp_gt (tgt := 19) hx hb dX11_tried_6 (by decide) (fun h_2 => ?_) (fun h_2 => ?_)
    · replace hf := tx_pos hf h_2
      refine lv_iconst (v := -1) hx hb dX11_tried_19 (by decide) ?_
      obtain ⟨e0, e1, e2, e3, e4⟩ := tx_in5 hf
      rw [← e0, ← e1, ← e2, ← e3, ← e4]
      exact tx_iret S hr hlk hw dX11_tried_20
    · replace hf := tx_neg hf h_2
      refine lv_iload_n hx hb dX11_tried_9 rfl (lv_at hl 3 rfl) ?_
      refine lv_if_lt (tgt := 19) hx hb dX11_tried_10 (by decide) (fun h_3 => ?_) (fun h_3 => ?_)
      · replace hf := tx_pos hf h_3
        refine lv_iconst (v := -1) hx hb dX11_tried_19 (by decide) ?_
        obtain ⟨e0, e1, e2, e3, e4⟩ := tx_in5 hf
        rw [← e0, ← e1, ← e2, ← e3, ← e4]
        exact tx_iret S hr hlk hw dX11_tried_20
      · replace hf := tx_neg hf h_3
        refine lv_iload_n hx hb dX11_tried_13 rfl (lv_at hl 3 rfl) ?_
        refine lv_bipush (v := 99) hx hb dX11_tried_14 (by decide) ?_
        refine lv_icmp_le (tgt := 21) hx hb dX11_tried_16 (by decide) (fun h_4 => ?_) (fun h_4 => ?_)
        · replace hf := tx_pos hf h_4
          refine lv_iload_n hx hb dX11_tried_21 rfl (lv_at hl 1 rfl) ?_
          refine lv_iconst (v := 2) hx hb dX11_tried_22 (by decide) ?_
          refine lv_icmp_ne (tgt := 40) hx hb dX11_tried_23 (by decide) (fun h_5 => ?_) (fun h_5 => ?_)
          · replace hf := tx_neg hf h_5
            refine lv_iload_n hx hb dX11_tried_40 rfl (lv_at hl 2 rfl) ?_
            refine lv_if_eq (tgt := 46) hx hb dX11_tried_41 (by decide) (fun h_6 => ?_) (fun h_6 => ?_)
            · replace hf := tx_pos hf h_6
              exact J46 hf hw (lv_sub hl [0, 1, 2, 3] rfl)
            · replace hf := tx_neg hf h_6
              refine lv_iconst (v := -1) hx hb dX11_tried_44 (by decide) ?_
              obtain ⟨e0, e1, e2, e3, e4⟩ := tx_in5 hf
              rw [← e0, ← e1, ← e2, ← e3, ← e4]
              exact tx_iret S hr hlk hw dX11_tried_45
          · replace hf := tx_pos hf h_5
            refine lv_aload_n hx hb dX11_tried_26 rfl (lv_at hl 0 rfl) ?_
            refine gf_X11_21 S hE hw 0 rfl rfl dX11_tried_27 ?_
            refine lv_iload_n hx hb dX11_tried_30 rfl (lv_at hl 2 rfl) ?_
            have hw := hw.u1
            obtain ⟨r_8, h_7, hf⟩ := tx_b1_e hf
            refine tx_ci hw (tx_runN S hE hw (c_X0_isMan h_7) lk_X11_157 (q0 := 0) rfl rfl rfl hl.1 (rest := []) rfl (Nat.le_of_ble_eq_true rfl) ⟨by decide, by decide⟩ dX11_tried_31 ⟨Nat.zero_le _, Nat.zero_le _⟩) (fun H locs hw => ?_)
            refine lv_if_ne (tgt := 46) hx hb dX11_tried_34 (by decide) (fun h_9 => ?_) (fun h_9 => ?_)
            · replace hf := tx_neg hf h_9
              have hw := hw.u6
              have hw := hw.u6
              have hw := hw.u6
              have hw := hw.u6
              have hw := hw.u6
              have hw := hw.u5
              have hw := hw.u6
              exact J46 hf hw (lv_sub hl [0, 1, 2, 3] rfl)
            · replace hf := tx_pos hf h_9
              refine lv_goto (tgt := 44) hx hb dX11_tried_37 (by decide) ?_
              refine lv_iconst (v := -1) hx hb dX11_tried_44 (by decide) ?_
              have hw := hw.u6
              have hw := hw.u6
              have hw := hw.u6
              have hw := hw.u6
              have hw := hw.u6
              have hw := hw.u5
              have hw := hw.u6
              obtain ⟨e0, e1, e2, e3, e4⟩ := tx_in5 hf
              rw [← e0, ← e1, ← e2, ← e3, ← e4]
              exact tx_iret S hr hlk hw dX11_tried_45
        · replace hf := tx_neg hf h_4
          refine lv_iconst (v := -1) hx hb dX11_tried_19 (by decide) ?_
          obtain ⟨e0, e1, e2, e3, e4⟩ := tx_in5 hf
          rw [← e0, ← e1, ← e2, ← e3, ← e4]
          exact tx_iret S hr hlk hw dX11_tried_20
def f_X1_unhide (fu : Nat) (u_B : S32) (u_Wa : S32) (x1 : Int32) (x2 : Int32) : Option (S32) := tx_b1 (f_X0_isThought fu u_B x1) fun (r_2 : Int32) => if r_2 = (0 : Int32) then (some u_Wa) else (tx_ck x1 12 <| tx_let (up2 u_Wa 12 x1.toNatClampNeg x2) fun (u_Wa_5 : S32) => some u_Wa_5)
set_option maxHeartbeats 4000000 in
set_option maxRecDepth 100000 in
theorem c_X1_unhide {l : Launch} {g : GG} {A : Nat → Prop} {X : va_W} {fu : Nat} {a_Wa a_B : Nat → Nat} {p_Wa_16 p_B_17 : Nat} {u_Wa : S32} {u_B : S32} {x1 : Int32} {x2 : Int32} {zu_Wa : S32} (hf : f_X1_unhide fu u_B u_Wa x1 x2 = some zu_Wa) : MV l yX1_unhide cX1_unhide 3 none 1 g A (cl_X10 g a_Wa (a_B 0) p_Wa_16 u_Wa ++ (cl_X0 g a_B p_B_17 u_B ++ X)) [.ref (a_Wa 0), .int x1, .int x2] (cl_X10 g a_Wa (a_B 0) p_Wa_16 zu_Wa ++ (cl_X0 g a_B p_B_17 u_B ++ X)) := by
  refine tx_start (av := [.ref (a_Wa 0), .int x1, .int x2]) (by decide) (Nat.le_of_ble_eq_true rfl) ?_
  intro p e s m below meth c ls S hr hlk hE hw hl
  have S : CallFix p m c cX1_unhide 3 s (List.toArray [.ref (a_Wa 0), .int x1, .int x2]) (Cond.code yX1_unhide cX1_unhide 3 none :: allW) RX1 := S
  have hx := S.1
  have hb := S.2.1
  have hown := S.2.2.2.1
  have hts : ∀ w ∈ allW, w.before (List.toArray [.ref (a_Wa 0), .int x1, .int x2]) s = true := fun w h => S.2.2.2.2 w (List.mem_cons_of_mem _ h)
  have hl : lv_has ls 3 [(0, .ref (a_Wa 0)), (1, .int x1), (2, .int x2)] := hl
  unfold f_X1_unhide at hf
  refine lv_aload_n hx hb dX1_unhide_0 rfl (lv_at hl 0 rfl) ?_
  refine gf_X1_44 S hE hw 0 rfl rfl dX1_unhide_1 ?_
  refine lv_iload_n hx hb dX1_unhide_4 rfl (lv_at hl 1 rfl) ?_
  have hw := hw.u1
  obtain ⟨r_2, h_1, hf⟩ := tx_b1_e hf
  refine tx_ci hw (tx_runN S hE hw (c_X0_isThought h_1) lk_X1_48 (q0 := 0) rfl rfl rfl hl.1 (rest := []) rfl (Nat.le_of_ble_eq_true rfl) ⟨by decide, by decide⟩ dX1_unhide_5 ⟨Nat.zero_le _, Nat.zero_le _⟩) (fun H locs hw => ?_)
  refine lv_if_eq (tgt := 18) hx hb dX1_unhide_8 (by decide) (fun h_3 => ?_) (fun h_3 => ?_)
  · replace hf := tx_pos hf h_3
    have hw := hw.u1
    obtain e0 := tx_in1 hf
    rw [← e0]
    exact tx_vret S hr hlk hw dX1_unhide_18
  · replace hf := tx_neg hf h_3
    refine lv_aload_n hx hb dX1_unhide_11 rfl (lv_at hl 0 rfl) ?_
    refine gf_X1_54 S hE hw 11 rfl rfl dX1_unhide_12 ?_
    refine lv_iload_n hx hb dX1_unhide_15 rfl (lv_at hl 1 rfl) ?_
    refine lv_iload_n hx hb dX1_unhide_16 rfl (lv_at hl 2 rfl) ?_
    obtain ⟨h_4, hf⟩ := tx_ck_e hf
    obtain ⟨u_Wa_5, eu_Wa_5⟩ : ∃ z : S32, z = up2 u_Wa 12 x1.toNatClampNeg x2 := ⟨_, rfl⟩
    replace hf := tx_let_e hf eu_Wa_5
    refine tx_iast (ws' := cl_X0 g a_B p_B_17 u_B ++ (cl_X10 g a_Wa (a_B 0) p_Wa_16 u_Wa_5 ++ X)) S hE hw 19 rfl h_4 (by rw [eu_Wa_5]; rfl) dX1_unhide_17 (fun H locs hw => ?_)
    have hw := hw.u1
    obtain e0 := tx_in1 hf
    rw [← e0]
    exact tx_vret S hr hlk hw dX1_unhide_18
def f_X1_unbuy (fu : Nat) (u_B : S32) (u_Wa : S32) (x1 : Int32) (x2 : Int32) : Option (S32) := tx_b1 (f_X0_isMan fu u_B x1) fun (r_2 : Int32) => if r_2 = (0 : Int32) then (some u_Wa) else (tx_ck x1 6 <| tx_ck x1 6 <| tx_let (up2 u_Wa 9 x1.toNatClampNeg ((u_Wa 9 x1.toNatClampNeg) - x2)) fun (u_Wa_6 : S32) => tx_ck x1 6 <| tx_ck x1 6 <| tx_let (up2 u_Wa_6 5 x1.toNatClampNeg ((u_Wa_6 5 x1.toNatClampNeg) + (x2 * (u_B 0 15)))) fun (u_Wa_9 : S32) => some u_Wa_9)
set_option maxHeartbeats 4000000 in
set_option maxRecDepth 100000 in
theorem c_X1_unbuy {l : Launch} {g : GG} {A : Nat → Prop} {X : va_W} {fu : Nat} {a_Wa a_B : Nat → Nat} {p_Wa_16 p_B_17 : Nat} {u_Wa : S32} {u_B : S32} {x1 : Int32} {x2 : Int32} {zu_Wa : S32} (hf : f_X1_unbuy fu u_B u_Wa x1 x2 = some zu_Wa) : MV l yX1_unbuy cX1_unbuy 3 none 1 g A (cl_X10 g a_Wa (a_B 0) p_Wa_16 u_Wa ++ (cl_X0 g a_B p_B_17 u_B ++ X)) [.ref (a_Wa 0), .int x1, .int x2] (cl_X10 g a_Wa (a_B 0) p_Wa_16 zu_Wa ++ (cl_X0 g a_B p_B_17 u_B ++ X)) := by
  refine tx_start (av := [.ref (a_Wa 0), .int x1, .int x2]) (by decide) (Nat.le_of_ble_eq_true rfl) ?_
  intro p e s m below meth c ls S hr hlk hE hw hl
  have S : CallFix p m c cX1_unbuy 3 s (List.toArray [.ref (a_Wa 0), .int x1, .int x2]) (Cond.code yX1_unbuy cX1_unbuy 3 none :: allW) RX1 := S
  have hx := S.1
  have hb := S.2.1
  have hown := S.2.2.2.1
  have hts : ∀ w ∈ allW, w.before (List.toArray [.ref (a_Wa 0), .int x1, .int x2]) s = true := fun w h => S.2.2.2.2 w (List.mem_cons_of_mem _ h)
  have hl : lv_has ls 3 [(0, .ref (a_Wa 0)), (1, .int x1), (2, .int x2)] := hl
  unfold f_X1_unbuy at hf
  refine lv_aload_n hx hb dX1_unbuy_0 rfl (lv_at hl 0 rfl) ?_
  refine gf_X1_44 S hE hw 0 rfl rfl dX1_unbuy_1 ?_
  refine lv_iload_n hx hb dX1_unbuy_4 rfl (lv_at hl 1 rfl) ?_
  have hw := hw.u1
  obtain ⟨r_2, h_1, hf⟩ := tx_b1_e hf
  refine tx_ci hw (tx_runN S hE hw (c_X0_isMan h_1) lk_X1_57 (q0 := 0) rfl rfl rfl hl.1 (rest := []) rfl (Nat.le_of_ble_eq_true rfl) ⟨by decide, by decide⟩ dX1_unbuy_5 ⟨Nat.zero_le _, Nat.zero_le _⟩) (fun H locs hw => ?_)
  refine lv_if_eq (tgt := 39) hx hb dX1_unbuy_8 (by decide) (fun h_3 => ?_) (fun h_3 => ?_)
  · replace hf := tx_pos hf h_3
    have hw := hw.u1
    obtain e0 := tx_in1 hf
    rw [← e0]
    exact tx_vret S hr hlk hw dX1_unbuy_39
  · replace hf := tx_neg hf h_3
    refine lv_aload_n hx hb dX1_unbuy_11 rfl (lv_at hl 0 rfl) ?_
    refine gf_X1_60 S hE hw 11 rfl rfl dX1_unbuy_12 ?_
    refine lv_iload_n hx hb dX1_unbuy_15 rfl (lv_at hl 1 rfl) ?_
    refine lv_dup2_11 hx hb dX1_unbuy_16 rfl rfl ?_
    obtain ⟨h_4, hf⟩ := tx_ck_e hf
    refine tx_iald S hE hw 16 rfl h_4 dX1_unbuy_17 ?_
    refine lv_iload_n hx hb dX1_unbuy_18 rfl (lv_at hl 2 rfl) ?_
    refine lv_isub hx hb dX1_unbuy_19 ?_
    obtain ⟨h_5, hf⟩ := tx_ck_e hf
    obtain ⟨u_Wa_6, eu_Wa_6⟩ : ∃ z : S32, z = up2 u_Wa 9 x1.toNatClampNeg ((u_Wa 9 x1.toNatClampNeg) - x2) := ⟨_, rfl⟩
    replace hf := tx_let_e hf eu_Wa_6
    refine tx_iast (ws' := cl_X0 g a_B p_B_17 u_B ++ (cl_X10 g a_Wa (a_B 0) p_Wa_16 u_Wa_6 ++ X)) S hE hw 16 rfl h_5 (by rw [eu_Wa_6]; rfl) dX1_unbuy_20 (fun H locs hw => ?_)
    refine lv_aload_n hx hb dX1_unbuy_21 rfl (lv_at hl 0 rfl) ?_
    refine gf_X1_63 S hE hw 11 rfl rfl dX1_unbuy_22 ?_
    refine lv_iload_n hx hb dX1_unbuy_25 rfl (lv_at hl 1 rfl) ?_
    refine lv_dup2_11 hx hb dX1_unbuy_26 rfl rfl ?_
    obtain ⟨h_7, hf⟩ := tx_ck_e hf
    refine tx_iald S hE hw 12 rfl h_7 dX1_unbuy_27 ?_
    refine lv_iload_n hx hb dX1_unbuy_28 rfl (lv_at hl 2 rfl) ?_
    refine lv_aload_n hx hb dX1_unbuy_29 rfl (lv_at hl 0 rfl) ?_
    refine gf_X1_44 S hE hw 11 rfl rfl dX1_unbuy_30 ?_
    refine gf_X1_66 S hE hw 0 rfl rfl dX1_unbuy_33 ?_
    refine lv_imul hx hb dX1_unbuy_36 ?_
    refine lv_iadd hx hb dX1_unbuy_37 ?_
    obtain ⟨h_8, hf⟩ := tx_ck_e hf
    obtain ⟨u_Wa_9, eu_Wa_9⟩ : ∃ z : S32, z = up2 u_Wa_6 5 x1.toNatClampNeg ((u_Wa_6 5 x1.toNatClampNeg) + (x2 * (u_B 0 15))) := ⟨_, rfl⟩
    replace hf := tx_let_e hf eu_Wa_9
    refine tx_iast (ws' := cl_X0 g a_B p_B_17 u_B ++ (cl_X10 g a_Wa (a_B 0) p_Wa_16 u_Wa_9 ++ X)) S hE hw 12 rfl h_8 (by rw [eu_Wa_9]; rfl) dX1_unbuy_38 (fun H locs hw => ?_)
    have hw := hw.u1
    obtain e0 := tx_in1 hf
    rw [← e0]
    exact tx_vret S hr hlk hw dX1_unbuy_39
def f_X1_unround (fu : Nat) (u_B : S32) (u_Wa : S32) (x1 : Int32) (x2 : Int32) : Option (S32) := tx_b1 (f_X0_isMan fu u_B x1) fun (r_2 : Int32) => if r_2 = (0 : Int32) then (some u_Wa) else (tx_ck x1 6 <| tx_let (up2 u_Wa 10 x1.toNatClampNeg x2) fun (u_Wa_5 : S32) => some u_Wa_5)
set_option maxHeartbeats 4000000 in
set_option maxRecDepth 100000 in
theorem c_X1_unround {l : Launch} {g : GG} {A : Nat → Prop} {X : va_W} {fu : Nat} {a_Wa a_B : Nat → Nat} {p_Wa_16 p_B_17 : Nat} {u_Wa : S32} {u_B : S32} {x1 : Int32} {x2 : Int32} {zu_Wa : S32} (hf : f_X1_unround fu u_B u_Wa x1 x2 = some zu_Wa) : MV l yX1_unround cX1_unround 3 none 1 g A (cl_X10 g a_Wa (a_B 0) p_Wa_16 u_Wa ++ (cl_X0 g a_B p_B_17 u_B ++ X)) [.ref (a_Wa 0), .int x1, .int x2] (cl_X10 g a_Wa (a_B 0) p_Wa_16 zu_Wa ++ (cl_X0 g a_B p_B_17 u_B ++ X)) := by
  refine tx_start (av := [.ref (a_Wa 0), .int x1, .int x2]) (by decide) (Nat.le_of_ble_eq_true rfl) ?_
  intro p e s m below meth c ls S hr hlk hE hw hl
  have S : CallFix p m c cX1_unround 3 s (List.toArray [.ref (a_Wa 0), .int x1, .int x2]) (Cond.code yX1_unround cX1_unround 3 none :: allW) RX1 := S
  have hx := S.1
  have hb := S.2.1
  have hown := S.2.2.2.1
  have hts : ∀ w ∈ allW, w.before (List.toArray [.ref (a_Wa 0), .int x1, .int x2]) s = true := fun w h => S.2.2.2.2 w (List.mem_cons_of_mem _ h)
  have hl : lv_has ls 3 [(0, .ref (a_Wa 0)), (1, .int x1), (2, .int x2)] := hl
  unfold f_X1_unround at hf
  refine lv_aload_n hx hb dX1_unround_0 rfl (lv_at hl 0 rfl) ?_
  refine gf_X1_44 S hE hw 0 rfl rfl dX1_unround_1 ?_
  refine lv_iload_n hx hb dX1_unround_4 rfl (lv_at hl 1 rfl) ?_
  have hw := hw.u1
  obtain ⟨r_2, h_1, hf⟩ := tx_b1_e hf
  refine tx_ci hw (tx_runN S hE hw (c_X0_isMan h_1) lk_X1_57 (q0 := 0) rfl rfl rfl hl.1 (rest := []) rfl (Nat.le_of_ble_eq_true rfl) ⟨by decide, by decide⟩ dX1_unround_5 ⟨Nat.zero_le _, Nat.zero_le _⟩) (fun H locs hw => ?_)
  refine lv_if_eq (tgt := 18) hx hb dX1_unround_8 (by decide) (fun h_3 => ?_) (fun h_3 => ?_)
  · replace hf := tx_pos hf h_3
    have hw := hw.u1
    obtain e0 := tx_in1 hf
    rw [← e0]
    exact tx_vret S hr hlk hw dX1_unround_18
  · replace hf := tx_neg hf h_3
    refine lv_aload_n hx hb dX1_unround_11 rfl (lv_at hl 0 rfl) ?_
    refine gf_X1_69 S hE hw 11 rfl rfl dX1_unround_12 ?_
    refine lv_iload_n hx hb dX1_unround_15 rfl (lv_at hl 1 rfl) ?_
    refine lv_iload_n hx hb dX1_unround_16 rfl (lv_at hl 2 rfl) ?_
    obtain ⟨h_4, hf⟩ := tx_ck_e hf
    obtain ⟨u_Wa_5, eu_Wa_5⟩ : ∃ z : S32, z = up2 u_Wa 10 x1.toNatClampNeg x2 := ⟨_, rfl⟩
    replace hf := tx_let_e hf eu_Wa_5
    refine tx_iast (ws' := cl_X0 g a_B p_B_17 u_B ++ (cl_X10 g a_Wa (a_B 0) p_Wa_16 u_Wa_5 ++ X)) S hE hw 17 rfl h_4 (by rw [eu_Wa_5]; rfl) dX1_unround_17 (fun H locs hw => ?_)
    have hw := hw.u1
    obtain e0 := tx_in1 hf
    rw [← e0]
    exact tx_vret S hr hlk hw dX1_unround_18
def f_X1_undoLatest (fu : Nat) (u_B : S32) (u_T : S32) (u_Wa : S32) : Option (S32 × S32) := if (u_T 0 3) ≤ (0 : Int32) then (some (u_T, u_Wa)) else (if (u_T 0 3) ≤ (20 : Int32) then (tx_let (up2 u_T 0 3 ((u_T 0 3) - (1 : Int32))) fun (u_T_3 : S32) => tx_ck (u_T_3 0 3) 20 <| tx_let (u_T_3 2 (u_T_3 0 3).toNatClampNeg) fun (y_5 : Int32) => tx_ck (u_T_3 0 3) 20 <| tx_let (u_T_3 3 (u_T_3 0 3).toNatClampNeg) fun (y_7 : Int32) => tx_ck (u_T_3 0 3) 20 <| if u_T_3 1 (u_T_3 0 3).toNatClampNeg = (0 : Int32) then (tx_b1 (f_X1_unhide fu u_B u_Wa y_5 y_7) fun (u_Wa_11 : S32) => some (u_T_3, u_Wa_11)) else if u_T_3 1 (u_T_3 0 3).toNatClampNeg = (1 : Int32) then (tx_b1 (f_X1_unbuy fu u_B u_Wa y_5 y_7) fun (u_Wa_14 : S32) => some (u_T_3, u_Wa_14)) else if u_T_3 1 (u_T_3 0 3).toNatClampNeg = (2 : Int32) then (tx_b1 (f_X1_unround fu u_B u_Wa y_5 y_7) fun (u_Wa_17 : S32) => some (u_T_3, u_Wa_17)) else (tx_let (up2 u_Wa 0 2 y_7) fun (u_Wa_18 : S32) => some (u_T_3, u_Wa_18))) else (some (u_T, u_Wa)))
set_option maxHeartbeats 4000000 in
set_option maxRecDepth 100000 in
theorem c_X1_undoLatest {l : Launch} {g : GG} {A : Nat → Prop} {X : va_W} {fu : Nat} {a_T a_Wa a_B : Nat → Nat} {p_Wa_16 p_B_17 : Nat} {u_T : S32} {u_Wa : S32} {u_B : S32} {zu_T : S32} {zu_Wa : S32} (hf : f_X1_undoLatest fu u_B u_T u_Wa = some (zu_T, zu_Wa)) : MV l yX1_undoLatest cX1_undoLatest 4 none 2 g A (cl_X1 g a_T u_T ++ (cl_X10 g a_Wa (a_B 0) p_Wa_16 u_Wa ++ (cl_X0 g a_B p_B_17 u_B ++ X))) [.ref (a_T 0), .ref (a_Wa 0)] (cl_X1 g a_T zu_T ++ (cl_X10 g a_Wa (a_B 0) p_Wa_16 zu_Wa ++ (cl_X0 g a_B p_B_17 u_B ++ X))) := by
  refine tx_start (av := [.ref (a_T 0), .ref (a_Wa 0)]) (by decide) (Nat.le_of_ble_eq_true rfl) ?_
  intro p e s m below meth c ls S hr hlk hE hw hl
  have S : CallFix p m c cX1_undoLatest 4 s (List.toArray [.ref (a_T 0), .ref (a_Wa 0)]) (Cond.code yX1_undoLatest cX1_undoLatest 4 none :: allW) RX1 := S
  have hx := S.1
  have hb := S.2.1
  have hown := S.2.2.2.1
  have hts : ∀ w ∈ allW, w.before (List.toArray [.ref (a_T 0), .ref (a_Wa 0)]) s = true := fun w h => S.2.2.2.2 w (List.mem_cons_of_mem _ h)
  have hl : lv_has ls 4 [(0, .ref (a_T 0)), (1, .ref (a_Wa 0))] := hl
  unfold f_X1_undoLatest at hf
  refine lv_aload_n hx hb dX1_undoLatest_0 rfl (lv_at hl 0 rfl) ?_
  refine gf_X1_19 S hE hw 0 rfl rfl dX1_undoLatest_1 ?_
  refine lv_if_le (tgt := 16) hx hb dX1_undoLatest_4 (by decide) (fun h_1 => ?_) (fun h_1 => ?_)
  · replace hf := tx_pos hf h_1
    obtain ⟨e0, e1⟩ := tx_in2 hf
    rw [← e0, ← e1]
    exact tx_vret S hr hlk hw dX1_undoLatest_16
  · replace hf := tx_neg hf h_1
    refine lv_aload_n hx hb dX1_undoLatest_7 rfl (lv_at hl 0 rfl) ?_
    refine gf_X1_19 S hE hw 0 rfl rfl dX1_undoLatest_8 ?_
    refine lv_bipush (v := 20) hx hb dX1_undoLatest_11 (by decide) ?_
    refine lv_icmp_le (tgt := 17) hx hb dX1_undoLatest_13 (by decide) (fun h_2 => ?_) (fun h_2 => ?_)
    · replace hf := tx_pos hf h_2
      refine lv_aload_n hx hb dX1_undoLatest_17 rfl (lv_at hl 0 rfl) ?_
      refine lv_dup hx hb dX1_undoLatest_18 rfl ?_
      refine gf_X1_19 S hE hw 0 rfl rfl dX1_undoLatest_19 ?_
      refine lv_iconst (v := 1) hx hb dX1_undoLatest_22 (by decide) ?_
      refine lv_isub hx hb dX1_undoLatest_23 ?_
      obtain ⟨u_T_3, eu_T_3⟩ : ∃ z : S32, z = up2 u_T 0 3 ((u_T 0 3) - (1 : Int32)) := ⟨_, rfl⟩
      replace hf := tx_let_e hf eu_T_3
      refine pf_X1_19 (ws' := cl_X1 g a_T u_T_3 ++ (cl_X10 g a_Wa (a_B 0) p_Wa_16 u_Wa ++ (cl_X0 g a_B p_B_17 u_B ++ X))) S hE hw rfl rfl 0 rfl (Nat.le_of_ble_eq_true rfl) (by rw [eu_T_3]; rfl) dX1_undoLatest_24 (fun H locs hw => ?_)
      refine lv_aload_n hx hb dX1_undoLatest_27 rfl (lv_at hl 0 rfl) ?_
      refine gf_X1_13 S hE hw 0 rfl rfl dX1_undoLatest_28 ?_
      refine lv_aload_n hx hb dX1_undoLatest_31 rfl (lv_at hl 0 rfl) ?_
      refine gf_X1_19 S hE hw 0 rfl rfl dX1_undoLatest_32 ?_
      obtain ⟨h_4, hf⟩ := tx_ck_e hf
      refine tx_iald S hE hw 2 rfl h_4 dX1_undoLatest_35 ?_
      refine lv_topi (fun y_5 ey_5 => ?_)
      replace hf := tx_let_e hf ey_5
      refine lv_istore_n (lv' := [(2, .int y_5), (0, .ref (a_T 0)), (1, .ref (a_Wa 0))]) hx hb dX1_undoLatest_36 rfl hl (by decide) rfl (fun ls hl => ?_)
      refine lv_aload_n hx hb dX1_undoLatest_37 rfl (lv_at hl 1 rfl) ?_
      refine gf_X1_16 S hE hw 0 rfl rfl dX1_undoLatest_38 ?_
      refine lv_aload_n hx hb dX1_undoLatest_41 rfl (lv_at hl 1 rfl) ?_
      refine gf_X1_19 S hE hw 0 rfl rfl dX1_undoLatest_42 ?_
      obtain ⟨h_6, hf⟩ := tx_ck_e hf
      refine tx_iald S hE hw 3 rfl h_6 dX1_undoLatest_45 ?_
      refine lv_topi (fun y_7 ey_7 => ?_)
      replace hf := tx_let_e hf ey_7
      refine lv_istore_n (lv' := [(3, .int y_7), (2, .int y_5), (0, .ref (a_T 0)), (1, .ref (a_Wa 0))]) hx hb dX1_undoLatest_46 rfl hl (by decide) rfl (fun ls hl => ?_)
      refine lv_aload_n hx hb dX1_undoLatest_47 rfl (lv_at hl 2 rfl) ?_
      refine gf_X1_9 S hE hw 0 rfl rfl dX1_undoLatest_48 ?_
      refine lv_aload_n hx hb dX1_undoLatest_51 rfl (lv_at hl 2 rfl) ?_
      refine gf_X1_19 S hE hw 0 rfl rfl dX1_undoLatest_52 ?_
      obtain ⟨h_8, hf⟩ := tx_ck_e hf
      refine tx_iald S hE hw 1 rfl h_8 dX1_undoLatest_55 ?_
      by_cases h_9 : u_T_3 1 (u_T_3 0 3).toNatClampNeg = (0 : Int32)
      · replace hf := tx_pos hf h_9
        refine lv_tableIn (off := 28) (tgt := 84) hx hb dX1_undoLatest_56 (by rw [h_9]; decide) (by rw [h_9]; decide) (by rw [h_9]; rfl) (by decide) ?_
        refine lv_aload_n hx hb dX1_undoLatest_84 rfl (lv_at hl 3 rfl) ?_
        refine lv_iload_n hx hb dX1_undoLatest_85 rfl (lv_at hl 1 rfl) ?_
        refine lv_iload_n hx hb dX1_undoLatest_86 rfl (lv_at hl 0 rfl) ?_
        have hw := hw.u2
        have hw := hw.u2
        obtain ⟨u_Wa_11, h_10, hf⟩ := tx_b1_e hf
        refine tx_cv hw (tx_runS S hE hw (c_X1_unhide h_10) lk_X1_29 rfl hl.1 (rest := []) rfl (Nat.le_of_ble_eq_true rfl) ⟨by decide, by decide⟩ dX1_undoLatest_87 ⟨Nat.zero_le _, Nat.zero_le _⟩) (fun H locs hw => ?_)
        refine lv_goto (tgt := 116) hx hb dX1_undoLatest_90 (by decide) ?_
        have hw := hw.u1
        have hw := hw.u1
        have hw := hw.u2
        obtain ⟨e0, e1⟩ := tx_in2 hf
        rw [← e0, ← e1]
        exact tx_vret S hr hlk hw dX1_undoLatest_116
      replace hf := tx_neg hf h_9
      by_cases h_12 : u_T_3 1 (u_T_3 0 3).toNatClampNeg = (1 : Int32)
      · replace hf := tx_pos hf h_12
        refine lv_tableIn (off := 37) (tgt := 93) hx hb dX1_undoLatest_56 (by rw [h_12]; decide) (by rw [h_12]; decide) (by rw [h_12]; rfl) (by decide) ?_
        refine lv_aload_n hx hb dX1_undoLatest_93 rfl (lv_at hl 3 rfl) ?_
        refine lv_iload_n hx hb dX1_undoLatest_94 rfl (lv_at hl 1 rfl) ?_
        refine lv_iload_n hx hb dX1_undoLatest_95 rfl (lv_at hl 0 rfl) ?_
        have hw := hw.u2
        have hw := hw.u2
        obtain ⟨u_Wa_14, h_13, hf⟩ := tx_b1_e hf
        refine tx_cv hw (tx_runS S hE hw (c_X1_unbuy h_13) lk_X1_33 rfl hl.1 (rest := []) rfl (Nat.le_of_ble_eq_true rfl) ⟨by decide, by decide⟩ dX1_undoLatest_96 ⟨Nat.zero_le _, Nat.zero_le _⟩) (fun H locs hw => ?_)
        refine lv_goto (tgt := 116) hx hb dX1_undoLatest_99 (by decide) ?_
        have hw := hw.u1
        have hw := hw.u1
        have hw := hw.u2
        obtain ⟨e0, e1⟩ := tx_in2 hf
        rw [← e0, ← e1]
        exact tx_vret S hr hlk hw dX1_undoLatest_116
      replace hf := tx_neg hf h_12
      by_cases h_15 : u_T_3 1 (u_T_3 0 3).toNatClampNeg = (2 : Int32)
      · replace hf := tx_pos hf h_15
        refine lv_tableIn (off := 46) (tgt := 102) hx hb dX1_undoLatest_56 (by rw [h_15]; decide) (by rw [h_15]; decide) (by rw [h_15]; rfl) (by decide) ?_
        refine lv_aload_n hx hb dX1_undoLatest_102 rfl (lv_at hl 3 rfl) ?_
        refine lv_iload_n hx hb dX1_undoLatest_103 rfl (lv_at hl 1 rfl) ?_
        refine lv_iload_n hx hb dX1_undoLatest_104 rfl (lv_at hl 0 rfl) ?_
        have hw := hw.u2
        have hw := hw.u2
        obtain ⟨u_Wa_17, h_16, hf⟩ := tx_b1_e hf
        refine tx_cv hw (tx_runS S hE hw (c_X1_unround h_16) lk_X1_36 rfl hl.1 (rest := []) rfl (Nat.le_of_ble_eq_true rfl) ⟨by decide, by decide⟩ dX1_undoLatest_105 ⟨Nat.zero_le _, Nat.zero_le _⟩) (fun H locs hw => ?_)
        refine lv_goto (tgt := 116) hx hb dX1_undoLatest_108 (by decide) ?_
        have hw := hw.u1
        have hw := hw.u1
        have hw := hw.u2
        obtain ⟨e0, e1⟩ := tx_in2 hf
        rw [← e0, ← e1]
        exact tx_vret S hr hlk hw dX1_undoLatest_116
      replace hf := tx_neg hf h_15
      have eh_9 : (u_T_3 1 (u_T_3 0 3).toNatClampNeg).toInt ≠ 0 := tx_ne h_9
      have eh_12 : (u_T_3 1 (u_T_3 0 3).toNatClampNeg).toInt ≠ 1 := tx_ne h_12
      have eh_15 : (u_T_3 1 (u_T_3 0 3).toNatClampNeg).toInt ≠ 2 := tx_ne h_15
      refine lv_tableOut (tgt := 111) hx hb dX1_undoLatest_56 (by omega) (by decide) ?_
      refine lv_aload_n hx hb dX1_undoLatest_111 rfl (lv_at hl 3 rfl) ?_
      refine lv_iload_n hx hb dX1_undoLatest_112 rfl (lv_at hl 0 rfl) ?_
      obtain ⟨u_Wa_18, eu_Wa_18⟩ : ∃ z : S32, z = up2 u_Wa 0 2 y_7 := ⟨_, rfl⟩
      replace hf := tx_let_e hf eu_Wa_18
      refine pf_X1_39 (ws' := cl_X1 g a_T u_T_3 ++ (cl_X10 g a_Wa (a_B 0) p_Wa_16 u_Wa_18 ++ (cl_X0 g a_B p_B_17 u_B ++ X))) S hE hw rfl rfl 4 rfl (Nat.le_of_ble_eq_true rfl) (by rw [eu_Wa_18]; rfl) dX1_undoLatest_113 (fun H locs hw => ?_)
      obtain ⟨e0, e1⟩ := tx_in2 hf
      rw [← e0, ← e1]
      exact tx_vret S hr hlk hw dX1_undoLatest_116
    · replace hf := tx_neg hf h_2
      obtain ⟨e0, e1⟩ := tx_in2 hf
      rw [← e0, ← e1]
      exact tx_vret S hr hlk hw dX1_undoLatest_16
def f_X11_undo (fu : Nat) (u_T : S32) (u_B : S32) (u_D : S32) (u_W : S32) : Option (Int32 × S32 × S32) := if (u_D 0 3) = (0 : Int32) then (some ((-1 : Int32), u_D, u_W)) else (tx_b2 (f_X1_undoLatest fu u_B u_D u_W) fun (u_D_3 : S32) (u_W_4 : S32) => some (u_D_3 0 3, u_D_3, u_W_4))
set_option maxHeartbeats 4000000 in
set_option maxRecDepth 100000 in
theorem c_X11_undo {l : Launch} {g : GG} {A : Nat → Prop} {X : va_W} {fu : Nat} {a_T a_D a_W a_B : Nat → Nat} {p_T_0 p_T_2 p_T_3 p_T_5 p_T_6 p_T_8 p_T_9 p_W_16 p_B_17 : Nat} {u_T : S32} {u_D : S32} {u_W : S32} {u_B : S32} {r : Int32} {zu_D : S32} {zu_W : S32} (hf : f_X11_undo fu u_T u_B u_D u_W = some (r, zu_D, zu_W)) : MI l yX11_undo cX11_undo 1 (some .int) 3 g A (cl_X11 g a_T p_T_0 (a_B 0) p_T_2 p_T_3 (a_W 0) p_T_5 p_T_6 (a_D 0) p_T_8 p_T_9 u_T ++ (cl_X1 g a_D u_D ++ (cl_X10 g a_W (a_B 0) p_W_16 u_W ++ (cl_X0 g a_B p_B_17 u_B ++ X)))) [.ref (a_T 0)] r (cl_X11 g a_T p_T_0 (a_B 0) p_T_2 p_T_3 (a_W 0) p_T_5 p_T_6 (a_D 0) p_T_8 p_T_9 u_T ++ (cl_X1 g a_D zu_D ++ (cl_X10 g a_W (a_B 0) p_W_16 zu_W ++ (cl_X0 g a_B p_B_17 u_B ++ X)))) := by
  refine tx_start (av := [.ref (a_T 0)]) (by decide) (Nat.le_of_ble_eq_true rfl) ?_
  intro p e s m below meth c ls S hr hlk hE hw hl
  have S : CallFix p m c cX11_undo 1 s (List.toArray [.ref (a_T 0)]) (Cond.code yX11_undo cX11_undo 1 (some .int) :: allW) RX11 := S
  have hx := S.1
  have hb := S.2.1
  have hown := S.2.2.2.1
  have hts : ∀ w ∈ allW, w.before (List.toArray [.ref (a_T 0)]) s = true := fun w h => S.2.2.2.2 w (List.mem_cons_of_mem _ h)
  have hl : lv_has ls 1 [(0, .ref (a_T 0))] := hl
  unfold f_X11_undo at hf
  refine lv_aload_n hx hb dX11_undo_0 rfl (lv_at hl 0 rfl) ?_
  refine gf_X11_59 S hE hw 0 rfl rfl dX11_undo_1 ?_
  refine gf_X11_328 S hE hw 1 rfl rfl dX11_undo_4 ?_
  refine lv_if_ne (tgt := 12) hx hb dX11_undo_7 (by decide) (fun h_1 => ?_) (fun h_1 => ?_)
  · replace hf := tx_neg hf h_1
    refine lv_aload_n hx hb dX11_undo_12 rfl (lv_at hl 0 rfl) ?_
    refine gf_X11_59 S hE hw 0 rfl rfl dX11_undo_13 ?_
    refine lv_aload_n hx hb dX11_undo_16 rfl (lv_at hl 0 rfl) ?_
    refine gf_X11_42 S hE hw 0 rfl rfl dX11_undo_17 ?_
    have hw := hw.u3
    have hw := hw.u3
    have hw := hw.u3
    obtain ⟨u_D_3, u_W_4, h_2, hf⟩ := tx_b2_e hf
    refine tx_cv hw (tx_runN S hE hw (c_X1_undoLatest h_2) lk_X11_329 (q0 := 0) rfl rfl rfl hl.1 (rest := []) rfl (Nat.le_of_ble_eq_true rfl) ⟨by decide, by decide⟩ dX11_undo_20 ⟨Nat.zero_le _, Nat.zero_le _⟩) (fun H locs hw => ?_)
    refine lv_aload_n hx hb dX11_undo_23 rfl (lv_at hl 0 rfl) ?_
    refine gf_X11_59 S hE hw 27 rfl rfl dX11_undo_24 ?_
    refine gf_X11_328 S hE hw 0 rfl rfl dX11_undo_27 ?_
    have hw := hw.u2
    have hw := hw.u2
    have hw := hw.u2
    have hw := hw.u3
    obtain ⟨e0, e1, e2⟩ := tx_in3 hf
    rw [← e0, ← e1, ← e2]
    exact tx_iret S hr hlk hw dX11_undo_30
  · replace hf := tx_pos hf h_1
    refine lv_iconst (v := -1) hx hb dX11_undo_10 (by decide) ?_
    obtain ⟨e0, e1, e2⟩ := tx_in3 hf
    rw [← e0, ← e1, ← e2]
    exact tx_iret S hr hlk hw dX11_undo_11
def f_X11_keep (fu : Nat) (u_W2 : S32) (u_T : S32) (u_W : S32) : Option (Int32 × S32 × S32) := tx_b1 (f_X10_copy fu u_W2 u_W) fun (u_W_2 : S32) => tx_let (up2 u_T 0 10 (1 : Int32)) fun (u_T_3 : S32) => some (u_W2 0 1, u_T_3, u_W_2)
set_option maxHeartbeats 4000000 in
set_option maxRecDepth 100000 in
theorem c_X11_keep {l : Launch} {g : GG} {A : Nat → Prop} {X : va_W} {fu : Nat} {a_T a_W a_W2 : Nat → Nat} {p_T_0 p_T_1 p_T_2 p_T_3 p_T_6 p_T_7 p_T_8 p_T_9 p_W_0 p_W_16 p_W2_16 : Nat} {u_T : S32} {u_W : S32} {u_W2 : S32} {r : Int32} {zu_T : S32} {zu_W : S32} (hf : f_X11_keep fu u_W2 u_T u_W = some (r, zu_T, zu_W)) : MI l yX11_keep cX11_keep 1 (some .int) 2 g A (cl_X11 g a_T p_T_0 p_T_1 p_T_2 p_T_3 (a_W2 0) (a_W 0) p_T_6 p_T_7 p_T_8 p_T_9 u_T ++ (cl_X10 g a_W p_W_0 p_W_16 u_W ++ (cl_X10 g a_W2 p_T_1 p_W2_16 u_W2 ++ X))) [.ref (a_T 0)] r (cl_X11 g a_T p_T_0 p_T_1 p_T_2 p_T_3 (a_W2 0) (a_W 0) p_T_6 p_T_7 p_T_8 p_T_9 zu_T ++ (cl_X10 g a_W p_T_1 p_W_16 zu_W ++ (cl_X10 g a_W2 p_T_1 p_W2_16 u_W2 ++ X))) := by
  refine tx_start (av := [.ref (a_T 0)]) (by decide) (Nat.le_of_ble_eq_true rfl) ?_
  intro p e s m below meth c ls S hr hlk hE hw hl
  have S : CallFix p m c cX11_keep 1 s (List.toArray [.ref (a_T 0)]) (Cond.code yX11_keep cX11_keep 1 (some .int) :: allW) RX11 := S
  have hx := S.1
  have hb := S.2.1
  have hown := S.2.2.2.1
  have hts : ∀ w ∈ allW, w.before (List.toArray [.ref (a_T 0)]) s = true := fun w h => S.2.2.2.2 w (List.mem_cons_of_mem _ h)
  have hl : lv_has ls 1 [(0, .ref (a_T 0))] := hl
  unfold f_X11_keep at hf
  refine lv_aload_n hx hb dX11_keep_0 rfl (lv_at hl 0 rfl) ?_
  refine gf_X11_46 S hE hw 0 rfl rfl dX11_keep_1 ?_
  refine lv_aload_n hx hb dX11_keep_4 rfl (lv_at hl 0 rfl) ?_
  refine gf_X11_42 S hE hw 0 rfl rfl dX11_keep_5 ?_
  have hw := hw.u2
  have hw := hw.u2
  obtain ⟨u_W_2, h_1, hf⟩ := tx_b1_e hf
  refine tx_cv hw (tx_runN S hE hw (c_X10_copy h_1) lk_X11_333 (q0 := 0) rfl rfl rfl hl.1 (rest := []) rfl (Nat.le_of_ble_eq_true rfl) ⟨by decide, by decide⟩ dX11_keep_8 ⟨Nat.zero_le _, Nat.zero_le _⟩) (fun H locs hw => ?_)
  refine lv_aload_n hx hb dX11_keep_11 rfl (lv_at hl 0 rfl) ?_
  refine lv_iconst (v := 1) hx hb dX11_keep_12 (by decide) ?_
  obtain ⟨u_T_3, eu_T_3⟩ : ∃ z : S32, z = up2 u_T 0 10 (1 : Int32) := ⟨_, rfl⟩
  replace hf := tx_let_e hf eu_T_3
  refine pf_X11_100 (ws' := cl_X10 g a_W p_T_1 p_W_16 u_W_2 ++ (cl_X10 g a_W2 p_T_1 p_W2_16 u_W2 ++ (cl_X11 g a_T p_T_0 p_T_1 p_T_2 p_T_3 (a_W2 0) (a_W 0) p_T_6 p_T_7 p_T_8 p_T_9 u_T_3 ++ X))) S hE hw (by decide) (by decide) 24 rfl (Nat.le_of_ble_eq_true rfl) (by rw [eu_T_3]; rfl) dX11_keep_13 (fun H locs hw => ?_)
  refine lv_aload_n hx hb dX11_keep_16 rfl (lv_at hl 0 rfl) ?_
  refine gf_X11_42 S hE hw 24 rfl rfl dX11_keep_17 ?_
  refine gf_X11_210 S hE hw 12 rfl rfl dX11_keep_20 ?_
  have hw := hw.u1
  have hw := hw.u1
  have hw := hw.u2
  obtain ⟨e0, e1, e2⟩ := tx_in3 hf
  rw [← e0, ← e1, ← e2]
  exact tx_iret S hr hlk hw dX11_keep_23
def f_X11_back (fu : Nat) (u_T : S32) (u_W2 : S32) (p_T_1 : Nat) (p_W2_0 : Nat) (u_W : S32) (u_D : S32) : Option (Int32 × S32 × S32 × Nat) := if (u_T 0 10) = (0 : Int32) then (some ((-1 : Int32), u_W, u_D, p_T_1)) else (tx_b1 (f_X10_copy fu u_W2 u_W) fun (u_W_3 : S32) => tx_b1 (f_X1_clear fu u_D) fun (u_D_5 : S32) => some (u_W_3 0 1, u_W_3, u_D_5, p_W2_0))
set_option maxHeartbeats 4000000 in
set_option maxRecDepth 100000 in
theorem c_X11_back {l : Launch} {g : GG} {A : Nat → Prop} {X : va_W} {fu : Nat} {a_T a_W a_W2 a_D : Nat → Nat} {p_T_0 p_T_1 p_T_2 p_T_3 p_T_6 p_T_8 p_T_9 p_W_16 p_W2_0 p_W2_16 : Nat} {u_T : S32} {u_W : S32} {u_W2 : S32} {u_D : S32} {r : Int32} {zu_W : S32} {zu_D : S32} {zq_W_0 : Nat} (hf : f_X11_back fu u_T u_W2 p_T_1 p_W2_0 u_W u_D = some (r, zu_W, zu_D, zq_W_0)) : MI l yX11_back cX11_back 1 (some .int) 2 g A (cl_X11 g a_T p_T_0 p_T_1 p_T_2 p_T_3 (a_W 0) (a_W2 0) p_T_6 (a_D 0) p_T_8 p_T_9 u_T ++ (cl_X10 g a_W p_T_1 p_W_16 u_W ++ (cl_X10 g a_W2 p_W2_0 p_W2_16 u_W2 ++ (cl_X1 g a_D u_D ++ X)))) [.ref (a_T 0)] r (cl_X11 g a_T p_T_0 p_T_1 p_T_2 p_T_3 (a_W 0) (a_W2 0) p_T_6 (a_D 0) p_T_8 p_T_9 u_T ++ (cl_X10 g a_W zq_W_0 p_W_16 zu_W ++ (cl_X10 g a_W2 p_W2_0 p_W2_16 u_W2 ++ (cl_X1 g a_D zu_D ++ X)))) := by
  refine tx_start (av := [.ref (a_T 0)]) (by decide) (Nat.le_of_ble_eq_true rfl) ?_
  intro p e s m below meth c ls S hr hlk hE hw hl
  have S : CallFix p m c cX11_back 1 s (List.toArray [.ref (a_T 0)]) (Cond.code yX11_back cX11_back 1 (some .int) :: allW) RX11 := S
  have hx := S.1
  have hb := S.2.1
  have hown := S.2.2.2.1
  have hts : ∀ w ∈ allW, w.before (List.toArray [.ref (a_T 0)]) s = true := fun w h => S.2.2.2.2 w (List.mem_cons_of_mem _ h)
  have hl : lv_has ls 1 [(0, .ref (a_T 0))] := hl
  unfold f_X11_back at hf
  refine lv_aload_n hx hb dX11_back_0 rfl (lv_at hl 0 rfl) ?_
  refine gf_X11_100 S hE hw 0 rfl rfl dX11_back_1 ?_
  refine lv_if_ne (tgt := 9) hx hb dX11_back_4 (by decide) (fun h_1 => ?_) (fun h_1 => ?_)
  · replace hf := tx_neg hf h_1
    refine lv_aload_n hx hb dX11_back_9 rfl (lv_at hl 0 rfl) ?_
    refine gf_X11_42 S hE hw 0 rfl rfl dX11_back_10 ?_
    refine lv_aload_n hx hb dX11_back_13 rfl (lv_at hl 0 rfl) ?_
    refine gf_X11_46 S hE hw 0 rfl rfl dX11_back_14 ?_
    have hw := hw.u2
    have hw := hw.u2
    obtain ⟨u_W_3, h_2, hf⟩ := tx_b1_e hf
    refine tx_cv hw (tx_runN S hE hw (c_X10_copy h_2) lk_X11_333 (q0 := 0) rfl rfl rfl hl.1 (rest := []) rfl (Nat.le_of_ble_eq_true rfl) ⟨by decide, by decide⟩ dX11_back_17 ⟨Nat.zero_le _, Nat.zero_le _⟩) (fun H locs hw => ?_)
    refine lv_aload_n hx hb dX11_back_20 rfl (lv_at hl 0 rfl) ?_
    refine gf_X11_59 S hE hw 24 rfl rfl dX11_back_21 ?_
    have hw := hw.u3
    obtain ⟨u_D_5, h_4, hf⟩ := tx_b1_e hf
    refine tx_cv hw (tx_runN S hE hw (c_X1_clear h_4) lk_X11_99 (q0 := 0) rfl rfl rfl hl.1 (rest := []) rfl (Nat.le_of_ble_eq_true rfl) ⟨by decide, by decide⟩ dX11_back_24 ⟨Nat.zero_le _, Nat.zero_le _⟩) (fun H locs hw => ?_)
    refine lv_aload_n hx hb dX11_back_27 rfl (lv_at hl 0 rfl) ?_
    refine gf_X11_42 S hE hw 28 rfl rfl dX11_back_28 ?_
    refine gf_X11_210 S hE hw 4 rfl rfl dX11_back_31 ?_
    have hw := hw.u2
    have hw := hw.u2
    have hw := hw.u3
    obtain ⟨e0, e1, e2, e3⟩ := tx_in4 hf
    rw [← e0, ← e1, ← e2, ← e3]
    exact tx_iret S hr hlk hw dX11_back_34
  · replace hf := tx_pos hf h_1
    refine lv_iconst (v := -1) hx hb dX11_back_7 (by decide) ?_
    obtain ⟨e0, e1, e2, e3⟩ := tx_in4 hf
    rw [← e0, ← e1, ← e2, ← e3]
    exact tx_iret S hr hlk hw dX11_back_8
def f_X11_count (fu : Nat) (u_T : S32) (u_B : S32) (u_L : S32) (v_L : S64) (u_W : S32) (u_F : S32) (u_D : S32) (x1 : Int32) : Option (Int32) := if x1 = (0 : Int32) then (some (u_B 0 1)) else if x1 = (1 : Int32) then (some (u_B 0 5)) else if x1 = (2 : Int32) then (some (u_B 0 10)) else if x1 = (3 : Int32) then (some (u_L 0 5)) else if x1 = (4 : Int32) then (some (u_W 0 1)) else if x1 = (5 : Int32) then (some (u_W 0 2)) else if x1 = (6 : Int32) then (tx_b1 (f_X10_countOf fu u_W u_B (1 : Int32)) fun (r_9 : Int32) => some r_9) else if x1 = (7 : Int32) then (tx_b1 (f_X10_countOf fu u_W u_B (2 : Int32)) fun (r_12 : Int32) => some r_12) else if x1 = (8 : Int32) then (tx_b1 (f_X10_sum_tX10r7 fu u_W u_B) fun (r_15 : Int32) => some r_15) else if x1 = (9 : Int32) then (tx_b1 (f_X10_sum_tX10r8 fu u_W u_B) fun (r_18 : Int32) => some r_18) else if x1 = (10 : Int32) then (some (u_F 0 5)) else if x1 = (11 : Int32) then (tx_b1 (f_X2_knownBy fu u_F) fun (r_22 : Int32) => some r_22) else if x1 = (12 : Int32) then (some (u_D 0 3)) else (some (-1 : Int32))
set_option maxHeartbeats 4000000 in
set_option maxRecDepth 100000 in
theorem c_X11_count {l : Launch} {g : GG} {A : Nat → Prop} {X : va_W} {fu : Nat} {a_T a_B a_L a_W a_F a_D : Nat → Nat} {p_T_0 p_T_2 p_T_3 p_T_5 p_T_6 p_T_9 p_W_16 : Nat} {u_T : S32} {u_B : S32} {u_L : S32} {v_L : S64} {u_W : S32} {u_F : S32} {u_D : S32} {x1 : Int32} {r : Int32} (hf : f_X11_count fu u_T u_B u_L v_L u_W u_F u_D x1 = some r) : MI l yX11_count cX11_count 2 (some .int) 2 g A (cl_X11 g a_T p_T_0 (a_B 0) p_T_2 p_T_3 (a_W 0) p_T_5 p_T_6 (a_D 0) (a_F 0) p_T_9 u_T ++ (cl_X0 g a_B (a_L 0) u_B ++ (cl_X5 g a_L u_L v_L ++ (cl_X10 g a_W (a_B 0) p_W_16 u_W ++ (cl_X2 g a_F u_F ++ (cl_X1 g a_D u_D ++ X)))))) [.ref (a_T 0), .int x1] r (cl_X11 g a_T p_T_0 (a_B 0) p_T_2 p_T_3 (a_W 0) p_T_5 p_T_6 (a_D 0) (a_F 0) p_T_9 u_T ++ (cl_X0 g a_B (a_L 0) u_B ++ (cl_X5 g a_L u_L v_L ++ (cl_X10 g a_W (a_B 0) p_W_16 u_W ++ (cl_X2 g a_F u_F ++ (cl_X1 g a_D u_D ++ X)))))) := by
  refine tx_start (av := [.ref (a_T 0), .int x1]) (by decide) (Nat.le_of_ble_eq_true rfl) ?_
  intro p e s m below meth c ls S hr hlk hE hw hl
  have S : CallFix p m c cX11_count 2 s (List.toArray [.ref (a_T 0), .int x1]) (Cond.code yX11_count cX11_count 2 (some .int) :: allW) RX11 := S
  have hx := S.1
  have hb := S.2.1
  have hown := S.2.2.2.1
  have hts : ∀ w ∈ allW, w.before (List.toArray [.ref (a_T 0), .int x1]) s = true := fun w h => S.2.2.2.2 w (List.mem_cons_of_mem _ h)
  have hl : lv_has ls 2 [(0, .ref (a_T 0)), (1, .int x1)] := hl
  unfold f_X11_count at hf
  refine lv_iload_n hx hb dX11_count_0 rfl (lv_at hl 1 rfl) ?_
  by_cases h_1 : x1 = (0 : Int32)
  · replace hf := tx_pos hf h_1
    refine lv_tableIn (off := 67) (tgt := 68) hx hb dX11_count_1 (by rw [h_1]; decide) (by rw [h_1]; decide) (by rw [h_1]; rfl) (by decide) ?_
    refine lv_aload_n hx hb dX11_count_68 rfl (lv_at hl 0 rfl) ?_
    refine gf_X11_21 S hE hw 0 rfl rfl dX11_count_69 ?_
    refine gf_X11_235 S hE hw 1 rfl rfl dX11_count_72 ?_
    obtain e0 := tx_in1 hf
    rw [← e0]
    exact tx_iret S hr hlk hw dX11_count_75
  replace hf := tx_neg hf h_1
  by_cases h_2 : x1 = (1 : Int32)
  · replace hf := tx_pos hf h_2
    refine lv_tableIn (off := 75) (tgt := 76) hx hb dX11_count_1 (by rw [h_2]; decide) (by rw [h_2]; decide) (by rw [h_2]; rfl) (by decide) ?_
    refine lv_aload_n hx hb dX11_count_76 rfl (lv_at hl 0 rfl) ?_
    refine gf_X11_21 S hE hw 0 rfl rfl dX11_count_77 ?_
    refine gf_X11_336 S hE hw 1 rfl rfl dX11_count_80 ?_
    obtain e0 := tx_in1 hf
    rw [← e0]
    exact tx_iret S hr hlk hw dX11_count_83
  replace hf := tx_neg hf h_2
  by_cases h_3 : x1 = (2 : Int32)
  · replace hf := tx_pos hf h_3
    refine lv_tableIn (off := 83) (tgt := 84) hx hb dX11_count_1 (by rw [h_3]; decide) (by rw [h_3]; decide) (by rw [h_3]; rfl) (by decide) ?_
    refine lv_aload_n hx hb dX11_count_84 rfl (lv_at hl 0 rfl) ?_
    refine gf_X11_21 S hE hw 0 rfl rfl dX11_count_85 ?_
    refine gf_X11_232 S hE hw 1 rfl rfl dX11_count_88 ?_
    obtain e0 := tx_in1 hf
    rw [← e0]
    exact tx_iret S hr hlk hw dX11_count_91
  replace hf := tx_neg hf h_3
  by_cases h_4 : x1 = (3 : Int32)
  · replace hf := tx_pos hf h_4
    refine lv_tableIn (off := 91) (tgt := 92) hx hb dX11_count_1 (by rw [h_4]; decide) (by rw [h_4]; decide) (by rw [h_4]; rfl) (by decide) ?_
    refine lv_aload_n hx hb dX11_count_92 rfl (lv_at hl 0 rfl) ?_
    refine gf_X11_21 S hE hw 0 rfl rfl dX11_count_93 ?_
    refine gf_X11_339 S hE hw 1 rfl rfl dX11_count_96 ?_
    refine gf_X11_343 S hE hw 12 rfl rfl dX11_count_99 ?_
    obtain e0 := tx_in1 hf
    rw [← e0]
    exact tx_iret S hr hlk hw dX11_count_102
  replace hf := tx_neg hf h_4
  by_cases h_5 : x1 = (4 : Int32)
  · replace hf := tx_pos hf h_5
    refine lv_tableIn (off := 102) (tgt := 103) hx hb dX11_count_1 (by rw [h_5]; decide) (by rw [h_5]; decide) (by rw [h_5]; rfl) (by decide) ?_
    refine lv_aload_n hx hb dX11_count_103 rfl (lv_at hl 0 rfl) ?_
    refine gf_X11_42 S hE hw 0 rfl rfl dX11_count_104 ?_
    refine gf_X11_210 S hE hw 18 rfl rfl dX11_count_107 ?_
    obtain e0 := tx_in1 hf
    rw [← e0]
    exact tx_iret S hr hlk hw dX11_count_110
  replace hf := tx_neg hf h_5
  by_cases h_6 : x1 = (5 : Int32)
  · replace hf := tx_pos hf h_6
    refine lv_tableIn (off := 110) (tgt := 111) hx hb dX11_count_1 (by rw [h_6]; decide) (by rw [h_6]; decide) (by rw [h_6]; rfl) (by decide) ?_
    refine lv_aload_n hx hb dX11_count_111 rfl (lv_at hl 0 rfl) ?_
    refine gf_X11_42 S hE hw 0 rfl rfl dX11_count_112 ?_
    refine gf_X11_207 S hE hw 18 rfl rfl dX11_count_115 ?_
    obtain e0 := tx_in1 hf
    rw [← e0]
    exact tx_iret S hr hlk hw dX11_count_118
  replace hf := tx_neg hf h_6
  by_cases h_7 : x1 = (6 : Int32)
  · replace hf := tx_pos hf h_7
    refine lv_tableIn (off := 118) (tgt := 119) hx hb dX11_count_1 (by rw [h_7]; decide) (by rw [h_7]; decide) (by rw [h_7]; rfl) (by decide) ?_
    refine lv_aload_n hx hb dX11_count_119 rfl (lv_at hl 0 rfl) ?_
    refine gf_X11_42 S hE hw 0 rfl rfl dX11_count_120 ?_
    refine lv_iconst (v := 1) hx hb dX11_count_123 (by decide) ?_
    have hw := hw.u1
    have hw := hw.u3
    obtain ⟨r_9, h_8, hf⟩ := tx_b1_e hf
    refine tx_ci hw (tx_runN S hE hw (c_X10_countOf h_8) lk_X11_346 (q0 := 0) rfl rfl rfl hl.1 (rest := []) rfl (Nat.le_of_ble_eq_true rfl) ⟨by decide, by decide⟩ dX11_count_124 ⟨Nat.zero_le _, Nat.zero_le _⟩) (fun H locs hw => ?_)
    have hw := hw.u5
    have hw := hw.u5
    have hw := hw.u2
    have hw := hw.u5
    have hw := hw.u4
    have hw := hw.u5
    obtain e0 := tx_in1 hf
    rw [← e0]
    exact tx_iret S hr hlk hw dX11_count_127
  replace hf := tx_neg hf h_7
  by_cases h_10 : x1 = (7 : Int32)
  · replace hf := tx_pos hf h_10
    refine lv_tableIn (off := 127) (tgt := 128) hx hb dX11_count_1 (by rw [h_10]; decide) (by rw [h_10]; decide) (by rw [h_10]; rfl) (by decide) ?_
    refine lv_aload_n hx hb dX11_count_128 rfl (lv_at hl 0 rfl) ?_
    refine gf_X11_42 S hE hw 0 rfl rfl dX11_count_129 ?_
    refine lv_iconst (v := 2) hx hb dX11_count_132 (by decide) ?_
    have hw := hw.u1
    have hw := hw.u3
    obtain ⟨r_12, h_11, hf⟩ := tx_b1_e hf
    refine tx_ci hw (tx_runN S hE hw (c_X10_countOf h_11) lk_X11_346 (q0 := 0) rfl rfl rfl hl.1 (rest := []) rfl (Nat.le_of_ble_eq_true rfl) ⟨by decide, by decide⟩ dX11_count_133 ⟨Nat.zero_le _, Nat.zero_le _⟩) (fun H locs hw => ?_)
    have hw := hw.u5
    have hw := hw.u5
    have hw := hw.u2
    have hw := hw.u5
    have hw := hw.u4
    have hw := hw.u5
    obtain e0 := tx_in1 hf
    rw [← e0]
    exact tx_iret S hr hlk hw dX11_count_136
  replace hf := tx_neg hf h_10
  by_cases h_13 : x1 = (8 : Int32)
  · replace hf := tx_pos hf h_13
    refine lv_tableIn (off := 136) (tgt := 137) hx hb dX11_count_1 (by rw [h_13]; decide) (by rw [h_13]; decide) (by rw [h_13]; rfl) (by decide) ?_
    refine lv_aload_n hx hb dX11_count_137 rfl (lv_at hl 0 rfl) ?_
    refine gf_X11_42 S hE hw 0 rfl rfl dX11_count_138 ?_
    refine lv_aload_n hx hb dX11_count_141 rfl (lv_at hl 0 rfl) ?_
    refine gf_X11_42 S hE hw 0 rfl rfl dX11_count_142 ?_
    refine gf_X11_166 S hE hw 18 rfl rfl dX11_count_145 ?_
    have hw := hw.u1
    have hw := hw.u3
    obtain ⟨r_15, h_14, hf⟩ := tx_b1_e hf
    refine tx_ci hw (tx_runN S hE hw (c_X10_sum_tX10r7 h_14) lk_X11_349 (q0 := 0) rfl rfl rfl hl.1 (rest := []) rfl (Nat.le_of_ble_eq_true rfl) ⟨by decide, by decide⟩ dX11_count_148 ⟨Nat.zero_le _, Nat.zero_le _⟩) (fun H locs hw => ?_)
    have hw := hw.u5
    have hw := hw.u5
    have hw := hw.u2
    have hw := hw.u5
    have hw := hw.u4
    have hw := hw.u5
    obtain e0 := tx_in1 hf
    rw [← e0]
    exact tx_iret S hr hlk hw dX11_count_151
  replace hf := tx_neg hf h_13
  by_cases h_16 : x1 = (9 : Int32)
  · replace hf := tx_pos hf h_16
    refine lv_tableIn (off := 151) (tgt := 152) hx hb dX11_count_1 (by rw [h_16]; decide) (by rw [h_16]; decide) (by rw [h_16]; rfl) (by decide) ?_
    refine lv_aload_n hx hb dX11_count_152 rfl (lv_at hl 0 rfl) ?_
    refine gf_X11_42 S hE hw 0 rfl rfl dX11_count_153 ?_
    refine lv_aload_n hx hb dX11_count_156 rfl (lv_at hl 0 rfl) ?_
    refine gf_X11_42 S hE hw 0 rfl rfl dX11_count_157 ?_
    refine gf_X11_169 S hE hw 18 rfl rfl dX11_count_160 ?_
    have hw := hw.u1
    have hw := hw.u3
    obtain ⟨r_18, h_17, hf⟩ := tx_b1_e hf
    refine tx_ci hw (tx_runN S hE hw (c_X10_sum_tX10r8 h_17) lk_X11_349 (q0 := 0) rfl rfl rfl hl.1 (rest := []) rfl (Nat.le_of_ble_eq_true rfl) ⟨by decide, by decide⟩ dX11_count_163 ⟨Nat.zero_le _, Nat.zero_le _⟩) (fun H locs hw => ?_)
    have hw := hw.u5
    have hw := hw.u5
    have hw := hw.u2
    have hw := hw.u5
    have hw := hw.u4
    have hw := hw.u5
    obtain e0 := tx_in1 hf
    rw [← e0]
    exact tx_iret S hr hlk hw dX11_count_166
  replace hf := tx_neg hf h_16
  by_cases h_19 : x1 = (10 : Int32)
  · replace hf := tx_pos hf h_19
    refine lv_tableIn (off := 166) (tgt := 167) hx hb dX11_count_1 (by rw [h_19]; decide) (by rw [h_19]; decide) (by rw [h_19]; rfl) (by decide) ?_
    refine lv_aload_n hx hb dX11_count_167 rfl (lv_at hl 0 rfl) ?_
    refine gf_X11_66 S hE hw 0 rfl rfl dX11_count_168 ?_
    refine gf_X11_309 S hE hw 30 rfl rfl dX11_count_171 ?_
    obtain e0 := tx_in1 hf
    rw [← e0]
    exact tx_iret S hr hlk hw dX11_count_174
  replace hf := tx_neg hf h_19
  by_cases h_20 : x1 = (11 : Int32)
  · replace hf := tx_pos hf h_20
    refine lv_tableIn (off := 174) (tgt := 175) hx hb dX11_count_1 (by rw [h_20]; decide) (by rw [h_20]; decide) (by rw [h_20]; rfl) (by decide) ?_
    refine lv_aload_n hx hb dX11_count_175 rfl (lv_at hl 0 rfl) ?_
    refine gf_X11_66 S hE hw 0 rfl rfl dX11_count_176 ?_
    have hw := hw.u4
    obtain ⟨r_22, h_21, hf⟩ := tx_b1_e hf
    refine tx_ci hw (tx_runN S hE hw (c_X2_knownBy h_21) lk_X11_352 (q0 := 0) rfl rfl rfl hl.1 (rest := []) rfl (Nat.le_of_ble_eq_true rfl) ⟨by decide, by decide⟩ dX11_count_179 ⟨Nat.zero_le _, Nat.zero_le _⟩) (fun H locs hw => ?_)
    have hw := hw.u5
    have hw := hw.u1
    have hw := hw.u5
    have hw := hw.u5
    have hw := hw.u5
    have hw := hw.u5
    obtain e0 := tx_in1 hf
    rw [← e0]
    exact tx_iret S hr hlk hw dX11_count_182
  replace hf := tx_neg hf h_20
  by_cases h_23 : x1 = (12 : Int32)
  · replace hf := tx_pos hf h_23
    refine lv_tableIn (off := 182) (tgt := 183) hx hb dX11_count_1 (by rw [h_23]; decide) (by rw [h_23]; decide) (by rw [h_23]; rfl) (by decide) ?_
    refine lv_aload_n hx hb dX11_count_183 rfl (lv_at hl 0 rfl) ?_
    refine gf_X11_59 S hE hw 0 rfl rfl dX11_count_184 ?_
    refine gf_X11_328 S hE hw 36 rfl rfl dX11_count_187 ?_
    obtain e0 := tx_in1 hf
    rw [← e0]
    exact tx_iret S hr hlk hw dX11_count_190
  replace hf := tx_neg hf h_23
  have eh_1 : x1.toInt ≠ 0 := tx_ne h_1
  have eh_2 : x1.toInt ≠ 1 := tx_ne h_2
  have eh_3 : x1.toInt ≠ 2 := tx_ne h_3
  have eh_4 : x1.toInt ≠ 3 := tx_ne h_4
  have eh_5 : x1.toInt ≠ 4 := tx_ne h_5
  have eh_6 : x1.toInt ≠ 5 := tx_ne h_6
  have eh_7 : x1.toInt ≠ 6 := tx_ne h_7
  have eh_10 : x1.toInt ≠ 7 := tx_ne h_10
  have eh_13 : x1.toInt ≠ 8 := tx_ne h_13
  have eh_16 : x1.toInt ≠ 9 := tx_ne h_16
  have eh_19 : x1.toInt ≠ 10 := tx_ne h_19
  have eh_20 : x1.toInt ≠ 11 := tx_ne h_20
  have eh_23 : x1.toInt ≠ 12 := tx_ne h_23
  refine lv_tableOut (tgt := 191) hx hb dX11_count_1 (by omega) (by decide) ?_
  refine lv_iconst (v := -1) hx hb dX11_count_191 (by decide) ?_
  obtain e0 := tx_in1 hf
  rw [← e0]
  exact tx_iret S hr hlk hw dX11_count_192
