def f_X11_debtor (fu : Nat) (u_T : S32) (u_W : S32) (u_B : S32) : Option (Int32) := tx_b1 (f_X10_greatest_tX10r8 fu u_W u_B) fun (r_2 : Int32) => if r_2 = (-1 : Int32) then (some (-2 : Int32)) else (tx_ck r_2 6 <| if (u_W 8 r_2.toNatClampNeg) ≤ (0 : Int32) then (some (-2 : Int32)) else (some r_2))
set_option maxHeartbeats 4000000 in
set_option maxRecDepth 100000 in
theorem c_X11_debtor {l : Launch} {g : GG} {A : Nat → Prop} {X : va_W} {fu : Nat} {a_T a_W a_B : Nat → Nat} {p_T_0 p_T_2 p_T_3 p_T_5 p_T_6 p_T_7 p_T_8 p_T_9 p_W_16 p_B_17 : Nat} {u_T : S32} {u_W : S32} {u_B : S32} {r : Int32} (hf : f_X11_debtor fu u_T u_W u_B = some r) : MI l yX11_debtor cX11_debtor 2 (some .int) 1 g A (cl_X11 g a_T p_T_0 (a_B 0) p_T_2 p_T_3 (a_W 0) p_T_5 p_T_6 p_T_7 p_T_8 p_T_9 u_T ++ (cl_X10 g a_W (a_B 0) p_W_16 u_W ++ (cl_X0 g a_B p_B_17 u_B ++ X))) [.ref (a_T 0)] r (cl_X11 g a_T p_T_0 (a_B 0) p_T_2 p_T_3 (a_W 0) p_T_5 p_T_6 p_T_7 p_T_8 p_T_9 u_T ++ (cl_X10 g a_W (a_B 0) p_W_16 u_W ++ (cl_X0 g a_B p_B_17 u_B ++ X))) := by
  refine tx_start (av := [.ref (a_T 0)]) (by decide) (Nat.le_of_ble_eq_true rfl) ?_
  intro p e s m below meth c ls S hr hlk hE hw hl
  have S : CallFix p m c cX11_debtor 2 s (List.toArray [.ref (a_T 0)]) (Cond.code yX11_debtor cX11_debtor 2 (some .int) :: allW) RX11 := S
  have hx := S.1
  have hb := S.2.1
  have hown := S.2.2.2.1
  have hts : ∀ w ∈ allW, w.before (List.toArray [.ref (a_T 0)]) s = true := fun w h => S.2.2.2.2 w (List.mem_cons_of_mem _ h)
  have hl : lv_has ls 2 [(0, .ref (a_T 0))] := hl
  unfold f_X11_debtor at hf
  refine lv_aload_n hx hb dX11_debtor_0 rfl (lv_at hl 0 rfl) ?_
  refine gf_X11_42 S hE hw 0 rfl rfl dX11_debtor_1 ?_
  refine lv_aload_n hx hb dX11_debtor_4 rfl (lv_at hl 0 rfl) ?_
  refine gf_X11_42 S hE hw 0 rfl rfl dX11_debtor_5 ?_
  refine gf_X11_169 S hE hw 1 rfl rfl dX11_debtor_8 ?_
  have hw := hw.u2
  have hw := hw.u2
  obtain ⟨r_2, h_1, hf⟩ := tx_b1_e hf
  refine tx_ci hw (tx_runN S hE hw (c_X10_greatest_tX10r8 h_1) lk_X11_286 (q0 := 0) rfl rfl rfl hl.1 (rest := []) rfl (Nat.le_of_ble_eq_true rfl) ⟨by decide, by decide⟩ dX11_debtor_11 ⟨Nat.zero_le _, Nat.zero_le _⟩) (fun H locs hw => ?_)
  refine lv_istore_n (lv' := [(1, .int r_2), (0, .ref (a_T 0))]) hx hb dX11_debtor_14 rfl hl (by decide) rfl (fun ls hl => ?_)
  refine lv_iload_n hx hb dX11_debtor_15 rfl (lv_at hl 0 rfl) ?_
  refine lv_iconst (v := -1) hx hb dX11_debtor_16 (by decide) ?_
  refine lv_icmp_eq (tgt := 36) hx hb dX11_debtor_17 (by decide) (fun h_3 => ?_) (fun h_3 => ?_)
  · replace hf := tx_pos hf h_3
    refine lv_bipush (v := -2) hx hb dX11_debtor_36 (by decide) ?_
    have hw := hw.u1
    have hw := hw.u1
    have hw := hw.u2
    obtain e0 := tx_in1 hf
    rw [← e0]
    exact tx_iret S hr hlk hw dX11_debtor_38
  · replace hf := tx_neg hf h_3
    refine lv_aload_n hx hb dX11_debtor_20 rfl (lv_at hl 1 rfl) ?_
    refine gf_X11_42 S hE hw 23 rfl rfl dX11_debtor_21 ?_
    refine gf_X11_169 S hE hw 0 rfl rfl dX11_debtor_24 ?_
    refine lv_iload_n hx hb dX11_debtor_27 rfl (lv_at hl 0 rfl) ?_
    obtain ⟨h_4, hf⟩ := tx_ck_e hf
    refine tx_iald S hE hw 4 rfl h_4 dX11_debtor_28 ?_
    refine lv_if_le (tgt := 36) hx hb dX11_debtor_29 (by decide) (fun h_5 => ?_) (fun h_5 => ?_)
    · replace hf := tx_pos hf h_5
      refine lv_bipush (v := -2) hx hb dX11_debtor_36 (by decide) ?_
      have hw := hw.u1
      have hw := hw.u1
      have hw := hw.u2
      obtain e0 := tx_in1 hf
      rw [← e0]
      exact tx_iret S hr hlk hw dX11_debtor_38
    · replace hf := tx_neg hf h_5
      refine lv_iload_n hx hb dX11_debtor_32 rfl (lv_at hl 0 rfl) ?_
      refine lv_goto (tgt := 38) hx hb dX11_debtor_33 (by decide) ?_
      have hw := hw.u1
      have hw := hw.u1
      have hw := hw.u2
      obtain e0 := tx_in1 hf
      rw [← e0]
      exact tx_iret S hr hlk hw dX11_debtor_38
def f_X9_weeksToReading_J33 (fu : Nat) (u_T : S32) (u_Wa : S32) (u_B : S32) (u_L : S32) (p_W_0 : Nat) (pa_B : Nat) (K33 : S32 → S64 → S64 → Int32 → Int32 → Option (Int32 × S32 × S64 × S64 × Nat)) (u_W : S32) (v_L : S64) (v_N : S64) (w2 : Int32) (w3 : Int32) : Option (Int32 × S32 × S64 × S64 × Nat) := if (99 : Int32) < w3 then (some ((-2 : Int32), u_W, v_L, v_N, pa_B)) else (tx_b3 (f_X10_goWeeks fu u_B u_L u_W v_L v_N (1 : Int32) (0 : Int32)) fun (u_W_10 : S32) (v_L_11 : S64) (v_N_12 : S64) => tx_ck w2 12 <| if (u_W_10 13 w2.toNatClampNeg) = (1 : Int32) then (some (w3, u_W_10, v_L_11, v_N_12, pa_B)) else (tx_let (w3 + (1 : Int32)) fun (y_15 : Int32) => K33 u_W_10 v_L_11 v_N_12 w2 y_15))
def f_X9_weeksToReading_L33 (fu : Nat) (u_T : S32) (u_Wa : S32) (u_B : S32) (u_L : S32) (p_W_0 : Nat) (pa_B : Nat) : Nat → S32 → S64 → S64 → Int32 → Int32 → Option (Int32 × S32 × S64 × S64 × Nat)
  | 0 => fun _ _ _ _ _ => none
  | n + 1 => f_X9_weeksToReading_J33 fu u_T u_Wa u_B u_L p_W_0 pa_B (f_X9_weeksToReading_L33 fu u_T u_Wa u_B u_L p_W_0 pa_B n)
def f_X9_weeksToReading (fu : Nat) (u_T : S32) (u_Wa : S32) (u_B : S32) (u_L : S32) (p_W_0 : Nat) (pa_B : Nat) (u_W : S32) (v_L : S64) (v_N : S64) (x2 : Int32) : Option (Int32 × S32 × S64 × S64 × Nat) := tx_b1 (f_X0_isThought fu u_B x2) fun (r_2 : Int32) => if r_2 = (0 : Int32) then (some ((-1 : Int32), u_W, v_L, v_N, p_W_0)) else (tx_b1 (f_X10_copy fu u_Wa u_W) fun (u_W_5 : S32) => tx_ck x2 12 <| tx_let (up2 u_W_5 13 x2.toNatClampNeg (0 : Int32)) fun (u_W_7 : S32) => f_X9_weeksToReading_L33 fu u_T u_Wa u_B u_L p_W_0 pa_B fu u_W_7 v_L v_N x2 (1 : Int32))
set_option maxHeartbeats 4000000 in
set_option maxRecDepth 100000 in
theorem c_X9_weeksToReading {l : Launch} {g : GG} {A : Nat → Prop} {X : va_W} {fu : Nat} {a_T a_Wa a_B a_W a_L a_N : Nat → Nat} {p_Wa_16 p_W_0 : Nat} {u_T : S32} {u_Wa : S32} {u_B : S32} {u_W : S32} {u_L : S32} {v_L : S64} {v_N : S64} {x2 : Int32} {r : Int32} {zu_W : S32} {zv_L : S64} {zv_N : S64} {zq_W_0 : Nat} (hf : f_X9_weeksToReading fu u_T u_Wa u_B u_L p_W_0 (a_B 0) u_W v_L v_N x2 = some (r, zu_W, zv_L, zv_N, zq_W_0)) : MI l yX9_weeksToReading cX9_weeksToReading 4 (some .int) 6 g A (cl_X9 g a_T (a_W 0) u_T ++ (cl_X10 g a_Wa (a_B 0) p_Wa_16 u_Wa ++ (cl_X0 g a_B (a_L 0) u_B ++ (cl_X10 g a_W p_W_0 (a_N 0) u_W ++ (cl_X5 g a_L u_L v_L ++ (cl_N g a_N v_N ++ X)))))) [.ref (a_T 0), .ref (a_Wa 0), .int x2] r (cl_X9 g a_T (a_W 0) u_T ++ (cl_X10 g a_Wa (a_B 0) p_Wa_16 u_Wa ++ (cl_X0 g a_B (a_L 0) u_B ++ (cl_X10 g a_W zq_W_0 (a_N 0) zu_W ++ (cl_X5 g a_L u_L zv_L ++ (cl_N g a_N zv_N ++ X)))))) := by
  refine tx_start (av := [.ref (a_T 0), .ref (a_Wa 0), .int x2]) (by decide) (Nat.le_of_ble_eq_true rfl) ?_
  intro p e s m below meth c ls S hr hlk hE hw hl
  have S : CallFix p m c cX9_weeksToReading 4 s (List.toArray [.ref (a_T 0), .ref (a_Wa 0), .int x2]) (Cond.code yX9_weeksToReading cX9_weeksToReading 4 (some .int) :: allW) RX9 := S
  have hx := S.1
  have hb := S.2.1
  have hown := S.2.2.2.1
  have hts : ∀ w ∈ allW, w.before (List.toArray [.ref (a_T 0), .ref (a_Wa 0), .int x2]) s = true := fun w h => S.2.2.2.2 w (List.mem_cons_of_mem _ h)
  have hl : lv_has ls 4 [(0, .ref (a_T 0)), (1, .ref (a_Wa 0)), (2, .int x2)] := hl
  have J33 : ∀ {K33 : S32 → S64 → S64 → Int32 → Int32 → Option (Int32 × S32 × S64 × S64 × Nat)} (hK33 : ∀ {u_W : S32} {v_L : S64} {v_N : S64} {w2 : Int32} {w3 : Int32} {H : Heap} {locs : List Loc} {ls : Array Slot}, K33 u_W v_L v_N w2 w3 = some (r, zu_W, zv_L, zv_N, zq_W_0) → WD g A s.heap (cl_X9 g a_T (a_W 0) u_T ++ (cl_X10 g a_Wa (a_B 0) p_Wa_16 u_Wa ++ (cl_X0 g a_B (a_L 0) u_B ++ (cl_X10 g a_W (a_B 0) (a_N 0) u_W ++ (cl_X5 g a_L u_L v_L ++ (cl_N g a_N v_N ++ X)))))) H locs → lv_has ls 4 [(0, .ref (a_T 0)), (2, .int w2), (3, .int w3)] → W p l e (rmH 6) s m (List.toArray [.ref (a_T 0), .ref (a_Wa 0), .int x2]) below meth c H locs 0 0 (MQ below (va_Qi (fun r2 (_ : Unit) => r2 = r) (fun _ t => POST g A (cl_X9 g a_T (a_W 0) u_T ++ (cl_X10 g a_Wa (a_B 0) p_Wa_16 u_Wa ++ (cl_X0 g a_B (a_L 0) u_B ++ (cl_X10 g a_W zq_W_0 (a_N 0) zu_W ++ (cl_X5 g a_L u_L zv_L ++ (cl_N g a_N zv_N ++ X)))))) t) A) (List.toArray [.ref (a_T 0), .ref (a_Wa 0), .int x2]) s 0 0 A) (F0 m 33 ls [])), ∀ {u_W : S32} {v_L : S64} {v_N : S64} {w2 : Int32} {w3 : Int32} {H : Heap} {locs : List Loc} {ls : Array Slot}, f_X9_weeksToReading_J33 fu u_T u_Wa u_B u_L p_W_0 (a_B 0) K33 u_W v_L v_N w2 w3 = some (r, zu_W, zv_L, zv_N, zq_W_0) → WD g A s.heap (cl_X9 g a_T (a_W 0) u_T ++ (cl_X10 g a_Wa (a_B 0) p_Wa_16 u_Wa ++ (cl_X0 g a_B (a_L 0) u_B ++ (cl_X10 g a_W (a_B 0) (a_N 0) u_W ++ (cl_X5 g a_L u_L v_L ++ (cl_N g a_N v_N ++ X)))))) H locs → lv_has ls 4 [(0, .ref (a_T 0)), (2, .int w2), (3, .int w3)] → W p l e (rmH 6) s m (List.toArray [.ref (a_T 0), .ref (a_Wa 0), .int x2]) below meth c H locs 0 0 (MQ below (va_Qi (fun r2 (_ : Unit) => r2 = r) (fun _ t => POST g A (cl_X9 g a_T (a_W 0) u_T ++ (cl_X10 g a_Wa (a_B 0) p_Wa_16 u_Wa ++ (cl_X0 g a_B (a_L 0) u_B ++ (cl_X10 g a_W zq_W_0 (a_N 0) zu_W ++ (cl_X5 g a_L u_L zv_L ++ (cl_N g a_N zv_N ++ X)))))) t) A) (List.toArray [.ref (a_T 0), .ref (a_Wa 0), .int x2]) s 0 0 A) (F0 m 33 ls []) := by
    intro K33 hK33 u_W v_L v_N w2 w3 H locs ls hf hw hl
    unfold f_X9_weeksToReading_J33 at hf
    refine lv_iload_n hx hb dX9_weeksToReading_33 rfl (lv_at hl 2 rfl) ?_
    refine lv_bipush (v := 99) hx hb dX9_weeksToReading_34 (by decide) ?_
    refine lv_icmp_gt (tgt := 69) hx hb dX9_weeksToReading_36 (by decide) (fun h_8 => ?_) (fun h_8 => ?_)
    · replace hf := tx_pos hf h_8
      refine lv_bipush (v := -2) hx hb dX9_weeksToReading_69 (by decide) ?_
      obtain ⟨e0, e1, e2, e3, e4⟩ := tx_in5 hf
      rw [← e0, ← e1, ← e2, ← e3, ← e4]
      exact tx_iret S hr hlk hw dX9_weeksToReading_71
    · replace hf := tx_neg hf h_8
      refine lv_aload_n hx hb dX9_weeksToReading_39 rfl (lv_at hl 0 rfl) ?_
      refine gf_X9_20 S hE hw 0 rfl rfl dX9_weeksToReading_40 ?_
      refine lv_iconst (v := 1) hx hb dX9_weeksToReading_43 (by decide) ?_
      refine lv_iconst (v := 0) hx hb dX9_weeksToReading_44 (by decide) ?_
      have hw := hw.u5
      have hw := hw.u5
      have hw := hw.u4
      have hw := hw.u5
      obtain ⟨u_W_10, v_L_11, v_N_12, h_9, hf⟩ := tx_b3_e hf
      refine tx_cv hw (tx_runN S hE hw (c_X10_goWeeks h_9) lk_X9_28 (q0 := 0) rfl rfl rfl hl.1 (rest := []) rfl (Nat.le_of_ble_eq_true rfl) ⟨by decide, by decide⟩ dX9_weeksToReading_45 ⟨Nat.zero_le _, Nat.zero_le _⟩) (fun H locs hw => ?_)
      refine lv_aload_n hx hb dX9_weeksToReading_48 rfl (lv_at hl 0 rfl) ?_
      refine gf_X9_20 S hE hw 30 rfl rfl dX9_weeksToReading_49 ?_
      refine gf_X9_118 S hE hw 0 rfl rfl dX9_weeksToReading_52 ?_
      refine lv_iload_n hx hb dX9_weeksToReading_55 rfl (lv_at hl 1 rfl) ?_
      obtain ⟨h_13, hf⟩ := tx_ck_e hf
      refine tx_iald S hE hw 9 rfl h_13 dX9_weeksToReading_56 ?_
      refine lv_iconst (v := 1) hx hb dX9_weeksToReading_57 (by decide) ?_
      refine lv_icmp_ne (tgt := 63) hx hb dX9_weeksToReading_58 (by decide) (fun h_14 => ?_) (fun h_14 => ?_)
      · replace hf := tx_neg hf h_14
        obtain ⟨y_15, ey_15⟩ : ∃ y : Int32, y = w3 + (1 : Int32) := ⟨_, rfl⟩
        replace hf := tx_let_e hf ey_15
        refine lv_iinc (v := y_15) (lv' := [(3, .int y_15), (0, .ref (a_T 0)), (2, .int w2)]) hx hb dX9_weeksToReading_63 hl (k := 2) rfl (by rw [ey_15]; rfl) (by decide) rfl (fun ls hl => ?_)
        refine lv_goto (tgt := 33) hx hb dX9_weeksToReading_66 (by decide) ?_
        have hw := hw.u3
        have hw := hw.u3
        have hw := hw.u2
        have hw := hw.u3
        have hw := hw.u5
        have hw := hw.u5
        exact hK33 hf hw (lv_sub hl [1, 2, 0] rfl)
      · replace hf := tx_pos hf h_14
        refine lv_iload_n hx hb dX9_weeksToReading_61 rfl (lv_at hl 2 rfl) ?_
        have hw := hw.u3
        have hw := hw.u3
        have hw := hw.u2
        have hw := hw.u3
        have hw := hw.u5
        have hw := hw.u5
        obtain ⟨e0, e1, e2, e3, e4⟩ := tx_in5 hf
        rw [← e0, ← e1, ← e2, ← e3, ← e4]
        exact tx_iret S hr hlk hw dX9_weeksToReading_62
  have L33 : ∀ (n : Nat), ∀ {u_W : S32} {v_L : S64} {v_N : S64} {w2 : Int32} {w3 : Int32} {H : Heap} {locs : List Loc} {ls : Array Slot}, f_X9_weeksToReading_L33 fu u_T u_Wa u_B u_L p_W_0 (a_B 0) n u_W v_L v_N w2 w3 = some (r, zu_W, zv_L, zv_N, zq_W_0) → WD g A s.heap (cl_X9 g a_T (a_W 0) u_T ++ (cl_X10 g a_Wa (a_B 0) p_Wa_16 u_Wa ++ (cl_X0 g a_B (a_L 0) u_B ++ (cl_X10 g a_W (a_B 0) (a_N 0) u_W ++ (cl_X5 g a_L u_L v_L ++ (cl_N g a_N v_N ++ X)))))) H locs → lv_has ls 4 [(0, .ref (a_T 0)), (2, .int w2), (3, .int w3)] → W p l e (rmH 6) s m (List.toArray [.ref (a_T 0), .ref (a_Wa 0), .int x2]) below meth c H locs 0 0 (MQ below (va_Qi (fun r2 (_ : Unit) => r2 = r) (fun _ t => POST g A (cl_X9 g a_T (a_W 0) u_T ++ (cl_X10 g a_Wa (a_B 0) p_Wa_16 u_Wa ++ (cl_X0 g a_B (a_L 0) u_B ++ (cl_X10 g a_W zq_W_0 (a_N 0) zu_W ++ (cl_X5 g a_L u_L zv_L ++ (cl_N g a_N zv_N ++ X)))))) t) A) (List.toArray [.ref (a_T 0), .ref (a_Wa 0), .int x2]) s 0 0 A) (F0 m 33 ls []) := by
    intro  n
    induction n with
    | zero => intro u_W v_L v_N w2 w3 H locs ls hf; exact absurd hf (by intro q; cases q)
    | succ n ih => exact fun hf hw hl => J33 ih hf hw hl
  unfold f_X9_weeksToReading at hf
  refine lv_aload_n hx hb dX9_weeksToReading_0 rfl (lv_at hl 1 rfl) ?_
  refine gf_X9_49 S hE hw 2 rfl rfl dX9_weeksToReading_1 ?_
  refine lv_iload_n hx hb dX9_weeksToReading_4 rfl (lv_at hl 2 rfl) ?_
  have hw := hw.u2
  obtain ⟨r_2, h_1, hf⟩ := tx_b1_e hf
  refine tx_ci hw (tx_runN S hE hw (c_X0_isThought h_1) lk_X9_115 (q0 := 0) rfl rfl rfl hl.1 (rest := []) rfl (Nat.le_of_ble_eq_true rfl) ⟨by decide, by decide⟩ dX9_weeksToReading_5 ⟨Nat.zero_le _, Nat.zero_le _⟩) (fun H locs hw => ?_)
  refine lv_if_ne (tgt := 13) hx hb dX9_weeksToReading_8 (by decide) (fun h_3 => ?_) (fun h_3 => ?_)
  · replace hf := tx_neg hf h_3
    refine lv_aload_n hx hb dX9_weeksToReading_13 rfl (lv_at hl 0 rfl) ?_
    refine gf_X9_20 S hE hw 11 rfl rfl dX9_weeksToReading_14 ?_
    refine lv_aload_n hx hb dX9_weeksToReading_17 rfl (lv_at hl 1 rfl) ?_
    have hw := hw.u2
    have hw := hw.u3
    obtain ⟨u_W_5, h_4, hf⟩ := tx_b1_e hf
    refine tx_cv hw (tx_runN S hE hw (c_X10_copy h_4) lk_X9_24 (q0 := 0) rfl rfl rfl hl.1 (rest := []) rfl (Nat.le_of_ble_eq_true rfl) ⟨by decide, by decide⟩ dX9_weeksToReading_18 ⟨Nat.zero_le _, Nat.zero_le _⟩) (fun H locs hw => ?_)
    refine lv_aload_n hx hb dX9_weeksToReading_21 rfl (lv_at hl 0 rfl) ?_
    refine gf_X9_20 S hE hw 35 rfl rfl dX9_weeksToReading_22 ?_
    refine gf_X9_118 S hE hw 0 rfl rfl dX9_weeksToReading_25 ?_
    refine lv_iload_n hx hb dX9_weeksToReading_28 rfl (lv_at hl 2 rfl) ?_
    refine lv_iconst (v := 0) hx hb dX9_weeksToReading_29 (by decide) ?_
    obtain ⟨h_6, hf⟩ := tx_ck_e hf
    obtain ⟨u_W_7, eu_W_7⟩ : ∃ z : S32, z = up2 u_W_5 13 x2.toNatClampNeg (0 : Int32) := ⟨_, rfl⟩
    replace hf := tx_let_e hf eu_W_7
    refine tx_iast (ws' := cl_X10 g a_W (a_B 0) (a_N 0) u_W_7 ++ (cl_X10 g a_Wa (a_B 0) p_Wa_16 u_Wa ++ (cl_X0 g a_B (a_L 0) u_B ++ (cl_X9 g a_T (a_W 0) u_T ++ (cl_X5 g a_L u_L v_L ++ (cl_N g a_N v_N ++ X)))))) S hE hw 9 rfl h_6 (by rw [eu_W_7]; rfl) dX9_weeksToReading_30 (fun H locs hw => ?_)
    refine lv_iconst (v := 1) hx hb dX9_weeksToReading_31 (by decide) ?_
    refine lv_istore_n (lv' := [(3, .int (1 : Int32)), (0, .ref (a_T 0)), (1, .ref (a_Wa 0)), (2, .int x2)]) hx hb dX9_weeksToReading_32 rfl hl (by decide) rfl (fun ls hl => ?_)
    have hw := hw.u5
    have hw := hw.u5
    have hw := hw.u2
    have hw := hw.u4
    have hw := hw.u4
    have hw := hw.u5
    exact L33 fu hf hw (lv_sub hl [1, 3, 0] rfl)
  · replace hf := tx_pos hf h_3
    refine lv_iconst (v := -1) hx hb dX9_weeksToReading_11 (by decide) ?_
    have hw := hw.u5
    have hw := hw.u5
    have hw := hw.u5
    have hw := hw.u3
    have hw := hw.u5
    have hw := hw.u5
    obtain ⟨e0, e1, e2, e3, e4⟩ := tx_in5 hf
    rw [← e0, ← e1, ← e2, ← e3, ← e4]
    exact tx_iret S hr hlk hw dX9_weeksToReading_12
def f_X11_nextRead (fu : Nat) (u_T : S32) (u_B : S32) (u_Y : S32) (u_W : S32) (u_L : S32) (p_W2_0 : Nat) (pa_B : Nat) (u_W2 : S32) (v_L : S64) (v_N : S64) (x1 : Int32) : Option (Int32 × S32 × S64 × S64 × Nat) := tx_b1 (f_X0_isThought fu u_B x1) fun (r_2 : Int32) => if r_2 = (0 : Int32) then (some ((-1 : Int32), u_W2, v_L, v_N, p_W2_0)) else (tx_b5 (f_X9_weeksToReading fu u_Y u_W u_B u_L p_W2_0 pa_B u_W2 v_L v_N x1) fun (r_5 : Int32) (u_W2_6 : S32) (v_L_7 : S64) (v_N_8 : S64) (q_9 : Nat) => some (r_5, u_W2_6, v_L_7, v_N_8, q_9))
set_option maxHeartbeats 4000000 in
set_option maxRecDepth 100000 in
theorem c_X11_nextRead {l : Launch} {g : GG} {A : Nat → Prop} {X : va_W} {fu : Nat} {a_T a_B a_Y a_W a_W2 a_L a_N : Nat → Nat} {p_T_0 p_T_2 p_T_3 p_T_5 p_T_7 p_T_8 p_T_9 p_W_16 p_W2_0 : Nat} {u_T : S32} {u_B : S32} {u_Y : S32} {u_W : S32} {u_W2 : S32} {u_L : S32} {v_L : S64} {v_N : S64} {x1 : Int32} {r : Int32} {zu_W2 : S32} {zv_L : S64} {zv_N : S64} {zq_W2_0 : Nat} (hf : f_X11_nextRead fu u_T u_B u_Y u_W u_L p_W2_0 (a_B 0) u_W2 v_L v_N x1 = some (r, zu_W2, zv_L, zv_N, zq_W2_0)) : MI l yX11_nextRead cX11_nextRead 2 (some .int) 7 g A (cl_X11 g a_T p_T_0 (a_B 0) p_T_2 p_T_3 (a_W 0) p_T_5 (a_Y 0) p_T_7 p_T_8 p_T_9 u_T ++ (cl_X0 g a_B (a_L 0) u_B ++ (cl_X9 g a_Y (a_W2 0) u_Y ++ (cl_X10 g a_W (a_B 0) p_W_16 u_W ++ (cl_X10 g a_W2 p_W2_0 (a_N 0) u_W2 ++ (cl_X5 g a_L u_L v_L ++ (cl_N g a_N v_N ++ X))))))) [.ref (a_T 0), .int x1] r (cl_X11 g a_T p_T_0 (a_B 0) p_T_2 p_T_3 (a_W 0) p_T_5 (a_Y 0) p_T_7 p_T_8 p_T_9 u_T ++ (cl_X0 g a_B (a_L 0) u_B ++ (cl_X9 g a_Y (a_W2 0) u_Y ++ (cl_X10 g a_W (a_B 0) p_W_16 u_W ++ (cl_X10 g a_W2 zq_W2_0 (a_N 0) zu_W2 ++ (cl_X5 g a_L u_L zv_L ++ (cl_N g a_N zv_N ++ X))))))) := by
  refine tx_start (av := [.ref (a_T 0), .int x1]) (by decide) (Nat.le_of_ble_eq_true rfl) ?_
  intro p e s m below meth c ls S hr hlk hE hw hl
  have S : CallFix p m c cX11_nextRead 2 s (List.toArray [.ref (a_T 0), .int x1]) (Cond.code yX11_nextRead cX11_nextRead 2 (some .int) :: allW) RX11 := S
  have hx := S.1
  have hb := S.2.1
  have hown := S.2.2.2.1
  have hts : ∀ w ∈ allW, w.before (List.toArray [.ref (a_T 0), .int x1]) s = true := fun w h => S.2.2.2.2 w (List.mem_cons_of_mem _ h)
  have hl : lv_has ls 2 [(0, .ref (a_T 0)), (1, .int x1)] := hl
  unfold f_X11_nextRead at hf
  refine lv_aload_n hx hb dX11_nextRead_0 rfl (lv_at hl 0 rfl) ?_
  refine gf_X11_21 S hE hw 0 rfl rfl dX11_nextRead_1 ?_
  refine lv_iload_n hx hb dX11_nextRead_4 rfl (lv_at hl 1 rfl) ?_
  have hw := hw.u1
  obtain ⟨r_2, h_1, hf⟩ := tx_b1_e hf
  refine tx_ci hw (tx_runN S hE hw (c_X0_isThought h_1) lk_X11_120 (q0 := 0) rfl rfl rfl hl.1 (rest := []) rfl (Nat.le_of_ble_eq_true rfl) ⟨by decide, by decide⟩ dX11_nextRead_5 ⟨Nat.zero_le _, Nat.zero_le _⟩) (fun H locs hw => ?_)
  refine lv_if_ne (tgt := 13) hx hb dX11_nextRead_8 (by decide) (fun h_3 => ?_) (fun h_3 => ?_)
  · replace hf := tx_neg hf h_3
    refine lv_aload_n hx hb dX11_nextRead_13 rfl (lv_at hl 0 rfl) ?_
    refine gf_X11_52 S hE hw 11 rfl rfl dX11_nextRead_14 ?_
    refine lv_aload_n hx hb dX11_nextRead_17 rfl (lv_at hl 0 rfl) ?_
    refine gf_X11_42 S hE hw 11 rfl rfl dX11_nextRead_18 ?_
    refine lv_iload_n hx hb dX11_nextRead_21 rfl (lv_at hl 1 rfl) ?_
    have hw := hw.u6
    have hw := hw.u6
    have hw := hw.u6
    have hw := hw.u3
    have hw := hw.u6
    have hw := hw.u6
    obtain ⟨r_5, u_W2_6, v_L_7, v_N_8, q_9, h_4, hf⟩ := tx_b5_e hf
    refine tx_ci hw (tx_runN S hE hw (c_X9_weeksToReading h_4) lk_X11_290 (q0 := 0) rfl rfl rfl hl.1 (rest := []) rfl (Nat.le_of_ble_eq_true rfl) ⟨by decide, by decide⟩ dX11_nextRead_22 ⟨Nat.zero_le _, Nat.zero_le _⟩) (fun H locs hw => ?_)
    have hw := hw.u5
    have hw := hw.u5
    have hw := hw.u5
    have hw := hw.u4
    have hw := hw.u4
    have hw := hw.u5
    have hw := hw.u6
    obtain ⟨e0, e1, e2, e3, e4⟩ := tx_in5 hf
    rw [← e0, ← e1, ← e2, ← e3, ← e4]
    exact tx_iret S hr hlk hw dX11_nextRead_25
  · replace hf := tx_pos hf h_3
    refine lv_iconst (v := -1) hx hb dX11_nextRead_11 (by decide) ?_
    have hw := hw.u6
    have hw := hw.u6
    have hw := hw.u6
    have hw := hw.u6
    have hw := hw.u6
    have hw := hw.u5
    have hw := hw.u6
    obtain ⟨e0, e1, e2, e3, e4⟩ := tx_in5 hf
    rw [← e0, ← e1, ← e2, ← e3, ← e4]
    exact tx_iret S hr hlk hw dX11_nextRead_12
def f_X10_greatest_tX10r5_J43 (fu : Nat) (u_T : S32) (u_B : S32) (K4 : Int32 → Int32 → Option (Int32)) (w2 : Int32) (w3 : Int32) : Option (Int32) := tx_let (w3 + (1 : Int32)) fun (y_8 : Int32) => K4 w2 y_8
def f_X10_greatest_tX10r5_J41 (fu : Nat) (u_T : S32) (u_B : S32) (K4 : Int32 → Int32 → Option (Int32)) (w3 : Int32) : Option (Int32) := f_X10_greatest_tX10r5_J43 fu u_T u_B K4 w3 w3
def f_X10_greatest_tX10r5_J4 (fu : Nat) (u_T : S32) (u_B : S32) (K4 : Int32 → Int32 → Option (Int32)) (w2 : Int32) (w3 : Int32) : Option (Int32) := if (u_B 0 1) ≤ w3 then (some w2) else (if (6 : Int32) ≤ w3 then (some w2) else (if (6 : Int32) ≤ w3 then (some w2) else (if w2 = (-1 : Int32) then (f_X10_greatest_tX10r5_J41 fu u_T u_B K4 w3) else (tx_ck w3 6 <| tx_ck w2 6 <| if (u_T 5 w3.toNatClampNeg) ≤ (u_T 5 w2.toNatClampNeg) then (f_X10_greatest_tX10r5_J43 fu u_T u_B K4 w2 w3) else (f_X10_greatest_tX10r5_J41 fu u_T u_B K4 w3)))))
def f_X10_greatest_tX10r5_L4 (fu : Nat) (u_T : S32) (u_B : S32) : Nat → Int32 → Int32 → Option (Int32)
  | 0 => fun _ _ => none
  | n + 1 => f_X10_greatest_tX10r5_J4 fu u_T u_B (f_X10_greatest_tX10r5_L4 fu u_T u_B n)
def f_X10_greatest_tX10r5 (fu : Nat) (u_T : S32) (u_B : S32) : Option (Int32) := f_X10_greatest_tX10r5_L4 fu u_T u_B fu (-1 : Int32) (0 : Int32)
set_option maxHeartbeats 4000000 in
set_option maxRecDepth 100000 in
theorem c_X10_greatest_tX10r5 {l : Launch} {g : GG} {A : Nat → Prop} {X : va_W} {fu : Nat} {a_T a_B : Nat → Nat} {p_T_16 p_B_17 : Nat} {u_T : S32} {u_B : S32} {r : Int32} (hf : f_X10_greatest_tX10r5 fu u_T u_B = some r) : MI l yX10_greatest cX10_greatest 4 (some .int) 0 g A (cl_X10 g a_T (a_B 0) p_T_16 u_T ++ (cl_X0 g a_B p_B_17 u_B ++ X)) [.ref (a_T 0), .ref (a_T 5)] r (cl_X10 g a_T (a_B 0) p_T_16 u_T ++ (cl_X0 g a_B p_B_17 u_B ++ X)) := by
  refine tx_start (av := [.ref (a_T 0), .ref (a_T 5)]) (by decide) (Nat.le_of_ble_eq_true rfl) ?_
  intro p e s m below meth c ls S hr hlk hE hw hl
  have S : CallFix p m c cX10_greatest 4 s (List.toArray [.ref (a_T 0), .ref (a_T 5)]) (Cond.code yX10_greatest cX10_greatest 4 (some .int) :: allW) RX10 := S
  have hx := S.1
  have hb := S.2.1
  have hown := S.2.2.2.1
  have hts : ∀ w ∈ allW, w.before (List.toArray [.ref (a_T 0), .ref (a_T 5)]) s = true := fun w h => S.2.2.2.2 w (List.mem_cons_of_mem _ h)
  have hl : lv_has ls 4 [(0, .ref (a_T 0)), (1, .ref (a_T 5))] := hl
  have J43 : ∀ {K4 : Int32 → Int32 → Option (Int32)} (hK4 : ∀ {w2 : Int32} {w3 : Int32} {H : Heap} {locs : List Loc} {ls : Array Slot}, K4 w2 w3 = some r → WD g A s.heap (cl_X10 g a_T (a_B 0) p_T_16 u_T ++ (cl_X0 g a_B p_B_17 u_B ++ X)) H locs → lv_has ls 4 [(0, .ref (a_T 0)), (1, .ref (a_T 5)), (2, .int w2), (3, .int w3)] → W p l e (rmH 0) s m (List.toArray [.ref (a_T 0), .ref (a_T 5)]) below meth c H locs 0 0 (MQ below (va_Qi (fun r2 (_ : Unit) => r2 = r) (fun _ t => POST g A (cl_X10 g a_T (a_B 0) p_T_16 u_T ++ (cl_X0 g a_B p_B_17 u_B ++ X)) t) A) (List.toArray [.ref (a_T 0), .ref (a_T 5)]) s 0 0 A) (F0 m 4 ls [])), ∀ {w2 : Int32} {w3 : Int32} {H : Heap} {locs : List Loc} {ls : Array Slot}, f_X10_greatest_tX10r5_J43 fu u_T u_B K4 w2 w3 = some r → WD g A s.heap (cl_X10 g a_T (a_B 0) p_T_16 u_T ++ (cl_X0 g a_B p_B_17 u_B ++ X)) H locs → lv_has ls 4 [(0, .ref (a_T 0)), (1, .ref (a_T 5)), (2, .int w2), (3, .int w3)] → W p l e (rmH 0) s m (List.toArray [.ref (a_T 0), .ref (a_T 5)]) below meth c H locs 0 0 (MQ below (va_Qi (fun r2 (_ : Unit) => r2 = r) (fun _ t => POST g A (cl_X10 g a_T (a_B 0) p_T_16 u_T ++ (cl_X0 g a_B p_B_17 u_B ++ X)) t) A) (List.toArray [.ref (a_T 0), .ref (a_T 5)]) s 0 0 A) (F0 m 43 ls []) := by
    intro K4 hK4 w2 w3 H locs ls hf hw hl
    unfold f_X10_greatest_tX10r5_J43 at hf
    obtain ⟨y_8, ey_8⟩ : ∃ y : Int32, y = w3 + (1 : Int32) := ⟨_, rfl⟩
    replace hf := tx_let_e hf ey_8
    refine lv_iinc (v := y_8) (lv' := [(3, .int y_8), (0, .ref (a_T 0)), (1, .ref (a_T 5)), (2, .int w2)]) hx hb dX10_greatest_43 hl (k := 3) rfl (by rw [ey_8]; rfl) (by decide) rfl (fun ls hl => ?_)
    refine lv_goto (tgt := 4) hx hb dX10_greatest_46 (by decide) ?_
    exact hK4 hf hw (lv_sub hl [1, 2, 3, 0] rfl)
  have J41 : ∀ {K4 : Int32 → Int32 → Option (Int32)} (hK4 : ∀ {w2 : Int32} {w3 : Int32} {H : Heap} {locs : List Loc} {ls : Array Slot}, K4 w2 w3 = some r → WD g A s.heap (cl_X10 g a_T (a_B 0) p_T_16 u_T ++ (cl_X0 g a_B p_B_17 u_B ++ X)) H locs → lv_has ls 4 [(0, .ref (a_T 0)), (1, .ref (a_T 5)), (2, .int w2), (3, .int w3)] → W p l e (rmH 0) s m (List.toArray [.ref (a_T 0), .ref (a_T 5)]) below meth c H locs 0 0 (MQ below (va_Qi (fun r2 (_ : Unit) => r2 = r) (fun _ t => POST g A (cl_X10 g a_T (a_B 0) p_T_16 u_T ++ (cl_X0 g a_B p_B_17 u_B ++ X)) t) A) (List.toArray [.ref (a_T 0), .ref (a_T 5)]) s 0 0 A) (F0 m 4 ls [])), ∀ {w3 : Int32} {H : Heap} {locs : List Loc} {ls : Array Slot}, f_X10_greatest_tX10r5_J41 fu u_T u_B K4 w3 = some r → WD g A s.heap (cl_X10 g a_T (a_B 0) p_T_16 u_T ++ (cl_X0 g a_B p_B_17 u_B ++ X)) H locs → lv_has ls 4 [(0, .ref (a_T 0)), (1, .ref (a_T 5)), (3, .int w3)] → W p l e (rmH 0) s m (List.toArray [.ref (a_T 0), .ref (a_T 5)]) below meth c H locs 0 0 (MQ below (va_Qi (fun r2 (_ : Unit) => r2 = r) (fun _ t => POST g A (cl_X10 g a_T (a_B 0) p_T_16 u_T ++ (cl_X0 g a_B p_B_17 u_B ++ X)) t) A) (List.toArray [.ref (a_T 0), .ref (a_T 5)]) s 0 0 A) (F0 m 41 ls []) := by
    intro K4 hK4 w3 H locs ls hf hw hl
    unfold f_X10_greatest_tX10r5_J41 at hf
    refine lv_iload_n hx hb dX10_greatest_41 rfl (lv_at hl 2 rfl) ?_
    refine lv_istore_n (lv' := [(2, .int w3), (0, .ref (a_T 0)), (1, .ref (a_T 5)), (3, .int w3)]) hx hb dX10_greatest_42 rfl hl (by decide) rfl (fun ls hl => ?_)
    exact J43 hK4 hf hw (lv_sub hl [1, 2, 0, 3] rfl)
  have J4 : ∀ {K4 : Int32 → Int32 → Option (Int32)} (hK4 : ∀ {w2 : Int32} {w3 : Int32} {H : Heap} {locs : List Loc} {ls : Array Slot}, K4 w2 w3 = some r → WD g A s.heap (cl_X10 g a_T (a_B 0) p_T_16 u_T ++ (cl_X0 g a_B p_B_17 u_B ++ X)) H locs → lv_has ls 4 [(0, .ref (a_T 0)), (1, .ref (a_T 5)), (2, .int w2), (3, .int w3)] → W p l e (rmH 0) s m (List.toArray [.ref (a_T 0), .ref (a_T 5)]) below meth c H locs 0 0 (MQ below (va_Qi (fun r2 (_ : Unit) => r2 = r) (fun _ t => POST g A (cl_X10 g a_T (a_B 0) p_T_16 u_T ++ (cl_X0 g a_B p_B_17 u_B ++ X)) t) A) (List.toArray [.ref (a_T 0), .ref (a_T 5)]) s 0 0 A) (F0 m 4 ls [])), ∀ {w2 : Int32} {w3 : Int32} {H : Heap} {locs : List Loc} {ls : Array Slot}, f_X10_greatest_tX10r5_J4 fu u_T u_B K4 w2 w3 = some r → WD g A s.heap (cl_X10 g a_T (a_B 0) p_T_16 u_T ++ (cl_X0 g a_B p_B_17 u_B ++ X)) H locs → lv_has ls 4 [(0, .ref (a_T 0)), (1, .ref (a_T 5)), (2, .int w2), (3, .int w3)] → W p l e (rmH 0) s m (List.toArray [.ref (a_T 0), .ref (a_T 5)]) below meth c H locs 0 0 (MQ below (va_Qi (fun r2 (_ : Unit) => r2 = r) (fun _ t => POST g A (cl_X10 g a_T (a_B 0) p_T_16 u_T ++ (cl_X0 g a_B p_B_17 u_B ++ X)) t) A) (List.toArray [.ref (a_T 0), .ref (a_T 5)]) s 0 0 A) (F0 m 4 ls []) := by
    intro K4 hK4 w2 w3 H locs ls hf hw hl
    unfold f_X10_greatest_tX10r5_J4 at hf
    refine lv_iload_n hx hb dX10_greatest_4 rfl (lv_at hl 3 rfl) ?_
    refine lv_aload_n hx hb dX10_greatest_5 rfl (lv_at hl 0 rfl) ?_
    refine gf_X10_49 S hE hw 0 rfl rfl dX10_greatest_6 ?_
    refine gf_X10_93 S hE hw 12 rfl rfl dX10_greatest_9 ?_
    refine lv_icmp_ge (tgt := 49) hx hb dX10_greatest_12 (by decide) (fun h_1 => ?_) (fun h_1 => ?_)
    · replace hf := tx_pos hf h_1
      refine lv_iload_n hx hb dX10_greatest_49 rfl (lv_at hl 2 rfl) ?_
      obtain e0 := tx_in1 hf
      rw [← e0]
      exact tx_iret S hr hlk hw dX10_greatest_50
    · replace hf := tx_neg hf h_1
      refine lv_iload_n hx hb dX10_greatest_15 rfl (lv_at hl 3 rfl) ?_
      refine lv_bipush (v := 6) hx hb dX10_greatest_16 (by decide) ?_
      refine lv_icmp_ge (tgt := 49) hx hb dX10_greatest_18 (by decide) (fun h_2 => ?_) (fun h_2 => ?_)
      · replace hf := tx_pos hf h_2
        refine lv_iload_n hx hb dX10_greatest_49 rfl (lv_at hl 2 rfl) ?_
        obtain e0 := tx_in1 hf
        rw [← e0]
        exact tx_iret S hr hlk hw dX10_greatest_50
      · replace hf := tx_neg hf h_2
        refine lv_iload_n hx hb dX10_greatest_21 rfl (lv_at hl 3 rfl) ?_
        refine lv_aload_n hx hb dX10_greatest_22 rfl (lv_at hl 1 rfl) ?_
        refine tx_alen (v := 6) S hE hw 1 1 rfl rfl rfl dX10_greatest_23 ?_
        refine lv_icmp_ge (tgt := 49) hx hb dX10_greatest_24 (by decide) (fun h_3 => ?_) (fun h_3 => ?_)
        · replace hf := tx_pos hf h_3
          refine lv_iload_n hx hb dX10_greatest_49 rfl (lv_at hl 2 rfl) ?_
          obtain e0 := tx_in1 hf
          rw [← e0]
          exact tx_iret S hr hlk hw dX10_greatest_50
        · replace hf := tx_neg hf h_3
          refine lv_iload_n hx hb dX10_greatest_27 rfl (lv_at hl 2 rfl) ?_
          refine lv_iconst (v := -1) hx hb dX10_greatest_28 (by decide) ?_
          refine lv_icmp_eq (tgt := 41) hx hb dX10_greatest_29 (by decide) (fun h_4 => ?_) (fun h_4 => ?_)
          · replace hf := tx_pos hf h_4
            exact J41 hK4 hf hw (lv_sub hl [0, 1, 3] rfl)
          · replace hf := tx_neg hf h_4
            refine lv_aload_n hx hb dX10_greatest_32 rfl (lv_at hl 1 rfl) ?_
            refine lv_iload_n hx hb dX10_greatest_33 rfl (lv_at hl 3 rfl) ?_
            obtain ⟨h_5, hf⟩ := tx_ck_e hf
            refine tx_iald S hE hw 1 rfl h_5 dX10_greatest_34 ?_
            refine lv_aload_n hx hb dX10_greatest_35 rfl (lv_at hl 1 rfl) ?_
            refine lv_iload_n hx hb dX10_greatest_36 rfl (lv_at hl 2 rfl) ?_
            obtain ⟨h_6, hf⟩ := tx_ck_e hf
            refine tx_iald S hE hw 1 rfl h_6 dX10_greatest_37 ?_
            refine lv_icmp_le (tgt := 43) hx hb dX10_greatest_38 (by decide) (fun h_7 => ?_) (fun h_7 => ?_)
            · replace hf := tx_pos hf h_7
              exact J43 hK4 hf hw (lv_sub hl [0, 1, 2, 3] rfl)
            · replace hf := tx_neg hf h_7
              exact J41 hK4 hf hw (lv_sub hl [0, 1, 3] rfl)
  have L4 : ∀ (n : Nat), ∀ {w2 : Int32} {w3 : Int32} {H : Heap} {locs : List Loc} {ls : Array Slot}, f_X10_greatest_tX10r5_L4 fu u_T u_B n w2 w3 = some r → WD g A s.heap (cl_X10 g a_T (a_B 0) p_T_16 u_T ++ (cl_X0 g a_B p_B_17 u_B ++ X)) H locs → lv_has ls 4 [(0, .ref (a_T 0)), (1, .ref (a_T 5)), (2, .int w2), (3, .int w3)] → W p l e (rmH 0) s m (List.toArray [.ref (a_T 0), .ref (a_T 5)]) below meth c H locs 0 0 (MQ below (va_Qi (fun r2 (_ : Unit) => r2 = r) (fun _ t => POST g A (cl_X10 g a_T (a_B 0) p_T_16 u_T ++ (cl_X0 g a_B p_B_17 u_B ++ X)) t) A) (List.toArray [.ref (a_T 0), .ref (a_T 5)]) s 0 0 A) (F0 m 4 ls []) := by
    intro  n
    induction n with
    | zero => intro w2 w3 H locs ls hf; exact absurd hf (by intro q; cases q)
    | succ n ih => exact fun hf hw hl => J4 ih hf hw hl
  unfold f_X10_greatest_tX10r5 at hf
  refine lv_iconst (v := -1) hx hb dX10_greatest_0 (by decide) ?_
  refine lv_istore_n (lv' := [(2, .int (-1 : Int32)), (0, .ref (a_T 0)), (1, .ref (a_T 5))]) hx hb dX10_greatest_1 rfl hl (by decide) rfl (fun ls hl => ?_)
  refine lv_iconst (v := 0) hx hb dX10_greatest_2 (by decide) ?_
  refine lv_istore_n (lv' := [(3, .int (0 : Int32)), (2, .int (-1 : Int32)), (0, .ref (a_T 0)), (1, .ref (a_T 5))]) hx hb dX10_greatest_3 rfl hl (by decide) rfl (fun ls hl => ?_)
  exact L4 fu hf hw (lv_sub hl [2, 3, 1, 0] rfl)
def f_X9_richestIn (fu : Nat) (u_T : S32) (u_Wa : S32) (u_B : S32) (u_L : S32) (u_W : S32) (v_L : S64) (v_N : S64) (x2 : Int32) : Option (Int32 × S32 × S64 × S64) := tx_b1 (f_X10_copy fu u_Wa u_W) fun (u_W_2 : S32) => tx_b3 (f_X10_goWeeks fu u_B u_L u_W_2 v_L v_N x2 (0 : Int32)) fun (u_W_4 : S32) (v_L_5 : S64) (v_N_6 : S64) => tx_b1 (f_X10_greatest_tX10r5 fu u_W_4 u_B) fun (r_8 : Int32) => some (r_8, u_W_4, v_L_5, v_N_6)
set_option maxHeartbeats 4000000 in
set_option maxRecDepth 100000 in
theorem c_X9_richestIn {l : Launch} {g : GG} {A : Nat → Prop} {X : va_W} {fu : Nat} {a_T a_Wa a_W a_B a_L a_N : Nat → Nat} {p_Wa_16 p_W_0 : Nat} {u_T : S32} {u_Wa : S32} {u_W : S32} {u_B : S32} {u_L : S32} {v_L : S64} {v_N : S64} {x2 : Int32} {r : Int32} {zu_W : S32} {zv_L : S64} {zv_N : S64} (hf : f_X9_richestIn fu u_T u_Wa u_B u_L u_W v_L v_N x2 = some (r, zu_W, zv_L, zv_N)) : MI l yX9_richestIn cX9_richestIn 3 (some .int) 6 g A (cl_X9 g a_T (a_W 0) u_T ++ (cl_X10 g a_Wa (a_B 0) p_Wa_16 u_Wa ++ (cl_X10 g a_W p_W_0 (a_N 0) u_W ++ (cl_X0 g a_B (a_L 0) u_B ++ (cl_X5 g a_L u_L v_L ++ (cl_N g a_N v_N ++ X)))))) [.ref (a_T 0), .ref (a_Wa 0), .int x2] r (cl_X9 g a_T (a_W 0) u_T ++ (cl_X10 g a_Wa (a_B 0) p_Wa_16 u_Wa ++ (cl_X10 g a_W (a_B 0) (a_N 0) zu_W ++ (cl_X0 g a_B (a_L 0) u_B ++ (cl_X5 g a_L u_L zv_L ++ (cl_N g a_N zv_N ++ X)))))) := by
  refine tx_start (av := [.ref (a_T 0), .ref (a_Wa 0), .int x2]) (by decide) (Nat.le_of_ble_eq_true rfl) ?_
  intro p e s m below meth c ls S hr hlk hE hw hl
  have S : CallFix p m c cX9_richestIn 3 s (List.toArray [.ref (a_T 0), .ref (a_Wa 0), .int x2]) (Cond.code yX9_richestIn cX9_richestIn 3 (some .int) :: allW) RX9 := S
  have hx := S.1
  have hb := S.2.1
  have hown := S.2.2.2.1
  have hts : ∀ w ∈ allW, w.before (List.toArray [.ref (a_T 0), .ref (a_Wa 0), .int x2]) s = true := fun w h => S.2.2.2.2 w (List.mem_cons_of_mem _ h)
  have hl : lv_has ls 3 [(0, .ref (a_T 0)), (1, .ref (a_Wa 0)), (2, .int x2)] := hl
  unfold f_X9_richestIn at hf
  refine lv_aload_n hx hb dX9_richestIn_0 rfl (lv_at hl 0 rfl) ?_
  refine gf_X9_20 S hE hw 0 rfl rfl dX9_richestIn_1 ?_
  refine lv_aload_n hx hb dX9_richestIn_4 rfl (lv_at hl 1 rfl) ?_
  have hw := hw.u1
  have hw := hw.u2
  obtain ⟨u_W_2, h_1, hf⟩ := tx_b1_e hf
  refine tx_cv hw (tx_runN S hE hw (c_X10_copy h_1) lk_X9_24 (q0 := 0) rfl rfl rfl hl.1 (rest := []) rfl (Nat.le_of_ble_eq_true rfl) ⟨by decide, by decide⟩ dX9_richestIn_5 ⟨Nat.zero_le _, Nat.zero_le _⟩) (fun H locs hw => ?_)
  refine lv_aload_n hx hb dX9_richestIn_8 rfl (lv_at hl 0 rfl) ?_
  refine gf_X9_20 S hE hw 24 rfl rfl dX9_richestIn_9 ?_
  refine lv_iload_n hx hb dX9_richestIn_12 rfl (lv_at hl 2 rfl) ?_
  refine lv_iconst (v := 0) hx hb dX9_richestIn_13 (by decide) ?_
  have hw := hw.u5
  have hw := hw.u5
  have hw := hw.u5
  have hw := hw.u3
  obtain ⟨u_W_4, v_L_5, v_N_6, h_3, hf⟩ := tx_b3_e hf
  refine tx_cv hw (tx_runN S hE hw (c_X10_goWeeks h_3) lk_X9_28 (q0 := 0) rfl rfl rfl hl.1 (rest := []) rfl (Nat.le_of_ble_eq_true rfl) ⟨by decide, by decide⟩ dX9_richestIn_14 ⟨Nat.zero_le _, Nat.zero_le _⟩) (fun H locs hw => ?_)
  refine lv_aload_n hx hb dX9_richestIn_17 rfl (lv_at hl 0 rfl) ?_
  refine gf_X9_20 S hE hw 42 rfl rfl dX9_richestIn_18 ?_
  refine lv_aload_n hx hb dX9_richestIn_21 rfl (lv_at hl 0 rfl) ?_
  refine gf_X9_20 S hE hw 42 rfl rfl dX9_richestIn_22 ?_
  refine gf_X9_121 S hE hw 0 rfl rfl dX9_richestIn_25 ?_
  obtain ⟨r_8, h_7, hf⟩ := tx_b1_e hf
  refine tx_ci hw (tx_runN S hE hw (c_X10_greatest_tX10r5 h_7) lk_X9_124 (q0 := 0) rfl rfl rfl hl.1 (rest := []) rfl (Nat.le_of_ble_eq_true rfl) ⟨by decide, by decide⟩ dX9_richestIn_28 ⟨Nat.zero_le _, Nat.zero_le _⟩) (fun H locs hw => ?_)
  have hw := hw.u3
  have hw := hw.u3
  have hw := hw.u3
  have hw := hw.u3
  have hw := hw.u4
  have hw := hw.u5
  obtain ⟨e0, e1, e2, e3⟩ := tx_in4 hf
  rw [← e0, ← e1, ← e2, ← e3]
  exact tx_iret S hr hlk hw dX9_richestIn_31
def f_X11_richest (fu : Nat) (u_T : S32) (u_Y : S32) (u_W : S32) (u_B : S32) (u_L : S32) (p_W2_0 : Nat) (pa_B : Nat) (u_W2 : S32) (v_L : S64) (v_N : S64) (x1 : Int32) : Option (Int32 × S32 × S64 × S64 × Nat) := if x1 < (0 : Int32) then (some ((-1 : Int32), u_W2, v_L, v_N, p_W2_0)) else (if x1 ≤ (99 : Int32) then (tx_b4 (f_X9_richestIn fu u_Y u_W u_B u_L u_W2 v_L v_N x1) fun (r_4 : Int32) (u_W2_5 : S32) (v_L_6 : S64) (v_N_7 : S64) => some (r_4, u_W2_5, v_L_6, v_N_7, pa_B)) else (some ((-1 : Int32), u_W2, v_L, v_N, p_W2_0)))
set_option maxHeartbeats 4000000 in
set_option maxRecDepth 100000 in
theorem c_X11_richest {l : Launch} {g : GG} {A : Nat → Prop} {X : va_W} {fu : Nat} {a_T a_Y a_W a_W2 a_B a_L a_N : Nat → Nat} {p_T_0 p_T_2 p_T_3 p_T_5 p_T_7 p_T_8 p_T_9 p_W_16 p_W2_0 : Nat} {u_T : S32} {u_Y : S32} {u_W : S32} {u_W2 : S32} {u_B : S32} {u_L : S32} {v_L : S64} {v_N : S64} {x1 : Int32} {r : Int32} {zu_W2 : S32} {zv_L : S64} {zv_N : S64} {zq_W2_0 : Nat} (hf : f_X11_richest fu u_T u_Y u_W u_B u_L p_W2_0 (a_B 0) u_W2 v_L v_N x1 = some (r, zu_W2, zv_L, zv_N, zq_W2_0)) : MI l yX11_richest cX11_richest 2 (some .int) 7 g A (cl_X11 g a_T p_T_0 (a_B 0) p_T_2 p_T_3 (a_W 0) p_T_5 (a_Y 0) p_T_7 p_T_8 p_T_9 u_T ++ (cl_X9 g a_Y (a_W2 0) u_Y ++ (cl_X10 g a_W (a_B 0) p_W_16 u_W ++ (cl_X10 g a_W2 p_W2_0 (a_N 0) u_W2 ++ (cl_X0 g a_B (a_L 0) u_B ++ (cl_X5 g a_L u_L v_L ++ (cl_N g a_N v_N ++ X))))))) [.ref (a_T 0), .int x1] r (cl_X11 g a_T p_T_0 (a_B 0) p_T_2 p_T_3 (a_W 0) p_T_5 (a_Y 0) p_T_7 p_T_8 p_T_9 u_T ++ (cl_X9 g a_Y (a_W2 0) u_Y ++ (cl_X10 g a_W (a_B 0) p_W_16 u_W ++ (cl_X10 g a_W2 zq_W2_0 (a_N 0) zu_W2 ++ (cl_X0 g a_B (a_L 0) u_B ++ (cl_X5 g a_L u_L zv_L ++ (cl_N g a_N zv_N ++ X))))))) := by
  refine tx_start (av := [.ref (a_T 0), .int x1]) (by decide) (Nat.le_of_ble_eq_true rfl) ?_
  intro p e s m below meth c ls S hr hlk hE hw hl
  have S : CallFix p m c cX11_richest 2 s (List.toArray [.ref (a_T 0), .int x1]) (Cond.code yX11_richest cX11_richest 2 (some .int) :: allW) RX11 := S
  have hx := S.1
  have hb := S.2.1
  have hown := S.2.2.2.1
  have hts : ∀ w ∈ allW, w.before (List.toArray [.ref (a_T 0), .int x1]) s = true := fun w h => S.2.2.2.2 w (List.mem_cons_of_mem _ h)
  have hl : lv_has ls 2 [(0, .ref (a_T 0)), (1, .int x1)] := hl
  unfold f_X11_richest at hf
  refine lv_iload_n hx hb dX11_richest_0 rfl (lv_at hl 1 rfl) ?_
  refine lv_if_lt (tgt := 10) hx hb dX11_richest_1 (by decide) (fun h_1 => ?_) (fun h_1 => ?_)
  · replace hf := tx_pos hf h_1
    refine lv_iconst (v := -1) hx hb dX11_richest_10 (by decide) ?_
    obtain ⟨e0, e1, e2, e3, e4⟩ := tx_in5 hf
    rw [← e0, ← e1, ← e2, ← e3, ← e4]
    exact tx_iret S hr hlk hw dX11_richest_11
  · replace hf := tx_neg hf h_1
    refine lv_iload_n hx hb dX11_richest_4 rfl (lv_at hl 1 rfl) ?_
    refine lv_bipush (v := 99) hx hb dX11_richest_5 (by decide) ?_
    refine lv_icmp_le (tgt := 12) hx hb dX11_richest_7 (by decide) (fun h_2 => ?_) (fun h_2 => ?_)
    · replace hf := tx_pos hf h_2
      refine lv_aload_n hx hb dX11_richest_12 rfl (lv_at hl 0 rfl) ?_
      refine gf_X11_52 S hE hw 0 rfl rfl dX11_richest_13 ?_
      refine lv_aload_n hx hb dX11_richest_16 rfl (lv_at hl 0 rfl) ?_
      refine gf_X11_42 S hE hw 0 rfl rfl dX11_richest_17 ?_
      refine lv_iload_n hx hb dX11_richest_20 rfl (lv_at hl 1 rfl) ?_
      have hw := hw.u6
      have hw := hw.u6
      have hw := hw.u6
      have hw := hw.u6
      have hw := hw.u6
      have hw := hw.u6
      obtain ⟨r_4, u_W2_5, v_L_6, v_N_7, h_3, hf⟩ := tx_b4_e hf
      refine tx_ci hw (tx_runN S hE hw (c_X9_richestIn h_3) lk_X11_293 (q0 := 0) rfl rfl rfl hl.1 (rest := []) rfl (Nat.le_of_ble_eq_true rfl) ⟨by decide, by decide⟩ dX11_richest_21 ⟨Nat.zero_le _, Nat.zero_le _⟩) (fun H locs hw => ?_)
      have hw := hw.u5
      have hw := hw.u5
      have hw := hw.u5
      have hw := hw.u5
      have hw := hw.u5
      have hw := hw.u5
      have hw := hw.u6
      obtain ⟨e0, e1, e2, e3, e4⟩ := tx_in5 hf
      rw [← e0, ← e1, ← e2, ← e3, ← e4]
      exact tx_iret S hr hlk hw dX11_richest_24
    · replace hf := tx_neg hf h_2
      refine lv_iconst (v := -1) hx hb dX11_richest_10 (by decide) ?_
      obtain ⟨e0, e1, e2, e3, e4⟩ := tx_in5 hf
      rw [← e0, ← e1, ← e2, ← e3, ← e4]
      exact tx_iret S hr hlk hw dX11_richest_11
def f_X10_heldBits_J38 (fu : Nat) (u_T : S32) (u_B : S32) (K4 : Int32 → Int32 → Int32 → Option (Int32)) (w1 : Int32) (w3 : Int32) (t0 : Int32) (t1 : Int32) : Option (Int32) := tx_let (t0 ||| t1) fun (y_6 : Int32) => tx_let (w3 + (1 : Int32)) fun (y_7 : Int32) => K4 w1 y_6 y_7
def f_X10_heldBits_J4 (fu : Nat) (u_T : S32) (u_B : S32) (K4 : Int32 → Int32 → Int32 → Option (Int32)) (w1 : Int32) (w2 : Int32) (w3 : Int32) : Option (Int32) := if (u_B 0 5) ≤ w3 then (some w2) else (if (12 : Int32) ≤ w3 then (some w2) else (tx_b1 (f_X10_isHeldAt fu u_T u_B w3 w1) fun (r_4 : Int32) => if r_4 = (0 : Int32) then (f_X10_heldBits_J38 fu u_T u_B K4 w1 w3 w2 (0 : Int32)) else (f_X10_heldBits_J38 fu u_T u_B K4 w1 w3 w2 ((1 : Int32) <<< (w3 &&& 31)))))
def f_X10_heldBits_L4 (fu : Nat) (u_T : S32) (u_B : S32) : Nat → Int32 → Int32 → Int32 → Option (Int32)
  | 0 => fun _ _ _ => none
  | n + 1 => f_X10_heldBits_J4 fu u_T u_B (f_X10_heldBits_L4 fu u_T u_B n)
def f_X10_heldBits (fu : Nat) (u_T : S32) (u_B : S32) (x1 : Int32) : Option (Int32) := f_X10_heldBits_L4 fu u_T u_B fu x1 (0 : Int32) (0 : Int32)
set_option maxHeartbeats 4000000 in
set_option maxRecDepth 100000 in
theorem c_X10_heldBits {l : Launch} {g : GG} {A : Nat → Prop} {X : va_W} {fu : Nat} {a_T a_B : Nat → Nat} {p_T_16 p_B_17 : Nat} {u_T : S32} {u_B : S32} {x1 : Int32} {r : Int32} (hf : f_X10_heldBits fu u_T u_B x1 = some r) : MI l yX10_heldBits cX10_heldBits 4 (some .int) 2 g A (cl_X10 g a_T (a_B 0) p_T_16 u_T ++ (cl_X0 g a_B p_B_17 u_B ++ X)) [.ref (a_T 0), .int x1] r (cl_X10 g a_T (a_B 0) p_T_16 u_T ++ (cl_X0 g a_B p_B_17 u_B ++ X)) := by
  refine tx_start (av := [.ref (a_T 0), .int x1]) (by decide) (Nat.le_of_ble_eq_true rfl) ?_
  intro p e s m below meth c ls S hr hlk hE hw hl
  have S : CallFix p m c cX10_heldBits 4 s (List.toArray [.ref (a_T 0), .int x1]) (Cond.code yX10_heldBits cX10_heldBits 4 (some .int) :: allW) RX10 := S
  have hx := S.1
  have hb := S.2.1
  have hown := S.2.2.2.1
  have hts : ∀ w ∈ allW, w.before (List.toArray [.ref (a_T 0), .int x1]) s = true := fun w h => S.2.2.2.2 w (List.mem_cons_of_mem _ h)
  have hl : lv_has ls 4 [(0, .ref (a_T 0)), (1, .int x1)] := hl
  have J38 : ∀ {K4 : Int32 → Int32 → Int32 → Option (Int32)} (hK4 : ∀ {w1 : Int32} {w2 : Int32} {w3 : Int32} {H : Heap} {locs : List Loc} {ls : Array Slot}, K4 w1 w2 w3 = some r → WD g A s.heap (cl_X10 g a_T (a_B 0) p_T_16 u_T ++ (cl_X0 g a_B p_B_17 u_B ++ X)) H locs → lv_has ls 4 [(0, .ref (a_T 0)), (1, .int w1), (2, .int w2), (3, .int w3)] → W p l e (rmH 2) s m (List.toArray [.ref (a_T 0), .int x1]) below meth c H locs 0 0 (MQ below (va_Qi (fun r2 (_ : Unit) => r2 = r) (fun _ t => POST g A (cl_X10 g a_T (a_B 0) p_T_16 u_T ++ (cl_X0 g a_B p_B_17 u_B ++ X)) t) A) (List.toArray [.ref (a_T 0), .int x1]) s 0 0 A) (F0 m 4 ls [])), ∀ {w1 : Int32} {w3 : Int32} {t0 : Int32} {t1 : Int32} {H : Heap} {locs : List Loc} {ls : Array Slot}, f_X10_heldBits_J38 fu u_T u_B K4 w1 w3 t0 t1 = some r → WD g A s.heap (cl_X10 g a_T (a_B 0) p_T_16 u_T ++ (cl_X0 g a_B p_B_17 u_B ++ X)) H locs → lv_has ls 4 [(0, .ref (a_T 0)), (1, .int w1), (3, .int w3)] → W p l e (rmH 2) s m (List.toArray [.ref (a_T 0), .int x1]) below meth c H locs 0 0 (MQ below (va_Qi (fun r2 (_ : Unit) => r2 = r) (fun _ t => POST g A (cl_X10 g a_T (a_B 0) p_T_16 u_T ++ (cl_X0 g a_B p_B_17 u_B ++ X)) t) A) (List.toArray [.ref (a_T 0), .int x1]) s 0 0 A) (F0 m 38 ls [.int t1, .int t0]) := by
    intro K4 hK4 w1 w3 t0 t1 H locs ls hf hw hl
    unfold f_X10_heldBits_J38 at hf
    refine lv_ior hx hb dX10_heldBits_38 ?_
    refine lv_topi (fun y_6 ey_6 => ?_)
    replace hf := tx_let_e hf ey_6
    refine lv_istore_n (lv' := [(2, .int y_6), (0, .ref (a_T 0)), (1, .int w1), (3, .int w3)]) hx hb dX10_heldBits_39 rfl hl (by decide) rfl (fun ls hl => ?_)
    obtain ⟨y_7, ey_7⟩ : ∃ y : Int32, y = w3 + (1 : Int32) := ⟨_, rfl⟩
    replace hf := tx_let_e hf ey_7
    refine lv_iinc (v := y_7) (lv' := [(3, .int y_7), (2, .int y_6), (0, .ref (a_T 0)), (1, .int w1)]) hx hb dX10_heldBits_40 hl (k := 3) rfl (by rw [ey_7]; rfl) (by decide) rfl (fun ls hl => ?_)
    refine lv_goto (tgt := 4) hx hb dX10_heldBits_43 (by decide) ?_
    exact hK4 hf hw (lv_sub hl [2, 3, 1, 0] rfl)
  have J4 : ∀ {K4 : Int32 → Int32 → Int32 → Option (Int32)} (hK4 : ∀ {w1 : Int32} {w2 : Int32} {w3 : Int32} {H : Heap} {locs : List Loc} {ls : Array Slot}, K4 w1 w2 w3 = some r → WD g A s.heap (cl_X10 g a_T (a_B 0) p_T_16 u_T ++ (cl_X0 g a_B p_B_17 u_B ++ X)) H locs → lv_has ls 4 [(0, .ref (a_T 0)), (1, .int w1), (2, .int w2), (3, .int w3)] → W p l e (rmH 2) s m (List.toArray [.ref (a_T 0), .int x1]) below meth c H locs 0 0 (MQ below (va_Qi (fun r2 (_ : Unit) => r2 = r) (fun _ t => POST g A (cl_X10 g a_T (a_B 0) p_T_16 u_T ++ (cl_X0 g a_B p_B_17 u_B ++ X)) t) A) (List.toArray [.ref (a_T 0), .int x1]) s 0 0 A) (F0 m 4 ls [])), ∀ {w1 : Int32} {w2 : Int32} {w3 : Int32} {H : Heap} {locs : List Loc} {ls : Array Slot}, f_X10_heldBits_J4 fu u_T u_B K4 w1 w2 w3 = some r → WD g A s.heap (cl_X10 g a_T (a_B 0) p_T_16 u_T ++ (cl_X0 g a_B p_B_17 u_B ++ X)) H locs → lv_has ls 4 [(0, .ref (a_T 0)), (1, .int w1), (2, .int w2), (3, .int w3)] → W p l e (rmH 2) s m (List.toArray [.ref (a_T 0), .int x1]) below meth c H locs 0 0 (MQ below (va_Qi (fun r2 (_ : Unit) => r2 = r) (fun _ t => POST g A (cl_X10 g a_T (a_B 0) p_T_16 u_T ++ (cl_X0 g a_B p_B_17 u_B ++ X)) t) A) (List.toArray [.ref (a_T 0), .int x1]) s 0 0 A) (F0 m 4 ls []) := by
    intro K4 hK4 w1 w2 w3 H locs ls hf hw hl
    unfold f_X10_heldBits_J4 at hf
    refine lv_iload_n hx hb dX10_heldBits_4 rfl (lv_at hl 3 rfl) ?_
    refine lv_aload_n hx hb dX10_heldBits_5 rfl (lv_at hl 0 rfl) ?_
    refine gf_X10_49 S hE hw 0 rfl rfl dX10_heldBits_6 ?_
    refine gf_X10_117 S hE hw 12 rfl rfl dX10_heldBits_9 ?_
    refine lv_icmp_ge (tgt := 46) hx hb dX10_heldBits_12 (by decide) (fun h_1 => ?_) (fun h_1 => ?_)
    · replace hf := tx_pos hf h_1
      refine lv_iload_n hx hb dX10_heldBits_46 rfl (lv_at hl 2 rfl) ?_
      obtain e0 := tx_in1 hf
      rw [← e0]
      exact tx_iret S hr hlk hw dX10_heldBits_47
    · replace hf := tx_neg hf h_1
      refine lv_iload_n hx hb dX10_heldBits_15 rfl (lv_at hl 3 rfl) ?_
      refine lv_bipush (v := 12) hx hb dX10_heldBits_16 (by decide) ?_
      refine lv_icmp_ge (tgt := 46) hx hb dX10_heldBits_18 (by decide) (fun h_2 => ?_) (fun h_2 => ?_)
      · replace hf := tx_pos hf h_2
        refine lv_iload_n hx hb dX10_heldBits_46 rfl (lv_at hl 2 rfl) ?_
        obtain e0 := tx_in1 hf
        rw [← e0]
        exact tx_iret S hr hlk hw dX10_heldBits_47
      · replace hf := tx_neg hf h_2
        refine lv_iload_n hx hb dX10_heldBits_21 rfl (lv_at hl 2 rfl) ?_
        refine lv_aload_n hx hb dX10_heldBits_22 rfl (lv_at hl 0 rfl) ?_
        refine lv_iload_n hx hb dX10_heldBits_23 rfl (lv_at hl 3 rfl) ?_
        refine lv_iload_n hx hb dX10_heldBits_24 rfl (lv_at hl 1 rfl) ?_
        obtain ⟨r_4, h_3, hf⟩ := tx_b1_e hf
        refine tx_ci hw (tx_runV S hE hw (c_X10_isHeldAt h_3) lk_X10_133 (q0 := 0) rfl rfl rfl hl.1 (rest := [.int w2]) rfl (Nat.le_of_ble_eq_true rfl) ⟨by decide, by decide⟩ dX10_heldBits_25 ⟨Nat.zero_le _, Nat.zero_le _⟩) (fun H locs hw => ?_)
        refine lv_if_eq (tgt := 37) hx hb dX10_heldBits_28 (by decide) (fun h_5 => ?_) (fun h_5 => ?_)
        · replace hf := tx_pos hf h_5
          refine lv_iconst (v := 0) hx hb dX10_heldBits_37 (by decide) ?_
          exact J38 hK4 hf hw (lv_sub hl [0, 1, 3] rfl)
        · replace hf := tx_neg hf h_5
          refine lv_iconst (v := 1) hx hb dX10_heldBits_31 (by decide) ?_
          refine lv_iload_n hx hb dX10_heldBits_32 rfl (lv_at hl 3 rfl) ?_
          refine lv_ishl hx hb dX10_heldBits_33 ?_
          refine lv_goto (tgt := 38) hx hb dX10_heldBits_34 (by decide) ?_
          exact J38 hK4 hf hw (lv_sub hl [0, 1, 3] rfl)
  have L4 : ∀ (n : Nat), ∀ {w1 : Int32} {w2 : Int32} {w3 : Int32} {H : Heap} {locs : List Loc} {ls : Array Slot}, f_X10_heldBits_L4 fu u_T u_B n w1 w2 w3 = some r → WD g A s.heap (cl_X10 g a_T (a_B 0) p_T_16 u_T ++ (cl_X0 g a_B p_B_17 u_B ++ X)) H locs → lv_has ls 4 [(0, .ref (a_T 0)), (1, .int w1), (2, .int w2), (3, .int w3)] → W p l e (rmH 2) s m (List.toArray [.ref (a_T 0), .int x1]) below meth c H locs 0 0 (MQ below (va_Qi (fun r2 (_ : Unit) => r2 = r) (fun _ t => POST g A (cl_X10 g a_T (a_B 0) p_T_16 u_T ++ (cl_X0 g a_B p_B_17 u_B ++ X)) t) A) (List.toArray [.ref (a_T 0), .int x1]) s 0 0 A) (F0 m 4 ls []) := by
    intro  n
    induction n with
    | zero => intro w1 w2 w3 H locs ls hf; exact absurd hf (by intro q; cases q)
    | succ n ih => exact fun hf hw hl => J4 ih hf hw hl
  unfold f_X10_heldBits at hf
  refine lv_iconst (v := 0) hx hb dX10_heldBits_0 (by decide) ?_
  refine lv_istore_n (lv' := [(2, .int (0 : Int32)), (0, .ref (a_T 0)), (1, .int x1)]) hx hb dX10_heldBits_1 rfl hl (by decide) rfl (fun ls hl => ?_)
  refine lv_iconst (v := 0) hx hb dX10_heldBits_2 (by decide) ?_
  refine lv_istore_n (lv' := [(3, .int (0 : Int32)), (2, .int (0 : Int32)), (0, .ref (a_T 0)), (1, .int x1)]) hx hb dX10_heldBits_3 rfl hl (by decide) rfl (fun ls hl => ?_)
  exact L4 fu hf hw (lv_sub hl [2, 3, 1, 0] rfl)
def f_X11_holds (fu : Nat) (u_T : S32) (u_B : S32) (u_W : S32) (x1 : Int32) : Option (Int32) := tx_b1 (f_X0_isMan fu u_B x1) fun (r_2 : Int32) => if r_2 = (0 : Int32) then (some (-1 : Int32)) else (tx_b1 (f_X10_heldBits fu u_W u_B x1) fun (r_5 : Int32) => some r_5)
set_option maxHeartbeats 4000000 in
set_option maxRecDepth 100000 in
theorem c_X11_holds {l : Launch} {g : GG} {A : Nat → Prop} {X : va_W} {fu : Nat} {a_T a_B a_W : Nat → Nat} {p_T_0 p_T_2 p_T_3 p_T_5 p_T_6 p_T_7 p_T_8 p_T_9 p_B_17 p_W_16 : Nat} {u_T : S32} {u_B : S32} {u_W : S32} {x1 : Int32} {r : Int32} (hf : f_X11_holds fu u_T u_B u_W x1 = some r) : MI l yX11_holds cX11_holds 2 (some .int) 3 g A (cl_X11 g a_T p_T_0 (a_B 0) p_T_2 p_T_3 (a_W 0) p_T_5 p_T_6 p_T_7 p_T_8 p_T_9 u_T ++ (cl_X0 g a_B p_B_17 u_B ++ (cl_X10 g a_W (a_B 0) p_W_16 u_W ++ X))) [.ref (a_T 0), .int x1] r (cl_X11 g a_T p_T_0 (a_B 0) p_T_2 p_T_3 (a_W 0) p_T_5 p_T_6 p_T_7 p_T_8 p_T_9 u_T ++ (cl_X0 g a_B p_B_17 u_B ++ (cl_X10 g a_W (a_B 0) p_W_16 u_W ++ X))) := by
  refine tx_start (av := [.ref (a_T 0), .int x1]) (by decide) (Nat.le_of_ble_eq_true rfl) ?_
  intro p e s m below meth c ls S hr hlk hE hw hl
  have S : CallFix p m c cX11_holds 2 s (List.toArray [.ref (a_T 0), .int x1]) (Cond.code yX11_holds cX11_holds 2 (some .int) :: allW) RX11 := S
  have hx := S.1
  have hb := S.2.1
  have hown := S.2.2.2.1
  have hts : ∀ w ∈ allW, w.before (List.toArray [.ref (a_T 0), .int x1]) s = true := fun w h => S.2.2.2.2 w (List.mem_cons_of_mem _ h)
  have hl : lv_has ls 2 [(0, .ref (a_T 0)), (1, .int x1)] := hl
  unfold f_X11_holds at hf
  refine lv_aload_n hx hb dX11_holds_0 rfl (lv_at hl 0 rfl) ?_
  refine gf_X11_21 S hE hw 0 rfl rfl dX11_holds_1 ?_
  refine lv_iload_n hx hb dX11_holds_4 rfl (lv_at hl 1 rfl) ?_
  have hw := hw.u1
  obtain ⟨r_2, h_1, hf⟩ := tx_b1_e hf
  refine tx_ci hw (tx_runN S hE hw (c_X0_isMan h_1) lk_X11_157 (q0 := 0) rfl rfl rfl hl.1 (rest := []) rfl (Nat.le_of_ble_eq_true rfl) ⟨by decide, by decide⟩ dX11_holds_5 ⟨Nat.zero_le _, Nat.zero_le _⟩) (fun H locs hw => ?_)
  refine lv_if_ne (tgt := 13) hx hb dX11_holds_8 (by decide) (fun h_3 => ?_) (fun h_3 => ?_)
  · replace hf := tx_neg hf h_3
    refine lv_aload_n hx hb dX11_holds_13 rfl (lv_at hl 0 rfl) ?_
    refine gf_X11_42 S hE hw 11 rfl rfl dX11_holds_14 ?_
    refine lv_iload_n hx hb dX11_holds_17 rfl (lv_at hl 1 rfl) ?_
    have hw := hw.u2
    obtain ⟨r_5, h_4, hf⟩ := tx_b1_e hf
    refine tx_ci hw (tx_runN S hE hw (c_X10_heldBits h_4) lk_X11_296 (q0 := 0) rfl rfl rfl hl.1 (rest := []) rfl (Nat.le_of_ble_eq_true rfl) ⟨by decide, by decide⟩ dX11_holds_18 ⟨Nat.zero_le _, Nat.zero_le _⟩) (fun H locs hw => ?_)
    have hw := hw.u1
    have hw := hw.u2
    obtain e0 := tx_in1 hf
    rw [← e0]
    exact tx_iret S hr hlk hw dX11_holds_21
  · replace hf := tx_pos hf h_3
    refine lv_iconst (v := -1) hx hb dX11_holds_11 (by decide) ?_
    have hw := hw.u2
    have hw := hw.u1
    have hw := hw.u2
    obtain e0 := tx_in1 hf
    rw [← e0]
    exact tx_iret S hr hlk hw dX11_holds_12
def f_X10_hiddenBits_J55 (fu : Nat) (u_T : S32) (u_B : S32) (K4 : Int32 → Int32 → Option (Int32)) (w2 : Int32) (t0 : Int32) (t1 : Int32) : Option (Int32) := tx_let (t0 ||| t1) fun (y_9 : Int32) => tx_let (w2 + (1 : Int32)) fun (y_10 : Int32) => K4 y_9 y_10
def f_X10_hiddenBits_J54 (fu : Nat) (u_T : S32) (u_B : S32) (K4 : Int32 → Int32 → Option (Int32)) (w2 : Int32) (t0 : Int32) : Option (Int32) := f_X10_hiddenBits_J55 fu u_T u_B K4 w2 t0 (0 : Int32)
def f_X10_hiddenBits_J4 (fu : Nat) (u_T : S32) (u_B : S32) (K4 : Int32 → Int32 → Option (Int32)) (w1 : Int32) (w2 : Int32) : Option (Int32) := if (u_B 0 5) ≤ w2 then (some w1) else (if (12 : Int32) ≤ w2 then (some w1) else (tx_b1 (f_X10_isHeld fu u_T u_B w2) fun (r_4 : Int32) => if r_4 = (0 : Int32) then (f_X10_hiddenBits_J54 fu u_T u_B K4 w2 w1) else (tx_ck w2 12 <| tx_ck w2 12 <| if (u_T 12 w2.toNatClampNeg) = (u_B 7 w2.toNatClampNeg) then (f_X10_hiddenBits_J54 fu u_T u_B K4 w2 w1) else (f_X10_hiddenBits_J55 fu u_T u_B K4 w2 w1 ((1 : Int32) <<< (w2 &&& 31))))))
def f_X10_hiddenBits_L4 (fu : Nat) (u_T : S32) (u_B : S32) : Nat → Int32 → Int32 → Option (Int32)
  | 0 => fun _ _ => none
  | n + 1 => f_X10_hiddenBits_J4 fu u_T u_B (f_X10_hiddenBits_L4 fu u_T u_B n)
def f_X10_hiddenBits (fu : Nat) (u_T : S32) (u_B : S32) : Option (Int32) := f_X10_hiddenBits_L4 fu u_T u_B fu (0 : Int32) (0 : Int32)
set_option maxHeartbeats 4000000 in
set_option maxRecDepth 100000 in
theorem c_X10_hiddenBits {l : Launch} {g : GG} {A : Nat → Prop} {X : va_W} {fu : Nat} {a_T a_B : Nat → Nat} {p_T_16 p_B_17 : Nat} {u_T : S32} {u_B : S32} {r : Int32} (hf : f_X10_hiddenBits fu u_T u_B = some r) : MI l yX10_hiddenBits cX10_hiddenBits 3 (some .int) 2 g A (cl_X10 g a_T (a_B 0) p_T_16 u_T ++ (cl_X0 g a_B p_B_17 u_B ++ X)) [.ref (a_T 0)] r (cl_X10 g a_T (a_B 0) p_T_16 u_T ++ (cl_X0 g a_B p_B_17 u_B ++ X)) := by
  refine tx_start (av := [.ref (a_T 0)]) (by decide) (Nat.le_of_ble_eq_true rfl) ?_
  intro p e s m below meth c ls S hr hlk hE hw hl
  have S : CallFix p m c cX10_hiddenBits 3 s (List.toArray [.ref (a_T 0)]) (Cond.code yX10_hiddenBits cX10_hiddenBits 3 (some .int) :: allW) RX10 := S
  have hx := S.1
  have hb := S.2.1
  have hown := S.2.2.2.1
  have hts : ∀ w ∈ allW, w.before (List.toArray [.ref (a_T 0)]) s = true := fun w h => S.2.2.2.2 w (List.mem_cons_of_mem _ h)
  have hl : lv_has ls 3 [(0, .ref (a_T 0))] := hl
  have J55 : ∀ {K4 : Int32 → Int32 → Option (Int32)} (hK4 : ∀ {w1 : Int32} {w2 : Int32} {H : Heap} {locs : List Loc} {ls : Array Slot}, K4 w1 w2 = some r → WD g A s.heap (cl_X10 g a_T (a_B 0) p_T_16 u_T ++ (cl_X0 g a_B p_B_17 u_B ++ X)) H locs → lv_has ls 3 [(0, .ref (a_T 0)), (1, .int w1), (2, .int w2)] → W p l e (rmH 2) s m (List.toArray [.ref (a_T 0)]) below meth c H locs 0 0 (MQ below (va_Qi (fun r2 (_ : Unit) => r2 = r) (fun _ t => POST g A (cl_X10 g a_T (a_B 0) p_T_16 u_T ++ (cl_X0 g a_B p_B_17 u_B ++ X)) t) A) (List.toArray [.ref (a_T 0)]) s 0 0 A) (F0 m 4 ls [])), ∀ {w2 : Int32} {t0 : Int32} {t1 : Int32} {H : Heap} {locs : List Loc} {ls : Array Slot}, f_X10_hiddenBits_J55 fu u_T u_B K4 w2 t0 t1 = some r → WD g A s.heap (cl_X10 g a_T (a_B 0) p_T_16 u_T ++ (cl_X0 g a_B p_B_17 u_B ++ X)) H locs → lv_has ls 3 [(0, .ref (a_T 0)), (2, .int w2)] → W p l e (rmH 2) s m (List.toArray [.ref (a_T 0)]) below meth c H locs 0 0 (MQ below (va_Qi (fun r2 (_ : Unit) => r2 = r) (fun _ t => POST g A (cl_X10 g a_T (a_B 0) p_T_16 u_T ++ (cl_X0 g a_B p_B_17 u_B ++ X)) t) A) (List.toArray [.ref (a_T 0)]) s 0 0 A) (F0 m 55 ls [.int t1, .int t0]) := by
    intro K4 hK4 w2 t0 t1 H locs ls hf hw hl
    unfold f_X10_hiddenBits_J55 at hf
    refine lv_ior hx hb dX10_hiddenBits_55 ?_
    refine lv_topi (fun y_9 ey_9 => ?_)
    replace hf := tx_let_e hf ey_9
    refine lv_istore_n (lv' := [(1, .int y_9), (0, .ref (a_T 0)), (2, .int w2)]) hx hb dX10_hiddenBits_56 rfl hl (by decide) rfl (fun ls hl => ?_)
    obtain ⟨y_10, ey_10⟩ : ∃ y : Int32, y = w2 + (1 : Int32) := ⟨_, rfl⟩
    replace hf := tx_let_e hf ey_10
    refine lv_iinc (v := y_10) (lv' := [(2, .int y_10), (1, .int y_9), (0, .ref (a_T 0))]) hx hb dX10_hiddenBits_57 hl (k := 2) rfl (by rw [ey_10]; rfl) (by decide) rfl (fun ls hl => ?_)
    refine lv_goto (tgt := 4) hx hb dX10_hiddenBits_60 (by decide) ?_
    exact hK4 hf hw (lv_sub hl [2, 1, 0] rfl)
  have J54 : ∀ {K4 : Int32 → Int32 → Option (Int32)} (hK4 : ∀ {w1 : Int32} {w2 : Int32} {H : Heap} {locs : List Loc} {ls : Array Slot}, K4 w1 w2 = some r → WD g A s.heap (cl_X10 g a_T (a_B 0) p_T_16 u_T ++ (cl_X0 g a_B p_B_17 u_B ++ X)) H locs → lv_has ls 3 [(0, .ref (a_T 0)), (1, .int w1), (2, .int w2)] → W p l e (rmH 2) s m (List.toArray [.ref (a_T 0)]) below meth c H locs 0 0 (MQ below (va_Qi (fun r2 (_ : Unit) => r2 = r) (fun _ t => POST g A (cl_X10 g a_T (a_B 0) p_T_16 u_T ++ (cl_X0 g a_B p_B_17 u_B ++ X)) t) A) (List.toArray [.ref (a_T 0)]) s 0 0 A) (F0 m 4 ls [])), ∀ {w2 : Int32} {t0 : Int32} {H : Heap} {locs : List Loc} {ls : Array Slot}, f_X10_hiddenBits_J54 fu u_T u_B K4 w2 t0 = some r → WD g A s.heap (cl_X10 g a_T (a_B 0) p_T_16 u_T ++ (cl_X0 g a_B p_B_17 u_B ++ X)) H locs → lv_has ls 3 [(0, .ref (a_T 0)), (2, .int w2)] → W p l e (rmH 2) s m (List.toArray [.ref (a_T 0)]) below meth c H locs 0 0 (MQ below (va_Qi (fun r2 (_ : Unit) => r2 = r) (fun _ t => POST g A (cl_X10 g a_T (a_B 0) p_T_16 u_T ++ (cl_X0 g a_B p_B_17 u_B ++ X)) t) A) (List.toArray [.ref (a_T 0)]) s 0 0 A) (F0 m 54 ls [.int t0]) := by
    intro K4 hK4 w2 t0 H locs ls hf hw hl
    unfold f_X10_hiddenBits_J54 at hf
    refine lv_iconst (v := 0) hx hb dX10_hiddenBits_54 (by decide) ?_
    exact J55 hK4 hf hw (lv_sub hl [0, 1] rfl)
  have J4 : ∀ {K4 : Int32 → Int32 → Option (Int32)} (hK4 : ∀ {w1 : Int32} {w2 : Int32} {H : Heap} {locs : List Loc} {ls : Array Slot}, K4 w1 w2 = some r → WD g A s.heap (cl_X10 g a_T (a_B 0) p_T_16 u_T ++ (cl_X0 g a_B p_B_17 u_B ++ X)) H locs → lv_has ls 3 [(0, .ref (a_T 0)), (1, .int w1), (2, .int w2)] → W p l e (rmH 2) s m (List.toArray [.ref (a_T 0)]) below meth c H locs 0 0 (MQ below (va_Qi (fun r2 (_ : Unit) => r2 = r) (fun _ t => POST g A (cl_X10 g a_T (a_B 0) p_T_16 u_T ++ (cl_X0 g a_B p_B_17 u_B ++ X)) t) A) (List.toArray [.ref (a_T 0)]) s 0 0 A) (F0 m 4 ls [])), ∀ {w1 : Int32} {w2 : Int32} {H : Heap} {locs : List Loc} {ls : Array Slot}, f_X10_hiddenBits_J4 fu u_T u_B K4 w1 w2 = some r → WD g A s.heap (cl_X10 g a_T (a_B 0) p_T_16 u_T ++ (cl_X0 g a_B p_B_17 u_B ++ X)) H locs → lv_has ls 3 [(0, .ref (a_T 0)), (1, .int w1), (2, .int w2)] → W p l e (rmH 2) s m (List.toArray [.ref (a_T 0)]) below meth c H locs 0 0 (MQ below (va_Qi (fun r2 (_ : Unit) => r2 = r) (fun _ t => POST g A (cl_X10 g a_T (a_B 0) p_T_16 u_T ++ (cl_X0 g a_B p_B_17 u_B ++ X)) t) A) (List.toArray [.ref (a_T 0)]) s 0 0 A) (F0 m 4 ls []) := by
    intro K4 hK4 w1 w2 H locs ls hf hw hl
    unfold f_X10_hiddenBits_J4 at hf
    refine lv_iload_n hx hb dX10_hiddenBits_4 rfl (lv_at hl 2 rfl) ?_
    refine lv_aload_n hx hb dX10_hiddenBits_5 rfl (lv_at hl 0 rfl) ?_
    refine gf_X10_49 S hE hw 0 rfl rfl dX10_hiddenBits_6 ?_
    refine gf_X10_117 S hE hw 12 rfl rfl dX10_hiddenBits_9 ?_
    refine lv_icmp_ge (tgt := 63) hx hb dX10_hiddenBits_12 (by decide) (fun h_1 => ?_) (fun h_1 => ?_)
    · replace hf := tx_pos hf h_1
      refine lv_iload_n hx hb dX10_hiddenBits_63 rfl (lv_at hl 1 rfl) ?_
      obtain e0 := tx_in1 hf
      rw [← e0]
      exact tx_iret S hr hlk hw dX10_hiddenBits_64
    · replace hf := tx_neg hf h_1
      refine lv_iload_n hx hb dX10_hiddenBits_15 rfl (lv_at hl 2 rfl) ?_
      refine lv_bipush (v := 12) hx hb dX10_hiddenBits_16 (by decide) ?_
      refine lv_icmp_ge (tgt := 63) hx hb dX10_hiddenBits_18 (by decide) (fun h_2 => ?_) (fun h_2 => ?_)
      · replace hf := tx_pos hf h_2
        refine lv_iload_n hx hb dX10_hiddenBits_63 rfl (lv_at hl 1 rfl) ?_
        obtain e0 := tx_in1 hf
        rw [← e0]
        exact tx_iret S hr hlk hw dX10_hiddenBits_64
      · replace hf := tx_neg hf h_2
        refine lv_iload_n hx hb dX10_hiddenBits_21 rfl (lv_at hl 1 rfl) ?_
        refine lv_aload_n hx hb dX10_hiddenBits_22 rfl (lv_at hl 0 rfl) ?_
        refine lv_iload_n hx hb dX10_hiddenBits_23 rfl (lv_at hl 2 rfl) ?_
        obtain ⟨r_4, h_3, hf⟩ := tx_b1_e hf
        refine tx_ci hw (tx_runV S hE hw (c_X10_isHeld h_3) lk_X10_172 (q0 := 0) rfl rfl rfl hl.1 (rest := [.int w1]) rfl (Nat.le_of_ble_eq_true rfl) ⟨by decide, by decide⟩ dX10_hiddenBits_24 ⟨Nat.zero_le _, Nat.zero_le _⟩) (fun H locs hw => ?_)
        refine lv_if_eq (tgt := 54) hx hb dX10_hiddenBits_27 (by decide) (fun h_5 => ?_) (fun h_5 => ?_)
        · replace hf := tx_pos hf h_5
          exact J54 hK4 hf hw (lv_sub hl [0, 2] rfl)
        · replace hf := tx_neg hf h_5
          refine lv_aload_n hx hb dX10_hiddenBits_30 rfl (lv_at hl 0 rfl) ?_
          refine gf_X10_33 S hE hw 0 rfl rfl dX10_hiddenBits_31 ?_
          refine lv_iload_n hx hb dX10_hiddenBits_34 rfl (lv_at hl 2 rfl) ?_
          obtain ⟨h_6, hf⟩ := tx_ck_e hf
          refine tx_iald S hE hw 8 rfl h_6 dX10_hiddenBits_35 ?_
          refine lv_aload_n hx hb dX10_hiddenBits_36 rfl (lv_at hl 0 rfl) ?_
          refine gf_X10_49 S hE hw 0 rfl rfl dX10_hiddenBits_37 ?_
          refine gf_X10_123 S hE hw 12 rfl rfl dX10_hiddenBits_40 ?_
          refine lv_iload_n hx hb dX10_hiddenBits_43 rfl (lv_at hl 2 rfl) ?_
          obtain ⟨h_7, hf⟩ := tx_ck_e hf
          refine tx_iald S hE hw 16 rfl h_7 dX10_hiddenBits_44 ?_
          refine lv_icmp_eq (tgt := 54) hx hb dX10_hiddenBits_45 (by decide) (fun h_8 => ?_) (fun h_8 => ?_)
          · replace hf := tx_pos hf h_8
            exact J54 hK4 hf hw (lv_sub hl [0, 2] rfl)
          · replace hf := tx_neg hf h_8
            refine lv_iconst (v := 1) hx hb dX10_hiddenBits_48 (by decide) ?_
            refine lv_iload_n hx hb dX10_hiddenBits_49 rfl (lv_at hl 2 rfl) ?_
            refine lv_ishl hx hb dX10_hiddenBits_50 ?_
            refine lv_goto (tgt := 55) hx hb dX10_hiddenBits_51 (by decide) ?_
            exact J55 hK4 hf hw (lv_sub hl [0, 2] rfl)
  have L4 : ∀ (n : Nat), ∀ {w1 : Int32} {w2 : Int32} {H : Heap} {locs : List Loc} {ls : Array Slot}, f_X10_hiddenBits_L4 fu u_T u_B n w1 w2 = some r → WD g A s.heap (cl_X10 g a_T (a_B 0) p_T_16 u_T ++ (cl_X0 g a_B p_B_17 u_B ++ X)) H locs → lv_has ls 3 [(0, .ref (a_T 0)), (1, .int w1), (2, .int w2)] → W p l e (rmH 2) s m (List.toArray [.ref (a_T 0)]) below meth c H locs 0 0 (MQ below (va_Qi (fun r2 (_ : Unit) => r2 = r) (fun _ t => POST g A (cl_X10 g a_T (a_B 0) p_T_16 u_T ++ (cl_X0 g a_B p_B_17 u_B ++ X)) t) A) (List.toArray [.ref (a_T 0)]) s 0 0 A) (F0 m 4 ls []) := by
    intro  n
    induction n with
    | zero => intro w1 w2 H locs ls hf; exact absurd hf (by intro q; cases q)
    | succ n ih => exact fun hf hw hl => J4 ih hf hw hl
  unfold f_X10_hiddenBits at hf
  refine lv_iconst (v := 0) hx hb dX10_hiddenBits_0 (by decide) ?_
  refine lv_istore_n (lv' := [(1, .int (0 : Int32)), (0, .ref (a_T 0))]) hx hb dX10_hiddenBits_1 rfl hl (by decide) rfl (fun ls hl => ?_)
  refine lv_iconst (v := 0) hx hb dX10_hiddenBits_2 (by decide) ?_
  refine lv_istore_n (lv' := [(2, .int (0 : Int32)), (1, .int (0 : Int32)), (0, .ref (a_T 0))]) hx hb dX10_hiddenBits_3 rfl hl (by decide) rfl (fun ls hl => ?_)
  exact L4 fu hf hw (lv_sub hl [2, 1, 0] rfl)
def f_X11_hidden (fu : Nat) (u_T : S32) (u_W : S32) (u_B : S32) : Option (Int32) := tx_b1 (f_X10_hiddenBits fu u_W u_B) fun (r_2 : Int32) => some r_2
set_option maxHeartbeats 4000000 in
set_option maxRecDepth 100000 in
theorem c_X11_hidden {l : Launch} {g : GG} {A : Nat → Prop} {X : va_W} {fu : Nat} {a_T a_W a_B : Nat → Nat} {p_T_0 p_T_2 p_T_3 p_T_5 p_T_6 p_T_7 p_T_8 p_T_9 p_W_16 p_B_17 : Nat} {u_T : S32} {u_W : S32} {u_B : S32} {r : Int32} (hf : f_X11_hidden fu u_T u_W u_B = some r) : MI l yX11_hidden cX11_hidden 1 (some .int) 3 g A (cl_X11 g a_T p_T_0 (a_B 0) p_T_2 p_T_3 (a_W 0) p_T_5 p_T_6 p_T_7 p_T_8 p_T_9 u_T ++ (cl_X10 g a_W (a_B 0) p_W_16 u_W ++ (cl_X0 g a_B p_B_17 u_B ++ X))) [.ref (a_T 0)] r (cl_X11 g a_T p_T_0 (a_B 0) p_T_2 p_T_3 (a_W 0) p_T_5 p_T_6 p_T_7 p_T_8 p_T_9 u_T ++ (cl_X10 g a_W (a_B 0) p_W_16 u_W ++ (cl_X0 g a_B p_B_17 u_B ++ X))) := by
  refine tx_start (av := [.ref (a_T 0)]) (by decide) (Nat.le_of_ble_eq_true rfl) ?_
  intro p e s m below meth c ls S hr hlk hE hw hl
  have S : CallFix p m c cX11_hidden 1 s (List.toArray [.ref (a_T 0)]) (Cond.code yX11_hidden cX11_hidden 1 (some .int) :: allW) RX11 := S
  have hx := S.1
  have hb := S.2.1
  have hown := S.2.2.2.1
  have hts : ∀ w ∈ allW, w.before (List.toArray [.ref (a_T 0)]) s = true := fun w h => S.2.2.2.2 w (List.mem_cons_of_mem _ h)
  have hl : lv_has ls 1 [(0, .ref (a_T 0))] := hl
  unfold f_X11_hidden at hf
  refine lv_aload_n hx hb dX11_hidden_0 rfl (lv_at hl 0 rfl) ?_
  refine gf_X11_42 S hE hw 0 rfl rfl dX11_hidden_1 ?_
  have hw := hw.u2
  have hw := hw.u2
  obtain ⟨r_2, h_1, hf⟩ := tx_b1_e hf
  refine tx_ci hw (tx_runN S hE hw (c_X10_hiddenBits h_1) lk_X11_299 (q0 := 0) rfl rfl rfl hl.1 (rest := []) rfl (Nat.le_of_ble_eq_true rfl) ⟨by decide, by decide⟩ dX11_hidden_4 ⟨Nat.zero_le _, Nat.zero_le _⟩) (fun H locs hw => ?_)
  have hw := hw.u1
  have hw := hw.u1
  have hw := hw.u2
  obtain e0 := tx_in1 hf
  rw [← e0]
  exact tx_iret S hr hlk hw dX11_hidden_7
def f_X2_hasRoom (fu : Nat) (u_T : S32) : Option (Int32) := if (u_T 0 5) < (0 : Int32) then (some (0 : Int32)) else (if (24 : Int32) ≤ (u_T 0 5) then (some (0 : Int32)) else (some (1 : Int32)))
set_option maxHeartbeats 4000000 in
set_option maxRecDepth 100000 in
theorem c_X2_hasRoom {l : Launch} {g : GG} {A : Nat → Prop} {X : va_W} {fu : Nat} {a_T : Nat → Nat} {u_T : S32} {r : Int32} (hf : f_X2_hasRoom fu u_T = some r) : MI l yX2_hasRoom cX2_hasRoom 1 (some .boolean) 0 g A (cl_X2 g a_T u_T ++ X) [.ref (a_T 0)] r (cl_X2 g a_T u_T ++ X) := by
  refine tx_start (av := [.ref (a_T 0)]) (by decide) (Nat.le_of_ble_eq_true rfl) ?_
  intro p e s m below meth c ls S hr hlk hE hw hl
  have S : CallFix p m c cX2_hasRoom 1 s (List.toArray [.ref (a_T 0)]) (Cond.code yX2_hasRoom cX2_hasRoom 1 (some .boolean) :: allW) RX2 := S
  have hx := S.1
  have hb := S.2.1
  have hown := S.2.2.2.1
  have hts : ∀ w ∈ allW, w.before (List.toArray [.ref (a_T 0)]) s = true := fun w h => S.2.2.2.2 w (List.mem_cons_of_mem _ h)
  have hl : lv_has ls 1 [(0, .ref (a_T 0))] := hl
  unfold f_X2_hasRoom at hf
  refine lv_aload_n hx hb dX2_hasRoom_0 rfl (lv_at hl 0 rfl) ?_
  refine gf_X2_32 S hE hw 0 rfl rfl dX2_hasRoom_1 ?_
  refine lv_if_lt (tgt := 20) hx hb dX2_hasRoom_4 (by decide) (fun h_1 => ?_) (fun h_1 => ?_)
  · replace hf := tx_pos hf h_1
    refine lv_iconst (v := 0) hx hb dX2_hasRoom_20 (by decide) ?_
    obtain e0 := tx_in1 hf
    rw [← e0]
    exact tx_zret S hr hlk (by decide) hw dX2_hasRoom_21
  · replace hf := tx_neg hf h_1
    refine lv_aload_n hx hb dX2_hasRoom_7 rfl (lv_at hl 0 rfl) ?_
    refine gf_X2_32 S hE hw 0 rfl rfl dX2_hasRoom_8 ?_
    refine lv_bipush (v := 24) hx hb dX2_hasRoom_11 (by decide) ?_
    refine lv_icmp_ge (tgt := 20) hx hb dX2_hasRoom_13 (by decide) (fun h_2 => ?_) (fun h_2 => ?_)
    · replace hf := tx_pos hf h_2
      refine lv_iconst (v := 0) hx hb dX2_hasRoom_20 (by decide) ?_
      obtain e0 := tx_in1 hf
      rw [← e0]
      exact tx_zret S hr hlk (by decide) hw dX2_hasRoom_21
    · replace hf := tx_neg hf h_2
      refine lv_iconst (v := 1) hx hb dX2_hasRoom_16 (by decide) ?_
      refine lv_goto (tgt := 21) hx hb dX2_hasRoom_17 (by decide) ?_
      obtain e0 := tx_in1 hf
      rw [← e0]
      exact tx_zret S hr hlk (by decide) hw dX2_hasRoom_21
def f_X2_noteReading (fu : Nat) (u_T : S32) (x1 : Int32) (x2 : Int32) (x3 : Int32) : Option (Int32 × S32) := tx_b1 (f_X2_hasRoom fu u_T) fun (r_2 : Int32) => if r_2 = (0 : Int32) then (some ((-1 : Int32), u_T)) else (tx_ck (u_T 0 5) 24 <| tx_let (up2 u_T 1 (u_T 0 5).toNatClampNeg x1) fun (u_T_5 : S32) => tx_ck (u_T_5 0 5) 24 <| tx_let (up2 u_T_5 2 (u_T_5 0 5).toNatClampNeg x2) fun (u_T_7 : S32) => tx_ck (u_T_7 0 5) 24 <| tx_let (up2 u_T_7 3 (u_T_7 0 5).toNatClampNeg (x3 &&& 1)) fun (u_T_9 : S32) => tx_ck (u_T_9 0 5) 24 <| tx_let (up2 u_T_9 4 (u_T_9 0 5).toNatClampNeg (-1 : Int32)) fun (u_T_11 : S32) => tx_let (up2 u_T_11 0 5 ((u_T_11 0 5) + (1 : Int32))) fun (u_T_12 : S32) => some ((u_T_12 0 5) - (1 : Int32), u_T_12))
set_option maxHeartbeats 4000000 in
set_option maxRecDepth 100000 in
theorem c_X2_noteReading {l : Launch} {g : GG} {A : Nat → Prop} {X : va_W} {fu : Nat} {a_T : Nat → Nat} {u_T : S32} {x1 : Int32} {x2 : Int32} {x3 : Int32} {r : Int32} {zu_T : S32} (hf : f_X2_noteReading fu  u_T x1 x2 x3 = some (r, zu_T)) : MI l yX2_noteReading cX2_noteReading 4 (some .int) 1 g A (cl_X2 g a_T u_T ++ X) [.ref (a_T 0), .int x1, .int x2, .int x3] r (cl_X2 g a_T zu_T ++ X) := by
  refine tx_start (av := [.ref (a_T 0), .int x1, .int x2, .int x3]) (by decide) (Nat.le_of_ble_eq_true rfl) ?_
  intro p e s m below meth c ls S hr hlk hE hw hl
  have S : CallFix p m c cX2_noteReading 4 s (List.toArray [.ref (a_T 0), .int x1, .int x2, .int x3]) (Cond.code yX2_noteReading cX2_noteReading 4 (some .int) :: allW) RX2 := S
  have hx := S.1
  have hb := S.2.1
  have hown := S.2.2.2.1
  have hts : ∀ w ∈ allW, w.before (List.toArray [.ref (a_T 0), .int x1, .int x2, .int x3]) s = true := fun w h => S.2.2.2.2 w (List.mem_cons_of_mem _ h)
  have hl : lv_has ls 4 [(0, .ref (a_T 0)), (1, .int x1), (2, .int x2), (3, .int x3)] := hl
  unfold f_X2_noteReading at hf
  refine lv_aload_n hx hb dX2_noteReading_0 rfl (lv_at hl 0 rfl) ?_
  obtain ⟨r_2, h_1, hf⟩ := tx_b1_e hf
  refine tx_ci hw (tx_runV S hE hw (c_X2_hasRoom h_1) lk_X2_35 (q0 := 0) rfl rfl rfl hl.1 (rest := []) rfl (Nat.le_of_ble_eq_true rfl) ⟨by decide, by decide⟩ dX2_noteReading_1 ⟨Nat.zero_le _, Nat.zero_le _⟩) (fun H locs hw => ?_)
  refine lv_if_ne (tgt := 9) hx hb dX2_noteReading_4 (by decide) (fun h_3 => ?_) (fun h_3 => ?_)
  · replace hf := tx_neg hf h_3
    refine lv_aload_n hx hb dX2_noteReading_9 rfl (lv_at hl 0 rfl) ?_
    refine gf_X2_11 S hE hw 0 rfl rfl dX2_noteReading_10 ?_
    refine lv_aload_n hx hb dX2_noteReading_13 rfl (lv_at hl 0 rfl) ?_
    refine gf_X2_32 S hE hw 0 rfl rfl dX2_noteReading_14 ?_
    refine lv_iload_n hx hb dX2_noteReading_17 rfl (lv_at hl 1 rfl) ?_
    obtain ⟨h_4, hf⟩ := tx_ck_e hf
    obtain ⟨u_T_5, eu_T_5⟩ : ∃ z : S32, z = up2 u_T 1 (u_T 0 5).toNatClampNeg x1 := ⟨_, rfl⟩
    replace hf := tx_let_e hf eu_T_5
    refine tx_iast (ws' := cl_X2 g a_T u_T_5 ++ X) S hE hw 1 rfl h_4 (by rw [eu_T_5]; rfl) dX2_noteReading_18 (fun H locs hw => ?_)
    refine lv_aload_n hx hb dX2_noteReading_19 rfl (lv_at hl 0 rfl) ?_
    refine gf_X2_15 S hE hw 0 rfl rfl dX2_noteReading_20 ?_
    refine lv_aload_n hx hb dX2_noteReading_23 rfl (lv_at hl 0 rfl) ?_
    refine gf_X2_32 S hE hw 0 rfl rfl dX2_noteReading_24 ?_
    refine lv_iload_n hx hb dX2_noteReading_27 rfl (lv_at hl 2 rfl) ?_
    obtain ⟨h_6, hf⟩ := tx_ck_e hf
    obtain ⟨u_T_7, eu_T_7⟩ : ∃ z : S32, z = up2 u_T_5 2 (u_T_5 0 5).toNatClampNeg x2 := ⟨_, rfl⟩
    replace hf := tx_let_e hf eu_T_7
    refine tx_iast (ws' := cl_X2 g a_T u_T_7 ++ X) S hE hw 2 rfl h_6 (by rw [eu_T_7]; rfl) dX2_noteReading_28 (fun H locs hw => ?_)
    refine lv_aload_n hx hb dX2_noteReading_29 rfl (lv_at hl 0 rfl) ?_
    refine gf_X2_18 S hE hw 0 rfl rfl dX2_noteReading_30 ?_
    refine lv_aload_n hx hb dX2_noteReading_33 rfl (lv_at hl 0 rfl) ?_
    refine gf_X2_32 S hE hw 0 rfl rfl dX2_noteReading_34 ?_
    refine lv_iload_n hx hb dX2_noteReading_37 rfl (lv_at hl 3 rfl) ?_
    obtain ⟨h_8, hf⟩ := tx_ck_e hf
    obtain ⟨u_T_9, eu_T_9⟩ : ∃ z : S32, z = up2 u_T_7 3 (u_T_7 0 5).toNatClampNeg (x3 &&& 1) := ⟨_, rfl⟩
    replace hf := tx_let_e hf eu_T_9
    refine tx_zast (ws' := cl_X2 g a_T u_T_9 ++ X) S hE hw 3 rfl h_8 (by rw [eu_T_9]; rfl) dX2_noteReading_38 (fun H locs hw => ?_)
    refine lv_aload_n hx hb dX2_noteReading_39 rfl (lv_at hl 0 rfl) ?_
    refine gf_X2_22 S hE hw 0 rfl rfl dX2_noteReading_40 ?_
    refine lv_aload_n hx hb dX2_noteReading_43 rfl (lv_at hl 0 rfl) ?_
    refine gf_X2_32 S hE hw 0 rfl rfl dX2_noteReading_44 ?_
    refine lv_iconst (v := -1) hx hb dX2_noteReading_47 (by decide) ?_
    obtain ⟨h_10, hf⟩ := tx_ck_e hf
    obtain ⟨u_T_11, eu_T_11⟩ : ∃ z : S32, z = up2 u_T_9 4 (u_T_9 0 5).toNatClampNeg (-1 : Int32) := ⟨_, rfl⟩
    replace hf := tx_let_e hf eu_T_11
    refine tx_iast (ws' := cl_X2 g a_T u_T_11 ++ X) S hE hw 4 rfl h_10 (by rw [eu_T_11]; rfl) dX2_noteReading_48 (fun H locs hw => ?_)
    refine lv_aload_n hx hb dX2_noteReading_49 rfl (lv_at hl 0 rfl) ?_
    refine lv_dup hx hb dX2_noteReading_50 rfl ?_
    refine gf_X2_32 S hE hw 0 rfl rfl dX2_noteReading_51 ?_
    refine lv_iconst (v := 1) hx hb dX2_noteReading_54 (by decide) ?_
    refine lv_iadd hx hb dX2_noteReading_55 ?_
    obtain ⟨u_T_12, eu_T_12⟩ : ∃ z : S32, z = up2 u_T_11 0 5 ((u_T_11 0 5) + (1 : Int32)) := ⟨_, rfl⟩
    replace hf := tx_let_e hf eu_T_12
    refine pf_X2_32 (ws' := cl_X2 g a_T u_T_12 ++ X) S hE hw rfl rfl 0 rfl (Nat.le_of_ble_eq_true rfl) (by rw [eu_T_12]; rfl) dX2_noteReading_56 (fun H locs hw => ?_)
    refine lv_aload_n hx hb dX2_noteReading_59 rfl (lv_at hl 0 rfl) ?_
    refine gf_X2_32 S hE hw 0 rfl rfl dX2_noteReading_60 ?_
    refine lv_iconst (v := 1) hx hb dX2_noteReading_63 (by decide) ?_
    refine lv_isub hx hb dX2_noteReading_64 ?_
    obtain ⟨e0, e1⟩ := tx_in2 hf
    rw [← e0, ← e1]
    exact tx_iret S hr hlk hw dX2_noteReading_65
  · replace hf := tx_pos hf h_3
    refine lv_iconst (v := -1) hx hb dX2_noteReading_7 (by decide) ?_
    obtain ⟨e0, e1⟩ := tx_in2 hf
    rw [← e0, ← e1]
    exact tx_iret S hr hlk hw dX2_noteReading_8
def f_X11_find (fu : Nat) (u_T : S32) (u_B : S32) (u_F : S32) (x1 : Int32) (x2 : Int32) (x3 : Int32) : Option (Int32 × S32) := if x1 < (1 : Int32) then (some ((-1 : Int32), u_F)) else (if (40 : Int32) < x1 then (some ((-1 : Int32), u_F)) else (tx_b1 (f_X0_isThought fu u_B x2) fun (r_4 : Int32) => if r_4 = (0 : Int32) then (some ((-1 : Int32), u_F)) else (tx_b1 (f_X2_hasRoom fu u_F) fun (r_7 : Int32) => if r_7 = (0 : Int32) then (some ((-1 : Int32), u_F)) else (tx_b2 (f_X2_noteReading fu u_F x1 x2 x3) fun (r_10 : Int32) (u_F_11 : S32) => some (r_10, u_F_11)))))
set_option maxHeartbeats 4000000 in
set_option maxRecDepth 100000 in
theorem c_X11_find {l : Launch} {g : GG} {A : Nat → Prop} {X : va_W} {fu : Nat} {a_T a_B a_F : Nat → Nat} {p_T_0 p_T_2 p_T_3 p_T_4 p_T_5 p_T_6 p_T_7 p_T_9 p_B_17 : Nat} {u_T : S32} {u_B : S32} {u_F : S32} {x1 : Int32} {x2 : Int32} {x3 : Int32} {r : Int32} {zu_F : S32} (hf : f_X11_find fu u_T u_B u_F x1 x2 x3 = some (r, zu_F)) : MI l yX11_find cX11_find 4 (some .int) 2 g A (cl_X11 g a_T p_T_0 (a_B 0) p_T_2 p_T_3 p_T_4 p_T_5 p_T_6 p_T_7 (a_F 0) p_T_9 u_T ++ (cl_X0 g a_B p_B_17 u_B ++ (cl_X2 g a_F u_F ++ X))) [.ref (a_T 0), .int x1, .int x2, .int x3] r (cl_X11 g a_T p_T_0 (a_B 0) p_T_2 p_T_3 p_T_4 p_T_5 p_T_6 p_T_7 (a_F 0) p_T_9 u_T ++ (cl_X0 g a_B p_B_17 u_B ++ (cl_X2 g a_F zu_F ++ X))) := by
  refine tx_start (av := [.ref (a_T 0), .int x1, .int x2, .int x3]) (by decide) (Nat.le_of_ble_eq_true rfl) ?_
  intro p e s m below meth c ls S hr hlk hE hw hl
  have S : CallFix p m c cX11_find 4 s (List.toArray [.ref (a_T 0), .int x1, .int x2, .int x3]) (Cond.code yX11_find cX11_find 4 (some .int) :: allW) RX11 := S
  have hx := S.1
  have hb := S.2.1
  have hown := S.2.2.2.1
  have hts : ∀ w ∈ allW, w.before (List.toArray [.ref (a_T 0), .int x1, .int x2, .int x3]) s = true := fun w h => S.2.2.2.2 w (List.mem_cons_of_mem _ h)
  have hl : lv_has ls 4 [(0, .ref (a_T 0)), (1, .int x1), (2, .int x2), (3, .int x3)] := hl
  unfold f_X11_find at hf
  refine lv_iload_n hx hb dX11_find_0 rfl (lv_at hl 1 rfl) ?_
  refine lv_iconst (v := 1) hx hb dX11_find_1 (by decide) ?_
  refine lv_icmp_lt (tgt := 32) hx hb dX11_find_2 (by decide) (fun h_1 => ?_) (fun h_1 => ?_)
  · replace hf := tx_pos hf h_1
    refine lv_iconst (v := -1) hx hb dX11_find_32 (by decide) ?_
    obtain ⟨e0, e1⟩ := tx_in2 hf
    rw [← e0, ← e1]
    exact tx_iret S hr hlk hw dX11_find_33
  · replace hf := tx_neg hf h_1
    refine lv_iload_n hx hb dX11_find_5 rfl (lv_at hl 1 rfl) ?_
    refine lv_bipush (v := 40) hx hb dX11_find_6 (by decide) ?_
    refine lv_icmp_gt (tgt := 32) hx hb dX11_find_8 (by decide) (fun h_2 => ?_) (fun h_2 => ?_)
    · replace hf := tx_pos hf h_2
      refine lv_iconst (v := -1) hx hb dX11_find_32 (by decide) ?_
      obtain ⟨e0, e1⟩ := tx_in2 hf
      rw [← e0, ← e1]
      exact tx_iret S hr hlk hw dX11_find_33
    · replace hf := tx_neg hf h_2
      refine lv_aload_n hx hb dX11_find_11 rfl (lv_at hl 0 rfl) ?_
      refine gf_X11_21 S hE hw 0 rfl rfl dX11_find_12 ?_
      refine lv_iload_n hx hb dX11_find_15 rfl (lv_at hl 2 rfl) ?_
      have hw := hw.u1
      obtain ⟨r_4, h_3, hf⟩ := tx_b1_e hf
      refine tx_ci hw (tx_runN S hE hw (c_X0_isThought h_3) lk_X11_120 (q0 := 0) rfl rfl rfl hl.1 (rest := []) rfl (Nat.le_of_ble_eq_true rfl) ⟨by decide, by decide⟩ dX11_find_16 ⟨Nat.zero_le _, Nat.zero_le _⟩) (fun H locs hw => ?_)
      refine lv_if_eq (tgt := 32) hx hb dX11_find_19 (by decide) (fun h_5 => ?_) (fun h_5 => ?_)
      · replace hf := tx_pos hf h_5
        refine lv_iconst (v := -1) hx hb dX11_find_32 (by decide) ?_
        have hw := hw.u2
        have hw := hw.u1
        have hw := hw.u2
        obtain ⟨e0, e1⟩ := tx_in2 hf
        rw [← e0, ← e1]
        exact tx_iret S hr hlk hw dX11_find_33
      · replace hf := tx_neg hf h_5
        refine lv_aload_n hx hb dX11_find_22 rfl (lv_at hl 0 rfl) ?_
        refine gf_X11_66 S hE hw 11 rfl rfl dX11_find_23 ?_
        have hw := hw.u2
        obtain ⟨r_7, h_6, hf⟩ := tx_b1_e hf
        refine tx_ci hw (tx_runN S hE hw (c_X2_hasRoom h_6) lk_X11_302 (q0 := 0) rfl rfl rfl hl.1 (rest := []) rfl (Nat.le_of_ble_eq_true rfl) ⟨by decide, by decide⟩ dX11_find_26 ⟨Nat.zero_le _, Nat.zero_le _⟩) (fun H locs hw => ?_)
        refine lv_if_ne (tgt := 34) hx hb dX11_find_29 (by decide) (fun h_8 => ?_) (fun h_8 => ?_)
        · replace hf := tx_neg hf h_8
          refine lv_aload_n hx hb dX11_find_34 rfl (lv_at hl 0 rfl) ?_
          refine gf_X11_66 S hE hw 17 rfl rfl dX11_find_35 ?_
          refine lv_iload_n hx hb dX11_find_38 rfl (lv_at hl 1 rfl) ?_
          refine lv_iload_n hx hb dX11_find_39 rfl (lv_at hl 2 rfl) ?_
          refine lv_iload_n hx hb dX11_find_40 rfl (lv_at hl 3 rfl) ?_
          obtain ⟨r_10, u_F_11, h_9, hf⟩ := tx_b2_e hf
          refine tx_ci hw (tx_runN S hE hw (c_X2_noteReading h_9) lk_X11_305 (q0 := 0) rfl rfl rfl hl.1 (rest := []) rfl (Nat.le_of_ble_eq_true rfl) ⟨by decide, by decide⟩ dX11_find_41 ⟨Nat.zero_le _, Nat.zero_le _⟩) (fun H locs hw => ?_)
          have hw := hw.u1
          have hw := hw.u2
          obtain ⟨e0, e1⟩ := tx_in2 hf
          rw [← e0, ← e1]
          exact tx_iret S hr hlk hw dX11_find_44
        · replace hf := tx_pos hf h_8
          refine lv_iconst (v := -1) hx hb dX11_find_32 (by decide) ?_
          have hw := hw.u1
          have hw := hw.u2
          obtain ⟨e0, e1⟩ := tx_in2 hf
          rw [← e0, ← e1]
          exact tx_iret S hr hlk hw dX11_find_33
def f_X2_noteStrike (fu : Nat) (u_T : S32) (x1 : Int32) : Option (Int32 × S32) := tx_b1 (f_X2_hasRoom fu u_T) fun (r_2 : Int32) => if r_2 = (0 : Int32) then (some ((-1 : Int32), u_T)) else (tx_ck (u_T 0 5) 24 <| tx_let (up2 u_T 4 (u_T 0 5).toNatClampNeg x1) fun (u_T_5 : S32) => tx_let (up2 u_T_5 0 5 ((u_T_5 0 5) + (1 : Int32))) fun (u_T_6 : S32) => some ((u_T_6 0 5) - (1 : Int32), u_T_6))
set_option maxHeartbeats 4000000 in
set_option maxRecDepth 100000 in
theorem c_X2_noteStrike {l : Launch} {g : GG} {A : Nat → Prop} {X : va_W} {fu : Nat} {a_T : Nat → Nat} {u_T : S32} {x1 : Int32} {r : Int32} {zu_T : S32} (hf : f_X2_noteStrike fu  u_T x1 = some (r, zu_T)) : MI l yX2_noteStrike cX2_noteStrike 2 (some .int) 1 g A (cl_X2 g a_T u_T ++ X) [.ref (a_T 0), .int x1] r (cl_X2 g a_T zu_T ++ X) := by
  refine tx_start (av := [.ref (a_T 0), .int x1]) (by decide) (Nat.le_of_ble_eq_true rfl) ?_
  intro p e s m below meth c ls S hr hlk hE hw hl
  have S : CallFix p m c cX2_noteStrike 2 s (List.toArray [.ref (a_T 0), .int x1]) (Cond.code yX2_noteStrike cX2_noteStrike 2 (some .int) :: allW) RX2 := S
  have hx := S.1
  have hb := S.2.1
  have hown := S.2.2.2.1
  have hts : ∀ w ∈ allW, w.before (List.toArray [.ref (a_T 0), .int x1]) s = true := fun w h => S.2.2.2.2 w (List.mem_cons_of_mem _ h)
  have hl : lv_has ls 2 [(0, .ref (a_T 0)), (1, .int x1)] := hl
  unfold f_X2_noteStrike at hf
  refine lv_aload_n hx hb dX2_noteStrike_0 rfl (lv_at hl 0 rfl) ?_
  obtain ⟨r_2, h_1, hf⟩ := tx_b1_e hf
  refine tx_ci hw (tx_runV S hE hw (c_X2_hasRoom h_1) lk_X2_35 (q0 := 0) rfl rfl rfl hl.1 (rest := []) rfl (Nat.le_of_ble_eq_true rfl) ⟨by decide, by decide⟩ dX2_noteStrike_1 ⟨Nat.zero_le _, Nat.zero_le _⟩) (fun H locs hw => ?_)
  refine lv_if_ne (tgt := 9) hx hb dX2_noteStrike_4 (by decide) (fun h_3 => ?_) (fun h_3 => ?_)
  · replace hf := tx_neg hf h_3
    refine lv_aload_n hx hb dX2_noteStrike_9 rfl (lv_at hl 0 rfl) ?_
    refine gf_X2_22 S hE hw 0 rfl rfl dX2_noteStrike_10 ?_
    refine lv_aload_n hx hb dX2_noteStrike_13 rfl (lv_at hl 0 rfl) ?_
    refine gf_X2_32 S hE hw 0 rfl rfl dX2_noteStrike_14 ?_
    refine lv_iload_n hx hb dX2_noteStrike_17 rfl (lv_at hl 1 rfl) ?_
    obtain ⟨h_4, hf⟩ := tx_ck_e hf
    obtain ⟨u_T_5, eu_T_5⟩ : ∃ z : S32, z = up2 u_T 4 (u_T 0 5).toNatClampNeg x1 := ⟨_, rfl⟩
    replace hf := tx_let_e hf eu_T_5
    refine tx_iast (ws' := cl_X2 g a_T u_T_5 ++ X) S hE hw 4 rfl h_4 (by rw [eu_T_5]; rfl) dX2_noteStrike_18 (fun H locs hw => ?_)
    refine lv_aload_n hx hb dX2_noteStrike_19 rfl (lv_at hl 0 rfl) ?_
    refine lv_dup hx hb dX2_noteStrike_20 rfl ?_
    refine gf_X2_32 S hE hw 0 rfl rfl dX2_noteStrike_21 ?_
    refine lv_iconst (v := 1) hx hb dX2_noteStrike_24 (by decide) ?_
    refine lv_iadd hx hb dX2_noteStrike_25 ?_
    obtain ⟨u_T_6, eu_T_6⟩ : ∃ z : S32, z = up2 u_T_5 0 5 ((u_T_5 0 5) + (1 : Int32)) := ⟨_, rfl⟩
    replace hf := tx_let_e hf eu_T_6
    refine pf_X2_32 (ws' := cl_X2 g a_T u_T_6 ++ X) S hE hw rfl rfl 0 rfl (Nat.le_of_ble_eq_true rfl) (by rw [eu_T_6]; rfl) dX2_noteStrike_26 (fun H locs hw => ?_)
    refine lv_aload_n hx hb dX2_noteStrike_29 rfl (lv_at hl 0 rfl) ?_
    refine gf_X2_32 S hE hw 0 rfl rfl dX2_noteStrike_30 ?_
    refine lv_iconst (v := 1) hx hb dX2_noteStrike_33 (by decide) ?_
    refine lv_isub hx hb dX2_noteStrike_34 ?_
    obtain ⟨e0, e1⟩ := tx_in2 hf
    rw [← e0, ← e1]
    exact tx_iret S hr hlk hw dX2_noteStrike_35
  · replace hf := tx_pos hf h_3
    refine lv_iconst (v := -1) hx hb dX2_noteStrike_7 (by decide) ?_
    obtain ⟨e0, e1⟩ := tx_in2 hf
    rw [← e0, ← e1]
    exact tx_iret S hr hlk hw dX2_noteStrike_8
def f_X11_strike (fu : Nat) (u_T : S32) (u_F : S32) (x1 : Int32) : Option (Int32 × S32) := if x1 < (0 : Int32) then (some ((-1 : Int32), u_F)) else (if (u_F 0 5) ≤ x1 then (some ((-1 : Int32), u_F)) else (tx_b1 (f_X2_hasRoom fu u_F) fun (r_4 : Int32) => if r_4 = (0 : Int32) then (some ((-1 : Int32), u_F)) else (tx_b2 (f_X2_noteStrike fu u_F x1) fun (r_7 : Int32) (u_F_8 : S32) => some (r_7, u_F_8))))
set_option maxHeartbeats 4000000 in
set_option maxRecDepth 100000 in
theorem c_X11_strike {l : Launch} {g : GG} {A : Nat → Prop} {X : va_W} {fu : Nat} {a_T a_F : Nat → Nat} {p_T_0 p_T_1 p_T_2 p_T_3 p_T_4 p_T_5 p_T_6 p_T_7 p_T_9 : Nat} {u_T : S32} {u_F : S32} {x1 : Int32} {r : Int32} {zu_F : S32} (hf : f_X11_strike fu u_T u_F x1 = some (r, zu_F)) : MI l yX11_strike cX11_strike 2 (some .int) 2 g A (cl_X11 g a_T p_T_0 p_T_1 p_T_2 p_T_3 p_T_4 p_T_5 p_T_6 p_T_7 (a_F 0) p_T_9 u_T ++ (cl_X2 g a_F u_F ++ X)) [.ref (a_T 0), .int x1] r (cl_X11 g a_T p_T_0 p_T_1 p_T_2 p_T_3 p_T_4 p_T_5 p_T_6 p_T_7 (a_F 0) p_T_9 u_T ++ (cl_X2 g a_F zu_F ++ X)) := by
  refine tx_start (av := [.ref (a_T 0), .int x1]) (by decide) (Nat.le_of_ble_eq_true rfl) ?_
  intro p e s m below meth c ls S hr hlk hE hw hl
  have S : CallFix p m c cX11_strike 2 s (List.toArray [.ref (a_T 0), .int x1]) (Cond.code yX11_strike cX11_strike 2 (some .int) :: allW) RX11 := S
  have hx := S.1
  have hb := S.2.1
  have hown := S.2.2.2.1
  have hts : ∀ w ∈ allW, w.before (List.toArray [.ref (a_T 0), .int x1]) s = true := fun w h => S.2.2.2.2 w (List.mem_cons_of_mem _ h)
  have hl : lv_has ls 2 [(0, .ref (a_T 0)), (1, .int x1)] := hl
  unfold f_X11_strike at hf
  refine lv_iload_n hx hb dX11_strike_0 rfl (lv_at hl 1 rfl) ?_
  refine lv_if_lt (tgt := 25) hx hb dX11_strike_1 (by decide) (fun h_1 => ?_) (fun h_1 => ?_)
  · replace hf := tx_pos hf h_1
    refine lv_iconst (v := -1) hx hb dX11_strike_25 (by decide) ?_
    obtain ⟨e0, e1⟩ := tx_in2 hf
    rw [← e0, ← e1]
    exact tx_iret S hr hlk hw dX11_strike_26
  · replace hf := tx_neg hf h_1
    refine lv_iload_n hx hb dX11_strike_4 rfl (lv_at hl 1 rfl) ?_
    refine lv_aload_n hx hb dX11_strike_5 rfl (lv_at hl 0 rfl) ?_
    refine gf_X11_66 S hE hw 0 rfl rfl dX11_strike_6 ?_
    refine gf_X11_309 S hE hw 1 rfl rfl dX11_strike_9 ?_
    refine lv_icmp_ge (tgt := 25) hx hb dX11_strike_12 (by decide) (fun h_2 => ?_) (fun h_2 => ?_)
    · replace hf := tx_pos hf h_2
      refine lv_iconst (v := -1) hx hb dX11_strike_25 (by decide) ?_
      obtain ⟨e0, e1⟩ := tx_in2 hf
      rw [← e0, ← e1]
      exact tx_iret S hr hlk hw dX11_strike_26
    · replace hf := tx_neg hf h_2
      refine lv_aload_n hx hb dX11_strike_15 rfl (lv_at hl 0 rfl) ?_
      refine gf_X11_66 S hE hw 0 rfl rfl dX11_strike_16 ?_
      have hw := hw.u1
      obtain ⟨r_4, h_3, hf⟩ := tx_b1_e hf
      refine tx_ci hw (tx_runN S hE hw (c_X2_hasRoom h_3) lk_X11_302 (q0 := 0) rfl rfl rfl hl.1 (rest := []) rfl (Nat.le_of_ble_eq_true rfl) ⟨by decide, by decide⟩ dX11_strike_19 ⟨Nat.zero_le _, Nat.zero_le _⟩) (fun H locs hw => ?_)
      refine lv_if_ne (tgt := 27) hx hb dX11_strike_22 (by decide) (fun h_5 => ?_) (fun h_5 => ?_)
      · replace hf := tx_neg hf h_5
        refine lv_aload_n hx hb dX11_strike_27 rfl (lv_at hl 0 rfl) ?_
        refine gf_X11_66 S hE hw 6 rfl rfl dX11_strike_28 ?_
        refine lv_iload_n hx hb dX11_strike_31 rfl (lv_at hl 1 rfl) ?_
        obtain ⟨r_7, u_F_8, h_6, hf⟩ := tx_b2_e hf
        refine tx_ci hw (tx_runN S hE hw (c_X2_noteStrike h_6) lk_X11_312 (q0 := 0) rfl rfl rfl hl.1 (rest := []) rfl (Nat.le_of_ble_eq_true rfl) ⟨by decide, by decide⟩ dX11_strike_32 ⟨Nat.zero_le _, Nat.zero_le _⟩) (fun H locs hw => ?_)
        have hw := hw.u1
        obtain ⟨e0, e1⟩ := tx_in2 hf
        rw [← e0, ← e1]
        exact tx_iret S hr hlk hw dX11_strike_35
      · replace hf := tx_pos hf h_5
        refine lv_iconst (v := -1) hx hb dX11_strike_25 (by decide) ?_
        have hw := hw.u1
        obtain ⟨e0, e1⟩ := tx_in2 hf
        rw [← e0, ← e1]
        exact tx_iret S hr hlk hw dX11_strike_26
def f_X11_known (fu : Nat) (u_T : S32) (u_F : S32) (x1 : Int32) : Option (Int32 × S32) := if x1 < (-1 : Int32) then (some ((0 : Int32), u_F)) else (if x1 ≤ (u_F 0 5) then (tx_let (up2 u_F 0 6 x1) fun (u_F_3 : S32) => some ((1 : Int32), u_F_3)) else (some ((0 : Int32), u_F)))
set_option maxHeartbeats 4000000 in
set_option maxRecDepth 100000 in
theorem c_X11_known {l : Launch} {g : GG} {A : Nat → Prop} {X : va_W} {fu : Nat} {a_T a_F : Nat → Nat} {p_T_0 p_T_1 p_T_2 p_T_3 p_T_4 p_T_5 p_T_6 p_T_7 p_T_9 : Nat} {u_T : S32} {u_F : S32} {x1 : Int32} {r : Int32} {zu_F : S32} (hf : f_X11_known fu u_T u_F x1 = some (r, zu_F)) : MI l yX11_known cX11_known 2 (some .boolean) 0 g A (cl_X11 g a_T p_T_0 p_T_1 p_T_2 p_T_3 p_T_4 p_T_5 p_T_6 p_T_7 (a_F 0) p_T_9 u_T ++ (cl_X2 g a_F u_F ++ X)) [.ref (a_T 0), .int x1] r (cl_X11 g a_T p_T_0 p_T_1 p_T_2 p_T_3 p_T_4 p_T_5 p_T_6 p_T_7 (a_F 0) p_T_9 u_T ++ (cl_X2 g a_F zu_F ++ X)) := by
  refine tx_start (av := [.ref (a_T 0), .int x1]) (by decide) (Nat.le_of_ble_eq_true rfl) ?_
  intro p e s m below meth c ls S hr hlk hE hw hl
  have S : CallFix p m c cX11_known 2 s (List.toArray [.ref (a_T 0), .int x1]) (Cond.code yX11_known cX11_known 2 (some .boolean) :: allW) RX11 := S
  have hx := S.1
  have hb := S.2.1
  have hown := S.2.2.2.1
  have hts : ∀ w ∈ allW, w.before (List.toArray [.ref (a_T 0), .int x1]) s = true := fun w h => S.2.2.2.2 w (List.mem_cons_of_mem _ h)
  have hl : lv_has ls 2 [(0, .ref (a_T 0)), (1, .int x1)] := hl
  unfold f_X11_known at hf
  refine lv_iload_n hx hb dX11_known_0 rfl (lv_at hl 1 rfl) ?_
  refine lv_iconst (v := -1) hx hb dX11_known_1 (by decide) ?_
  refine lv_icmp_lt (tgt := 16) hx hb dX11_known_2 (by decide) (fun h_1 => ?_) (fun h_1 => ?_)
  · replace hf := tx_pos hf h_1
    refine lv_iconst (v := 0) hx hb dX11_known_16 (by decide) ?_
    obtain ⟨e0, e1⟩ := tx_in2 hf
    rw [← e0, ← e1]
    exact tx_zret S hr hlk (by decide) hw dX11_known_17
  · replace hf := tx_neg hf h_1
    refine lv_iload_n hx hb dX11_known_5 rfl (lv_at hl 1 rfl) ?_
    refine lv_aload_n hx hb dX11_known_6 rfl (lv_at hl 0 rfl) ?_
    refine gf_X11_66 S hE hw 0 rfl rfl dX11_known_7 ?_
    refine gf_X11_309 S hE hw 1 rfl rfl dX11_known_10 ?_
    refine lv_icmp_le (tgt := 18) hx hb dX11_known_13 (by decide) (fun h_2 => ?_) (fun h_2 => ?_)
    · replace hf := tx_pos hf h_2
      refine lv_aload_n hx hb dX11_known_18 rfl (lv_at hl 0 rfl) ?_
      refine gf_X11_66 S hE hw 0 rfl rfl dX11_known_19 ?_
      refine lv_iload_n hx hb dX11_known_22 rfl (lv_at hl 1 rfl) ?_
      obtain ⟨u_F_3, eu_F_3⟩ : ∃ z : S32, z = up2 u_F 0 6 x1 := ⟨_, rfl⟩
      replace hf := tx_let_e hf eu_F_3
      refine pf_X11_315 (ws' := cl_X11 g a_T p_T_0 p_T_1 p_T_2 p_T_3 p_T_4 p_T_5 p_T_6 p_T_7 (a_F 0) p_T_9 u_T ++ (cl_X2 g a_F u_F_3 ++ X)) S hE hw rfl rfl 1 rfl (Nat.le_of_ble_eq_true rfl) (by rw [eu_F_3]; rfl) dX11_known_23 (fun H locs hw => ?_)
      refine lv_iconst (v := 1) hx hb dX11_known_26 (by decide) ?_
      obtain ⟨e0, e1⟩ := tx_in2 hf
      rw [← e0, ← e1]
      exact tx_zret S hr hlk (by decide) hw dX11_known_27
    · replace hf := tx_neg hf h_2
      refine lv_iconst (v := 0) hx hb dX11_known_16 (by decide) ?_
      obtain ⟨e0, e1⟩ := tx_in2 hf
      rw [← e0, ← e1]
      exact tx_zret S hr hlk (by decide) hw dX11_known_17
def f_X2_knownBy (fu : Nat) (u_T : S32) : Option (Int32) := if (u_T 0 6) = (-1 : Int32) then (some (u_T 0 5)) else (some (if (u_T 0 5) < (u_T 0 6) then (u_T 0 5) else (u_T 0 6)))
set_option maxHeartbeats 4000000 in
set_option maxRecDepth 100000 in
theorem c_X2_knownBy {l : Launch} {g : GG} {A : Nat → Prop} {X : va_W} {fu : Nat} {a_T : Nat → Nat} {u_T : S32} {r : Int32} (hf : f_X2_knownBy fu u_T = some r) : MI l yX2_knownBy cX2_knownBy 1 (some .int) 1 g A (cl_X2 g a_T u_T ++ X) [.ref (a_T 0)] r (cl_X2 g a_T u_T ++ X) := by
  refine tx_start (av := [.ref (a_T 0)]) (by decide) (Nat.le_of_ble_eq_true rfl) ?_
  intro p e s m below meth c ls S hr hlk hE hw hl
  have S : CallFix p m c cX2_knownBy 1 s (List.toArray [.ref (a_T 0)]) (Cond.code yX2_knownBy cX2_knownBy 1 (some .int) :: allW) RX2 := S
  have hx := S.1
  have hb := S.2.1
  have hown := S.2.2.2.1
  have hts : ∀ w ∈ allW, w.before (List.toArray [.ref (a_T 0)]) s = true := fun w h => S.2.2.2.2 w (List.mem_cons_of_mem _ h)
  have hl : lv_has ls 1 [(0, .ref (a_T 0))] := hl
  unfold f_X2_knownBy at hf
  refine lv_aload_n hx hb dX2_knownBy_0 rfl (lv_at hl 0 rfl) ?_
  refine gf_X2_28 S hE hw 0 rfl rfl dX2_knownBy_1 ?_
  refine lv_iconst (v := -1) hx hb dX2_knownBy_4 (by decide) ?_
  refine lv_icmp_ne (tgt := 15) hx hb dX2_knownBy_5 (by decide) (fun h_1 => ?_) (fun h_1 => ?_)
  · replace hf := tx_neg hf h_1
    refine lv_aload_n hx hb dX2_knownBy_15 rfl (lv_at hl 0 rfl) ?_
    refine gf_X2_28 S hE hw 0 rfl rfl dX2_knownBy_16 ?_
    refine lv_aload_n hx hb dX2_knownBy_19 rfl (lv_at hl 0 rfl) ?_
    refine gf_X2_32 S hE hw 0 rfl rfl dX2_knownBy_20 ?_
    refine tx_mmin S kw_1154 hl.1 (by decide) (Nat.le_of_ble_eq_true rfl) ⟨Nat.zero_le _, Nat.zero_le _⟩ dX2_knownBy_23 ?_
    obtain e0 := tx_in1 hf
    rw [← e0]
    exact tx_iret S hr hlk hw dX2_knownBy_26
  · replace hf := tx_pos hf h_1
    refine lv_aload_n hx hb dX2_knownBy_8 rfl (lv_at hl 0 rfl) ?_
    refine gf_X2_32 S hE hw 0 rfl rfl dX2_knownBy_9 ?_
    refine lv_goto (tgt := 26) hx hb dX2_knownBy_12 (by decide) ?_
    obtain e0 := tx_in1 hf
    rw [← e0]
    exact tx_iret S hr hlk hw dX2_knownBy_26
def f_X2_settle_J70 (fu : Nat) (K33 : S32 → Int32 → Option (S32)) (u_T : S32) (w1 : Int32) : Option (S32) := tx_let (w1 + (-1 : Int32)) fun (y_17 : Int32) => K33 u_T y_17
def f_X2_settle_J33 (fu : Nat) (K33 : S32 → Int32 → Option (S32)) (u_T : S32) (w1 : Int32) : Option (S32) := if w1 < (0 : Int32) then (some u_T) else (tx_ck w1 24 <| tx_let (u_T 4 w1.toNatClampNeg) fun (y_10 : Int32) => if y_10 < (0 : Int32) then (f_X2_settle_J70 fu K33 u_T w1) else (if (24 : Int32) ≤ y_10 then (f_X2_settle_J70 fu K33 u_T w1) else (tx_ck w1 24 <| if (u_T 5 w1.toNatClampNeg) = (0 : Int32) then (tx_ck y_10 24 <| tx_let (up2 u_T 5 y_10.toNatClampNeg ((1 : Int32) &&& 1)) fun (u_T_16 : S32) => f_X2_settle_J70 fu K33 u_T_16 w1) else (f_X2_settle_J70 fu K33 u_T w1))))
def f_X2_settle_L33 (fu : Nat) : Nat → S32 → Int32 → Option (S32)
  | 0 => fun _ _ => none
  | n + 1 => f_X2_settle_J33 fu (f_X2_settle_L33 fu n)
def f_X2_settle_J2 (fu : Nat) (K2 : S32 → Int32 → Option (S32)) (u_T : S32) (w1 : Int32) : Option (S32) := if (24 : Int32) ≤ w1 then (tx_b1 (f_X2_knownBy fu u_T) fun (r_3 : Int32) => tx_let ((if (24 : Int32) < r_3 then (24 : Int32) else r_3) - (1 : Int32)) fun (y_4 : Int32) => f_X2_settle_L33 fu fu u_T y_4) else (tx_ck w1 24 <| tx_let (up2 u_T 5 w1.toNatClampNeg ((0 : Int32) &&& 1)) fun (u_T_6 : S32) => tx_let (w1 + (1 : Int32)) fun (y_7 : Int32) => K2 u_T_6 y_7)
def f_X2_settle_L2 (fu : Nat) : Nat → S32 → Int32 → Option (S32)
  | 0 => fun _ _ => none
  | n + 1 => f_X2_settle_J2 fu (f_X2_settle_L2 fu n)
def f_X2_settle (fu : Nat) (u_T : S32) : Option (S32) := f_X2_settle_L2 fu fu u_T (0 : Int32)
set_option maxHeartbeats 4000000 in
set_option maxRecDepth 100000 in
theorem c_X2_settle {l : Launch} {g : GG} {A : Nat → Prop} {X : va_W} {fu : Nat} {a_T : Nat → Nat} {u_T : S32} {zu_T : S32} (hf : f_X2_settle fu  u_T = some zu_T) : MV l yX2_settle cX2_settle 3 none 2 g A (cl_X2 g a_T u_T ++ X) [.ref (a_T 0)] (cl_X2 g a_T zu_T ++ X) := by
  refine tx_start (av := [.ref (a_T 0)]) (by decide) (Nat.le_of_ble_eq_true rfl) ?_
  intro p e s m below meth c ls S hr hlk hE hw hl
  have S : CallFix p m c cX2_settle 3 s (List.toArray [.ref (a_T 0)]) (Cond.code yX2_settle cX2_settle 3 none :: allW) RX2 := S
  have hx := S.1
  have hb := S.2.1
  have hown := S.2.2.2.1
  have hts : ∀ w ∈ allW, w.before (List.toArray [.ref (a_T 0)]) s = true := fun w h => S.2.2.2.2 w (List.mem_cons_of_mem _ h)
  have hl : lv_has ls 3 [(0, .ref (a_T 0))] := hl
  have J70 : ∀ {K33 : S32 → Int32 → Option (S32)} (hK33 : ∀ {u_T : S32} {w1 : Int32} {H : Heap} {locs : List Loc} {ls : Array Slot}, K33 u_T w1 = some zu_T → WD g A s.heap (cl_X2 g a_T u_T ++ X) H locs → lv_has ls 3 [(0, .ref (a_T 0)), (1, .int w1)] → W p l e (rmH 2) s m (List.toArray [.ref (a_T 0)]) below meth c H locs 0 0 (MQ below (va_Qv (fun (_ : Unit) => True) (fun _ t => POST g A (cl_X2 g a_T zu_T ++ X) t) A) (List.toArray [.ref (a_T 0)]) s 0 0 A) (F0 m 33 ls [])), ∀ {u_T : S32} {w1 : Int32} {H : Heap} {locs : List Loc} {ls : Array Slot}, f_X2_settle_J70 fu K33 u_T w1 = some zu_T → WD g A s.heap (cl_X2 g a_T u_T ++ X) H locs → lv_has ls 3 [(0, .ref (a_T 0)), (1, .int w1)] → W p l e (rmH 2) s m (List.toArray [.ref (a_T 0)]) below meth c H locs 0 0 (MQ below (va_Qv (fun (_ : Unit) => True) (fun _ t => POST g A (cl_X2 g a_T zu_T ++ X) t) A) (List.toArray [.ref (a_T 0)]) s 0 0 A) (F0 m 70 ls []) := by
    intro K33 hK33 u_T w1 H locs ls hf hw hl
    unfold f_X2_settle_J70 at hf
    obtain ⟨y_17, ey_17⟩ : ∃ y : Int32, y = w1 + (-1 : Int32) := ⟨_, rfl⟩
    replace hf := tx_let_e hf ey_17
    refine lv_iinc (v := y_17) (lv' := [(1, .int y_17), (0, .ref (a_T 0))]) hx hb dX2_settle_70 hl (k := 1) rfl (by rw [ey_17]; rfl) (by decide) rfl (fun ls hl => ?_)
    refine lv_goto (tgt := 33) hx hb dX2_settle_73 (by decide) ?_
    exact hK33 hf hw (lv_sub hl [1, 0] rfl)
  have J33 : ∀ {K33 : S32 → Int32 → Option (S32)} (hK33 : ∀ {u_T : S32} {w1 : Int32} {H : Heap} {locs : List Loc} {ls : Array Slot}, K33 u_T w1 = some zu_T → WD g A s.heap (cl_X2 g a_T u_T ++ X) H locs → lv_has ls 3 [(0, .ref (a_T 0)), (1, .int w1)] → W p l e (rmH 2) s m (List.toArray [.ref (a_T 0)]) below meth c H locs 0 0 (MQ below (va_Qv (fun (_ : Unit) => True) (fun _ t => POST g A (cl_X2 g a_T zu_T ++ X) t) A) (List.toArray [.ref (a_T 0)]) s 0 0 A) (F0 m 33 ls [])), ∀ {u_T : S32} {w1 : Int32} {H : Heap} {locs : List Loc} {ls : Array Slot}, f_X2_settle_J33 fu K33 u_T w1 = some zu_T → WD g A s.heap (cl_X2 g a_T u_T ++ X) H locs → lv_has ls 3 [(0, .ref (a_T 0)), (1, .int w1)] → W p l e (rmH 2) s m (List.toArray [.ref (a_T 0)]) below meth c H locs 0 0 (MQ below (va_Qv (fun (_ : Unit) => True) (fun _ t => POST g A (cl_X2 g a_T zu_T ++ X) t) A) (List.toArray [.ref (a_T 0)]) s 0 0 A) (F0 m 33 ls []) := by
    intro K33 hK33 u_T w1 H locs ls hf hw hl
    unfold f_X2_settle_J33 at hf
    refine lv_iload_n hx hb dX2_settle_33 rfl (lv_at hl 1 rfl) ?_
    refine lv_if_lt (tgt := 76) hx hb dX2_settle_34 (by decide) (fun h_8 => ?_) (fun h_8 => ?_)
    · replace hf := tx_pos hf h_8
      obtain e0 := tx_in1 hf
      rw [← e0]
      exact tx_vret S hr hlk hw dX2_settle_76
    · replace hf := tx_neg hf h_8
      refine lv_aload_n hx hb dX2_settle_37 rfl (lv_at hl 0 rfl) ?_
      refine gf_X2_22 S hE hw 0 rfl rfl dX2_settle_38 ?_
      refine lv_iload_n hx hb dX2_settle_41 rfl (lv_at hl 1 rfl) ?_
      obtain ⟨h_9, hf⟩ := tx_ck_e hf
      refine tx_iald S hE hw 4 rfl h_9 dX2_settle_42 ?_
      refine lv_topi (fun y_10 ey_10 => ?_)
      replace hf := tx_let_e hf ey_10
      refine lv_istore_n (lv' := [(2, .int y_10), (0, .ref (a_T 0)), (1, .int w1)]) hx hb dX2_settle_43 rfl hl (by decide) rfl (fun ls hl => ?_)
      refine lv_iload_n hx hb dX2_settle_44 rfl (lv_at hl 0 rfl) ?_
      refine lv_if_lt (tgt := 70) hx hb dX2_settle_45 (by decide) (fun h_11 => ?_) (fun h_11 => ?_)
      · replace hf := tx_pos hf h_11
        exact J70 hK33 hf hw (lv_sub hl [1, 2] rfl)
      · replace hf := tx_neg hf h_11
        refine lv_iload_n hx hb dX2_settle_48 rfl (lv_at hl 0 rfl) ?_
        refine lv_bipush (v := 24) hx hb dX2_settle_49 (by decide) ?_
        refine lv_icmp_ge (tgt := 70) hx hb dX2_settle_51 (by decide) (fun h_12 => ?_) (fun h_12 => ?_)
        · replace hf := tx_pos hf h_12
          exact J70 hK33 hf hw (lv_sub hl [1, 2] rfl)
        · replace hf := tx_neg hf h_12
          refine lv_aload_n hx hb dX2_settle_54 rfl (lv_at hl 1 rfl) ?_
          refine gf_X2_25 S hE hw 0 rfl rfl dX2_settle_55 ?_
          refine lv_iload_n hx hb dX2_settle_58 rfl (lv_at hl 2 rfl) ?_
          obtain ⟨h_13, hf⟩ := tx_ck_e hf
          refine tx_zald S hE hw 5 rfl h_13 dX2_settle_59 ?_
          refine lv_if_ne (tgt := 70) hx hb dX2_settle_60 (by decide) (fun h_14 => ?_) (fun h_14 => ?_)
          · replace hf := tx_neg hf h_14
            exact J70 hK33 hf hw (lv_sub hl [1, 2] rfl)
          · replace hf := tx_pos hf h_14
            refine lv_aload_n hx hb dX2_settle_63 rfl (lv_at hl 1 rfl) ?_
            refine gf_X2_25 S hE hw 0 rfl rfl dX2_settle_64 ?_
            refine lv_iload_n hx hb dX2_settle_67 rfl (lv_at hl 0 rfl) ?_
            refine lv_iconst (v := 1) hx hb dX2_settle_68 (by decide) ?_
            obtain ⟨h_15, hf⟩ := tx_ck_e hf
            obtain ⟨u_T_16, eu_T_16⟩ : ∃ z : S32, z = up2 u_T 5 y_10.toNatClampNeg ((1 : Int32) &&& 1) := ⟨_, rfl⟩
            replace hf := tx_let_e hf eu_T_16
            refine tx_zast (ws' := cl_X2 g a_T u_T_16 ++ X) S hE hw 5 rfl h_15 (by rw [eu_T_16]; rfl) dX2_settle_69 (fun H locs hw => ?_)
            exact J70 hK33 hf hw (lv_sub hl [1, 2] rfl)
  have L33 : ∀ (n : Nat), ∀ {u_T : S32} {w1 : Int32} {H : Heap} {locs : List Loc} {ls : Array Slot}, f_X2_settle_L33 fu n u_T w1 = some zu_T → WD g A s.heap (cl_X2 g a_T u_T ++ X) H locs → lv_has ls 3 [(0, .ref (a_T 0)), (1, .int w1)] → W p l e (rmH 2) s m (List.toArray [.ref (a_T 0)]) below meth c H locs 0 0 (MQ below (va_Qv (fun (_ : Unit) => True) (fun _ t => POST g A (cl_X2 g a_T zu_T ++ X) t) A) (List.toArray [.ref (a_T 0)]) s 0 0 A) (F0 m 33 ls []) := by
    intro  n
    induction n with
    | zero => intro u_T w1 H locs ls hf; exact absurd hf (by intro q; cases q)
    | succ n ih => exact fun hf hw hl => J33 ih hf hw hl
  have J2 : ∀ {K2 : S32 → Int32 → Option (S32)} (hK2 : ∀ {u_T : S32} {w1 : Int32} {H : Heap} {locs : List Loc} {ls : Array Slot}, K2 u_T w1 = some zu_T → WD g A s.heap (cl_X2 g a_T u_T ++ X) H locs → lv_has ls 3 [(0, .ref (a_T 0)), (1, .int w1)] → W p l e (rmH 2) s m (List.toArray [.ref (a_T 0)]) below meth c H locs 0 0 (MQ below (va_Qv (fun (_ : Unit) => True) (fun _ t => POST g A (cl_X2 g a_T zu_T ++ X) t) A) (List.toArray [.ref (a_T 0)]) s 0 0 A) (F0 m 2 ls [])), ∀ {u_T : S32} {w1 : Int32} {H : Heap} {locs : List Loc} {ls : Array Slot}, f_X2_settle_J2 fu K2 u_T w1 = some zu_T → WD g A s.heap (cl_X2 g a_T u_T ++ X) H locs → lv_has ls 3 [(0, .ref (a_T 0)), (1, .int w1)] → W p l e (rmH 2) s m (List.toArray [.ref (a_T 0)]) below meth c H locs 0 0 (MQ below (va_Qv (fun (_ : Unit) => True) (fun _ t => POST g A (cl_X2 g a_T zu_T ++ X) t) A) (List.toArray [.ref (a_T 0)]) s 0 0 A) (F0 m 2 ls []) := by
    intro K2 hK2 u_T w1 H locs ls hf hw hl
    unfold f_X2_settle_J2 at hf
    refine lv_iload_n hx hb dX2_settle_2 rfl (lv_at hl 1 rfl) ?_
    refine lv_bipush (v := 24) hx hb dX2_settle_3 (by decide) ?_
    refine lv_icmp_ge (tgt := 21) hx hb dX2_settle_5 (by decide) (fun h_1 => ?_) (fun h_1 => ?_)
    · replace hf := tx_pos hf h_1
      refine lv_aload_n hx hb dX2_settle_21 rfl (lv_at hl 0 rfl) ?_
      obtain ⟨r_3, h_2, hf⟩ := tx_b1_e hf
      refine tx_ci hw (tx_runV S hE hw (c_X2_knownBy h_2) lk_X2_45 (q0 := 0) rfl rfl rfl hl.1 (rest := []) rfl (Nat.le_of_ble_eq_true rfl) ⟨by decide, by decide⟩ dX2_settle_22 ⟨Nat.zero_le _, Nat.zero_le _⟩) (fun H locs hw => ?_)
      refine lv_bipush (v := 24) hx hb dX2_settle_25 (by decide) ?_
      refine tx_mmin S kw_1154 hl.1 (by decide) (Nat.le_of_ble_eq_true rfl) ⟨Nat.zero_le _, Nat.zero_le _⟩ dX2_settle_27 ?_
      refine lv_iconst (v := 1) hx hb dX2_settle_30 (by decide) ?_
      refine lv_isub hx hb dX2_settle_31 ?_
      refine lv_topi (fun y_4 ey_4 => ?_)
      replace hf := tx_let_e hf ey_4
      refine lv_istore_n (lv' := [(1, .int y_4), (0, .ref (a_T 0))]) hx hb dX2_settle_32 rfl hl (by decide) rfl (fun ls hl => ?_)
      exact L33 fu hf hw (lv_sub hl [1, 0] rfl)
    · replace hf := tx_neg hf h_1
      refine lv_aload_n hx hb dX2_settle_8 rfl (lv_at hl 0 rfl) ?_
      refine gf_X2_25 S hE hw 0 rfl rfl dX2_settle_9 ?_
      refine lv_iload_n hx hb dX2_settle_12 rfl (lv_at hl 1 rfl) ?_
      refine lv_iconst (v := 0) hx hb dX2_settle_13 (by decide) ?_
      obtain ⟨h_5, hf⟩ := tx_ck_e hf
      obtain ⟨u_T_6, eu_T_6⟩ : ∃ z : S32, z = up2 u_T 5 w1.toNatClampNeg ((0 : Int32) &&& 1) := ⟨_, rfl⟩
      replace hf := tx_let_e hf eu_T_6
      refine tx_zast (ws' := cl_X2 g a_T u_T_6 ++ X) S hE hw 5 rfl h_5 (by rw [eu_T_6]; rfl) dX2_settle_14 (fun H locs hw => ?_)
      obtain ⟨y_7, ey_7⟩ : ∃ y : Int32, y = w1 + (1 : Int32) := ⟨_, rfl⟩
      replace hf := tx_let_e hf ey_7
      refine lv_iinc (v := y_7) (lv' := [(1, .int y_7), (0, .ref (a_T 0))]) hx hb dX2_settle_15 hl (k := 1) rfl (by rw [ey_7]; rfl) (by decide) rfl (fun ls hl => ?_)
      refine lv_goto (tgt := 2) hx hb dX2_settle_18 (by decide) ?_
      exact hK2 hf hw (lv_sub hl [1, 0] rfl)
  have L2 : ∀ (n : Nat), ∀ {u_T : S32} {w1 : Int32} {H : Heap} {locs : List Loc} {ls : Array Slot}, f_X2_settle_L2 fu n u_T w1 = some zu_T → WD g A s.heap (cl_X2 g a_T u_T ++ X) H locs → lv_has ls 3 [(0, .ref (a_T 0)), (1, .int w1)] → W p l e (rmH 2) s m (List.toArray [.ref (a_T 0)]) below meth c H locs 0 0 (MQ below (va_Qv (fun (_ : Unit) => True) (fun _ t => POST g A (cl_X2 g a_T zu_T ++ X) t) A) (List.toArray [.ref (a_T 0)]) s 0 0 A) (F0 m 2 ls []) := by
    intro  n
    induction n with
    | zero => intro u_T w1 H locs ls hf; exact absurd hf (by intro q; cases q)
    | succ n ih => exact fun hf hw hl => J2 ih hf hw hl
  unfold f_X2_settle at hf
  refine lv_iconst (v := 0) hx hb dX2_settle_0 (by decide) ?_
  refine lv_istore_n (lv' := [(1, .int (0 : Int32)), (0, .ref (a_T 0))]) hx hb dX2_settle_1 rfl hl (by decide) rfl (fun ls hl => ?_)
  exact L2 fu hf hw (lv_sub hl [1, 0] rfl)
def f_X2_isKnown (fu : Nat) (u_T : S32) (x1 : Int32) : Option (Int32) := if x1 < (0 : Int32) then (some (0 : Int32)) else (if (24 : Int32) ≤ x1 then (some (0 : Int32)) else (tx_b1 (f_X2_knownBy fu u_T) fun (r_4 : Int32) => if r_4 ≤ x1 then (some (0 : Int32)) else (tx_ck x1 24 <| if (u_T 4 x1.toNatClampNeg) = (-1 : Int32) then (tx_ck x1 24 <| if (u_T 5 x1.toNatClampNeg) = (0 : Int32) then (some (1 : Int32)) else (some (0 : Int32))) else (some (0 : Int32)))))
set_option maxHeartbeats 4000000 in
set_option maxRecDepth 100000 in
theorem c_X2_isKnown {l : Launch} {g : GG} {A : Nat → Prop} {X : va_W} {fu : Nat} {a_T : Nat → Nat} {u_T : S32} {x1 : Int32} {r : Int32} (hf : f_X2_isKnown fu u_T x1 = some r) : MI l yX2_isKnown cX2_isKnown 2 (some .boolean) 2 g A (cl_X2 g a_T u_T ++ X) [.ref (a_T 0), .int x1] r (cl_X2 g a_T u_T ++ X) := by
  refine tx_start (av := [.ref (a_T 0), .int x1]) (by decide) (Nat.le_of_ble_eq_true rfl) ?_
  intro p e s m below meth c ls S hr hlk hE hw hl
  have S : CallFix p m c cX2_isKnown 2 s (List.toArray [.ref (a_T 0), .int x1]) (Cond.code yX2_isKnown cX2_isKnown 2 (some .boolean) :: allW) RX2 := S
  have hx := S.1
  have hb := S.2.1
  have hown := S.2.2.2.1
  have hts : ∀ w ∈ allW, w.before (List.toArray [.ref (a_T 0), .int x1]) s = true := fun w h => S.2.2.2.2 w (List.mem_cons_of_mem _ h)
  have hl : lv_has ls 2 [(0, .ref (a_T 0)), (1, .int x1)] := hl
  unfold f_X2_isKnown at hf
  refine lv_iload_n hx hb dX2_isKnown_0 rfl (lv_at hl 1 rfl) ?_
  refine lv_if_lt (tgt := 41) hx hb dX2_isKnown_1 (by decide) (fun h_1 => ?_) (fun h_1 => ?_)
  · replace hf := tx_pos hf h_1
    refine lv_iconst (v := 0) hx hb dX2_isKnown_41 (by decide) ?_
    obtain e0 := tx_in1 hf
    rw [← e0]
    exact tx_zret S hr hlk (by decide) hw dX2_isKnown_42
  · replace hf := tx_neg hf h_1
    refine lv_iload_n hx hb dX2_isKnown_4 rfl (lv_at hl 1 rfl) ?_
    refine lv_bipush (v := 24) hx hb dX2_isKnown_5 (by decide) ?_
    refine lv_icmp_ge (tgt := 41) hx hb dX2_isKnown_7 (by decide) (fun h_2 => ?_) (fun h_2 => ?_)
    · replace hf := tx_pos hf h_2
      refine lv_iconst (v := 0) hx hb dX2_isKnown_41 (by decide) ?_
      obtain e0 := tx_in1 hf
      rw [← e0]
      exact tx_zret S hr hlk (by decide) hw dX2_isKnown_42
    · replace hf := tx_neg hf h_2
      refine lv_iload_n hx hb dX2_isKnown_10 rfl (lv_at hl 1 rfl) ?_
      refine lv_aload_n hx hb dX2_isKnown_11 rfl (lv_at hl 0 rfl) ?_
      obtain ⟨r_4, h_3, hf⟩ := tx_b1_e hf
      refine tx_ci hw (tx_runV S hE hw (c_X2_knownBy h_3) lk_X2_45 (q0 := 0) rfl rfl rfl hl.1 (rest := [.int x1]) rfl (Nat.le_of_ble_eq_true rfl) ⟨by decide, by decide⟩ dX2_isKnown_12 ⟨Nat.zero_le _, Nat.zero_le _⟩) (fun H locs hw => ?_)
      refine lv_icmp_ge (tgt := 41) hx hb dX2_isKnown_15 (by decide) (fun h_5 => ?_) (fun h_5 => ?_)
      · replace hf := tx_pos hf h_5
        refine lv_iconst (v := 0) hx hb dX2_isKnown_41 (by decide) ?_
        obtain e0 := tx_in1 hf
        rw [← e0]
        exact tx_zret S hr hlk (by decide) hw dX2_isKnown_42
      · replace hf := tx_neg hf h_5
        refine lv_aload_n hx hb dX2_isKnown_18 rfl (lv_at hl 0 rfl) ?_
        refine gf_X2_22 S hE hw 0 rfl rfl dX2_isKnown_19 ?_
        refine lv_iload_n hx hb dX2_isKnown_22 rfl (lv_at hl 1 rfl) ?_
        obtain ⟨h_6, hf⟩ := tx_ck_e hf
        refine tx_iald S hE hw 4 rfl h_6 dX2_isKnown_23 ?_
        refine lv_iconst (v := -1) hx hb dX2_isKnown_24 (by decide) ?_
        refine lv_icmp_ne (tgt := 41) hx hb dX2_isKnown_25 (by decide) (fun h_7 => ?_) (fun h_7 => ?_)
        · replace hf := tx_neg hf h_7
          refine lv_iconst (v := 0) hx hb dX2_isKnown_41 (by decide) ?_
          obtain e0 := tx_in1 hf
          rw [← e0]
          exact tx_zret S hr hlk (by decide) hw dX2_isKnown_42
        · replace hf := tx_pos hf h_7
          refine lv_aload_n hx hb dX2_isKnown_28 rfl (lv_at hl 0 rfl) ?_
          refine gf_X2_25 S hE hw 0 rfl rfl dX2_isKnown_29 ?_
          refine lv_iload_n hx hb dX2_isKnown_32 rfl (lv_at hl 1 rfl) ?_
          obtain ⟨h_8, hf⟩ := tx_ck_e hf
          refine tx_zald S hE hw 5 rfl h_8 dX2_isKnown_33 ?_
          refine lv_if_ne (tgt := 41) hx hb dX2_isKnown_34 (by decide) (fun h_9 => ?_) (fun h_9 => ?_)
          · replace hf := tx_neg hf h_9
            refine lv_iconst (v := 0) hx hb dX2_isKnown_41 (by decide) ?_
            obtain e0 := tx_in1 hf
            rw [← e0]
            exact tx_zret S hr hlk (by decide) hw dX2_isKnown_42
          · replace hf := tx_pos hf h_9
            refine lv_iconst (v := 1) hx hb dX2_isKnown_37 (by decide) ?_
            refine lv_goto (tgt := 42) hx hb dX2_isKnown_38 (by decide) ?_
            obtain e0 := tx_in1 hf
            rw [← e0]
            exact tx_zret S hr hlk (by decide) hw dX2_isKnown_42
def f_X2_lastKnownWeek_J32 (fu : Nat) (u_T : S32) (K4 : Int32 → Int32 → Option (Int32)) (w2 : Int32) (t0 : Int32) : Option (Int32) := tx_let (w2 + (1 : Int32)) fun (y_6 : Int32) => K4 t0 y_6
def f_X2_lastKnownWeek_J4 (fu : Nat) (u_T : S32) (K4 : Int32 → Int32 → Option (Int32)) (w1 : Int32) (w2 : Int32) : Option (Int32) := if (24 : Int32) ≤ w2 then (some w1) else (tx_b1 (f_X2_isKnown fu u_T w2) fun (r_3 : Int32) => if r_3 = (0 : Int32) then (f_X2_lastKnownWeek_J32 fu u_T K4 w2 w1) else (tx_ck w2 24 <| f_X2_lastKnownWeek_J32 fu u_T K4 w2 (if w1 < (u_T 1 w2.toNatClampNeg) then (u_T 1 w2.toNatClampNeg) else w1)))
def f_X2_lastKnownWeek_L4 (fu : Nat) (u_T : S32) : Nat → Int32 → Int32 → Option (Int32)
  | 0 => fun _ _ => none
  | n + 1 => f_X2_lastKnownWeek_J4 fu u_T (f_X2_lastKnownWeek_L4 fu u_T n)
def f_X2_lastKnownWeek (fu : Nat) (u_T : S32) : Option (Int32) := f_X2_lastKnownWeek_L4 fu u_T fu (0 : Int32) (0 : Int32)
set_option maxHeartbeats 4000000 in
set_option maxRecDepth 100000 in
theorem c_X2_lastKnownWeek {l : Launch} {g : GG} {A : Nat → Prop} {X : va_W} {fu : Nat} {a_T : Nat → Nat} {u_T : S32} {r : Int32} (hf : f_X2_lastKnownWeek fu u_T = some r) : MI l yX2_lastKnownWeek cX2_lastKnownWeek 3 (some .int) 3 g A (cl_X2 g a_T u_T ++ X) [.ref (a_T 0)] r (cl_X2 g a_T u_T ++ X) := by
  refine tx_start (av := [.ref (a_T 0)]) (by decide) (Nat.le_of_ble_eq_true rfl) ?_
  intro p e s m below meth c ls S hr hlk hE hw hl
  have S : CallFix p m c cX2_lastKnownWeek 3 s (List.toArray [.ref (a_T 0)]) (Cond.code yX2_lastKnownWeek cX2_lastKnownWeek 3 (some .int) :: allW) RX2 := S
  have hx := S.1
  have hb := S.2.1
  have hown := S.2.2.2.1
  have hts : ∀ w ∈ allW, w.before (List.toArray [.ref (a_T 0)]) s = true := fun w h => S.2.2.2.2 w (List.mem_cons_of_mem _ h)
  have hl : lv_has ls 3 [(0, .ref (a_T 0))] := hl
  have J32 : ∀ {K4 : Int32 → Int32 → Option (Int32)} (hK4 : ∀ {w1 : Int32} {w2 : Int32} {H : Heap} {locs : List Loc} {ls : Array Slot}, K4 w1 w2 = some r → WD g A s.heap (cl_X2 g a_T u_T ++ X) H locs → lv_has ls 3 [(0, .ref (a_T 0)), (1, .int w1), (2, .int w2)] → W p l e (rmH 3) s m (List.toArray [.ref (a_T 0)]) below meth c H locs 0 0 (MQ below (va_Qi (fun r2 (_ : Unit) => r2 = r) (fun _ t => POST g A (cl_X2 g a_T u_T ++ X) t) A) (List.toArray [.ref (a_T 0)]) s 0 0 A) (F0 m 4 ls [])), ∀ {w2 : Int32} {t0 : Int32} {H : Heap} {locs : List Loc} {ls : Array Slot}, f_X2_lastKnownWeek_J32 fu u_T K4 w2 t0 = some r → WD g A s.heap (cl_X2 g a_T u_T ++ X) H locs → lv_has ls 3 [(0, .ref (a_T 0)), (2, .int w2)] → W p l e (rmH 3) s m (List.toArray [.ref (a_T 0)]) below meth c H locs 0 0 (MQ below (va_Qi (fun r2 (_ : Unit) => r2 = r) (fun _ t => POST g A (cl_X2 g a_T u_T ++ X) t) A) (List.toArray [.ref (a_T 0)]) s 0 0 A) (F0 m 32 ls [.int t0]) := by
    intro K4 hK4 w2 t0 H locs ls hf hw hl
    unfold f_X2_lastKnownWeek_J32 at hf
    refine lv_istore_n (lv' := [(1, .int t0), (0, .ref (a_T 0)), (2, .int w2)]) hx hb dX2_lastKnownWeek_32 rfl hl (by decide) rfl (fun ls hl => ?_)
    obtain ⟨y_6, ey_6⟩ : ∃ y : Int32, y = w2 + (1 : Int32) := ⟨_, rfl⟩
    replace hf := tx_let_e hf ey_6
    refine lv_iinc (v := y_6) (lv' := [(2, .int y_6), (1, .int t0), (0, .ref (a_T 0))]) hx hb dX2_lastKnownWeek_33 hl (k := 2) rfl (by rw [ey_6]; rfl) (by decide) rfl (fun ls hl => ?_)
    refine lv_goto (tgt := 4) hx hb dX2_lastKnownWeek_36 (by decide) ?_
    exact hK4 hf hw (lv_sub hl [2, 1, 0] rfl)
  have J4 : ∀ {K4 : Int32 → Int32 → Option (Int32)} (hK4 : ∀ {w1 : Int32} {w2 : Int32} {H : Heap} {locs : List Loc} {ls : Array Slot}, K4 w1 w2 = some r → WD g A s.heap (cl_X2 g a_T u_T ++ X) H locs → lv_has ls 3 [(0, .ref (a_T 0)), (1, .int w1), (2, .int w2)] → W p l e (rmH 3) s m (List.toArray [.ref (a_T 0)]) below meth c H locs 0 0 (MQ below (va_Qi (fun r2 (_ : Unit) => r2 = r) (fun _ t => POST g A (cl_X2 g a_T u_T ++ X) t) A) (List.toArray [.ref (a_T 0)]) s 0 0 A) (F0 m 4 ls [])), ∀ {w1 : Int32} {w2 : Int32} {H : Heap} {locs : List Loc} {ls : Array Slot}, f_X2_lastKnownWeek_J4 fu u_T K4 w1 w2 = some r → WD g A s.heap (cl_X2 g a_T u_T ++ X) H locs → lv_has ls 3 [(0, .ref (a_T 0)), (1, .int w1), (2, .int w2)] → W p l e (rmH 3) s m (List.toArray [.ref (a_T 0)]) below meth c H locs 0 0 (MQ below (va_Qi (fun r2 (_ : Unit) => r2 = r) (fun _ t => POST g A (cl_X2 g a_T u_T ++ X) t) A) (List.toArray [.ref (a_T 0)]) s 0 0 A) (F0 m 4 ls []) := by
    intro K4 hK4 w1 w2 H locs ls hf hw hl
    unfold f_X2_lastKnownWeek_J4 at hf
    refine lv_iload_n hx hb dX2_lastKnownWeek_4 rfl (lv_at hl 2 rfl) ?_
    refine lv_bipush (v := 24) hx hb dX2_lastKnownWeek_5 (by decide) ?_
    refine lv_icmp_ge (tgt := 39) hx hb dX2_lastKnownWeek_7 (by decide) (fun h_1 => ?_) (fun h_1 => ?_)
    · replace hf := tx_pos hf h_1
      refine lv_iload_n hx hb dX2_lastKnownWeek_39 rfl (lv_at hl 1 rfl) ?_
      obtain e0 := tx_in1 hf
      rw [← e0]
      exact tx_iret S hr hlk hw dX2_lastKnownWeek_40
    · replace hf := tx_neg hf h_1
      refine lv_aload_n hx hb dX2_lastKnownWeek_10 rfl (lv_at hl 0 rfl) ?_
      refine lv_iload_n hx hb dX2_lastKnownWeek_11 rfl (lv_at hl 2 rfl) ?_
      obtain ⟨r_3, h_2, hf⟩ := tx_b1_e hf
      refine tx_ci hw (tx_runV S hE hw (c_X2_isKnown h_2) lk_X2_49 (q0 := 0) rfl rfl rfl hl.1 (rest := []) rfl (Nat.le_of_ble_eq_true rfl) ⟨by decide, by decide⟩ dX2_lastKnownWeek_12 ⟨Nat.zero_le _, Nat.zero_le _⟩) (fun H locs hw => ?_)
      refine lv_if_eq (tgt := 31) hx hb dX2_lastKnownWeek_15 (by decide) (fun h_4 => ?_) (fun h_4 => ?_)
      · replace hf := tx_pos hf h_4
        refine lv_iload_n hx hb dX2_lastKnownWeek_31 rfl (lv_at hl 1 rfl) ?_
        exact J32 hK4 hf hw (lv_sub hl [0, 2] rfl)
      · replace hf := tx_neg hf h_4
        refine lv_iload_n hx hb dX2_lastKnownWeek_18 rfl (lv_at hl 1 rfl) ?_
        refine lv_aload_n hx hb dX2_lastKnownWeek_19 rfl (lv_at hl 0 rfl) ?_
        refine gf_X2_11 S hE hw 0 rfl rfl dX2_lastKnownWeek_20 ?_
        refine lv_iload_n hx hb dX2_lastKnownWeek_23 rfl (lv_at hl 2 rfl) ?_
        obtain ⟨h_5, hf⟩ := tx_ck_e hf
        refine tx_iald S hE hw 1 rfl h_5 dX2_lastKnownWeek_24 ?_
        refine tx_mmax S kw_1163 hl.1 (by decide) (Nat.le_of_ble_eq_true rfl) ⟨Nat.zero_le _, Nat.zero_le _⟩ dX2_lastKnownWeek_25 ?_
        refine lv_goto (tgt := 32) hx hb dX2_lastKnownWeek_28 (by decide) ?_
        exact J32 hK4 hf hw (lv_sub hl [0, 2] rfl)
  have L4 : ∀ (n : Nat), ∀ {w1 : Int32} {w2 : Int32} {H : Heap} {locs : List Loc} {ls : Array Slot}, f_X2_lastKnownWeek_L4 fu u_T n w1 w2 = some r → WD g A s.heap (cl_X2 g a_T u_T ++ X) H locs → lv_has ls 3 [(0, .ref (a_T 0)), (1, .int w1), (2, .int w2)] → W p l e (rmH 3) s m (List.toArray [.ref (a_T 0)]) below meth c H locs 0 0 (MQ below (va_Qi (fun r2 (_ : Unit) => r2 = r) (fun _ t => POST g A (cl_X2 g a_T u_T ++ X) t) A) (List.toArray [.ref (a_T 0)]) s 0 0 A) (F0 m 4 ls []) := by
    intro  n
    induction n with
    | zero => intro w1 w2 H locs ls hf; exact absurd hf (by intro q; cases q)
    | succ n ih => exact fun hf hw hl => J4 ih hf hw hl
  unfold f_X2_lastKnownWeek at hf
  refine lv_iconst (v := 0) hx hb dX2_lastKnownWeek_0 (by decide) ?_
  refine lv_istore_n (lv' := [(1, .int (0 : Int32)), (0, .ref (a_T 0))]) hx hb dX2_lastKnownWeek_1 rfl hl (by decide) rfl (fun ls hl => ?_)
  refine lv_iconst (v := 0) hx hb dX2_lastKnownWeek_2 (by decide) ?_
  refine lv_istore_n (lv' := [(2, .int (0 : Int32)), (1, .int (0 : Int32)), (0, .ref (a_T 0))]) hx hb dX2_lastKnownWeek_3 rfl hl (by decide) rfl (fun ls hl => ?_)
  exact L4 fu hf hw (lv_sub hl [2, 1, 0] rfl)
