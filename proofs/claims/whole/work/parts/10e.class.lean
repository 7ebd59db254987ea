def f_X10_isHeld (fu : Nat) (u_T : S32) (u_B : S32) (x1 : Int32) : Option (Int32) := tx_b1 (f_X0_isThought fu u_B x1) fun (r_2 : Int32) => if r_2 = (0 : Int32) then (some (0 : Int32)) else (tx_ck x1 12 <| if (u_T 11 x1.toNatClampNeg) = (1 : Int32) then (tx_ck x1 12 <| tx_b1 (f_X0_isMan fu u_B (u_T 12 x1.toNatClampNeg)) fun (r_8 : Int32) => if r_8 = (0 : Int32) then (some (0 : Int32)) else (some (1 : Int32))) else (some (0 : Int32)))
set_option maxHeartbeats 4000000 in
set_option maxRecDepth 100000 in
theorem c_X10_isHeld {l : Launch} {g : GG} {A : Nat → Prop} {X : va_W} {fu : Nat} {a_T a_B : Nat → Nat} {p_T_16 p_B_17 : Nat} {u_T : S32} {u_B : S32} {x1 : Int32} {r : Int32} (hf : f_X10_isHeld fu u_T u_B x1 = some r) : MI l yX10_isHeld cX10_isHeld 2 (some .boolean) 1 g A (cl_X10 g a_T (a_B 0) p_T_16 u_T ++ (cl_X0 g a_B p_B_17 u_B ++ X)) [.ref (a_T 0), .int x1] r (cl_X10 g a_T (a_B 0) p_T_16 u_T ++ (cl_X0 g a_B p_B_17 u_B ++ X)) := by
  refine tx_start (av := [.ref (a_T 0), .int x1]) (by decide) (Nat.le_of_ble_eq_true rfl) ?_
  intro p e s m below meth c ls S hr hlk hE hw hl
  have S : CallFix p m c cX10_isHeld 2 s (List.toArray [.ref (a_T 0), .int x1]) (Cond.code yX10_isHeld cX10_isHeld 2 (some .boolean) :: allW) RX10 := S
  have hx := S.1
  have hb := S.2.1
  have hown := S.2.2.2.1
  have hts : ∀ w ∈ allW, w.before (List.toArray [.ref (a_T 0), .int x1]) s = true := fun w h => S.2.2.2.2 w (List.mem_cons_of_mem _ h)
  have hl : lv_has ls 2 [(0, .ref (a_T 0)), (1, .int x1)] := hl
  unfold f_X10_isHeld at hf
  refine lv_aload_n hx hb dX10_isHeld_0 rfl (lv_at hl 0 rfl) ?_
  refine gf_X10_49 S hE hw 0 rfl rfl dX10_isHeld_1 ?_
  refine lv_iload_n hx hb dX10_isHeld_4 rfl (lv_at hl 1 rfl) ?_
  have hw := hw.u1
  obtain ⟨r_2, h_1, hf⟩ := tx_b1_e hf
  refine tx_ci hw (tx_runN S hE hw (c_X0_isThought h_1) lk_X10_168 (q0 := 0) rfl rfl rfl hl.1 (rest := []) rfl (Nat.le_of_ble_eq_true rfl) ⟨by decide, by decide⟩ dX10_isHeld_5 ⟨Nat.zero_le _, Nat.zero_le _⟩) (fun H locs hw => ?_)
  refine lv_if_eq (tgt := 41) hx hb dX10_isHeld_8 (by decide) (fun h_3 => ?_) (fun h_3 => ?_)
  · replace hf := tx_pos hf h_3
    refine lv_iconst (v := 0) hx hb dX10_isHeld_41 (by decide) ?_
    have hw := hw.u1
    obtain e0 := tx_in1 hf
    rw [← e0]
    exact tx_zret S hr hlk (by decide) hw dX10_isHeld_42
  · replace hf := tx_neg hf h_3
    refine lv_aload_n hx hb dX10_isHeld_11 rfl (lv_at hl 0 rfl) ?_
    refine gf_X10_30 S hE hw 11 rfl rfl dX10_isHeld_12 ?_
    refine lv_iload_n hx hb dX10_isHeld_15 rfl (lv_at hl 1 rfl) ?_
    obtain ⟨h_4, hf⟩ := tx_ck_e hf
    refine tx_iald S hE hw 18 rfl h_4 dX10_isHeld_16 ?_
    refine lv_iconst (v := 1) hx hb dX10_isHeld_17 (by decide) ?_
    refine lv_icmp_ne (tgt := 41) hx hb dX10_isHeld_18 (by decide) (fun h_5 => ?_) (fun h_5 => ?_)
    · replace hf := tx_neg hf h_5
      refine lv_iconst (v := 0) hx hb dX10_isHeld_41 (by decide) ?_
      have hw := hw.u1
      obtain e0 := tx_in1 hf
      rw [← e0]
      exact tx_zret S hr hlk (by decide) hw dX10_isHeld_42
    · replace hf := tx_pos hf h_5
      refine lv_aload_n hx hb dX10_isHeld_21 rfl (lv_at hl 0 rfl) ?_
      refine gf_X10_49 S hE hw 11 rfl rfl dX10_isHeld_22 ?_
      refine lv_aload_n hx hb dX10_isHeld_25 rfl (lv_at hl 0 rfl) ?_
      refine gf_X10_33 S hE hw 11 rfl rfl dX10_isHeld_26 ?_
      refine lv_iload_n hx hb dX10_isHeld_29 rfl (lv_at hl 1 rfl) ?_
      obtain ⟨h_6, hf⟩ := tx_ck_e hf
      refine tx_iald S hE hw 19 rfl h_6 dX10_isHeld_30 ?_
      obtain ⟨r_8, h_7, hf⟩ := tx_b1_e hf
      refine tx_ci hw (tx_runN S hE hw (c_X0_isMan h_7) lk_X10_126 (q0 := 0) rfl rfl rfl hl.1 (rest := []) rfl (Nat.le_of_ble_eq_true rfl) ⟨by decide, by decide⟩ dX10_isHeld_31 ⟨Nat.zero_le _, Nat.zero_le _⟩) (fun H locs hw => ?_)
      refine lv_if_eq (tgt := 41) hx hb dX10_isHeld_34 (by decide) (fun h_9 => ?_) (fun h_9 => ?_)
      · replace hf := tx_pos hf h_9
        refine lv_iconst (v := 0) hx hb dX10_isHeld_41 (by decide) ?_
        have hw := hw.u1
        obtain e0 := tx_in1 hf
        rw [← e0]
        exact tx_zret S hr hlk (by decide) hw dX10_isHeld_42
      · replace hf := tx_neg hf h_9
        refine lv_iconst (v := 1) hx hb dX10_isHeld_37 (by decide) ?_
        refine lv_goto (tgt := 42) hx hb dX10_isHeld_38 (by decide) ?_
        have hw := hw.u1
        obtain e0 := tx_in1 hf
        rw [← e0]
        exact tx_zret S hr hlk (by decide) hw dX10_isHeld_42
def f_X10_readerOf (fu : Nat) (u_T : S32) (u_B : S32) (x1 : Int32) : Option (Int32) := tx_b1 (f_X10_isHeld fu u_T u_B x1) fun (r_2 : Int32) => if r_2 = (0 : Int32) then (some (-1 : Int32)) else (tx_ck x1 12 <| tx_ck (u_T 12 x1.toNatClampNeg) 6 <| some (u_T 10 (u_T 12 x1.toNatClampNeg).toNatClampNeg))
set_option maxHeartbeats 4000000 in
set_option maxRecDepth 100000 in
theorem c_X10_readerOf {l : Launch} {g : GG} {A : Nat → Prop} {X : va_W} {fu : Nat} {a_T a_B : Nat → Nat} {p_T_16 p_B_17 : Nat} {u_T : S32} {u_B : S32} {x1 : Int32} {r : Int32} (hf : f_X10_readerOf fu u_T u_B x1 = some r) : MI l yX10_readerOf cX10_readerOf 2 (some .int) 2 g A (cl_X10 g a_T (a_B 0) p_T_16 u_T ++ (cl_X0 g a_B p_B_17 u_B ++ X)) [.ref (a_T 0), .int x1] r (cl_X10 g a_T (a_B 0) p_T_16 u_T ++ (cl_X0 g a_B p_B_17 u_B ++ X)) := by
  refine tx_start (av := [.ref (a_T 0), .int x1]) (by decide) (Nat.le_of_ble_eq_true rfl) ?_
  intro p e s m below meth c ls S hr hlk hE hw hl
  have S : CallFix p m c cX10_readerOf 2 s (List.toArray [.ref (a_T 0), .int x1]) (Cond.code yX10_readerOf cX10_readerOf 2 (some .int) :: allW) RX10 := S
  have hx := S.1
  have hb := S.2.1
  have hown := S.2.2.2.1
  have hts : ∀ w ∈ allW, w.before (List.toArray [.ref (a_T 0), .int x1]) s = true := fun w h => S.2.2.2.2 w (List.mem_cons_of_mem _ h)
  have hl : lv_has ls 2 [(0, .ref (a_T 0)), (1, .int x1)] := hl
  unfold f_X10_readerOf at hf
  refine lv_aload_n hx hb dX10_readerOf_0 rfl (lv_at hl 0 rfl) ?_
  refine lv_iload_n hx hb dX10_readerOf_1 rfl (lv_at hl 1 rfl) ?_
  obtain ⟨r_2, h_1, hf⟩ := tx_b1_e hf
  refine tx_ci hw (tx_runV S hE hw (c_X10_isHeld h_1) lk_X10_172 (q0 := 0) rfl rfl rfl hl.1 (rest := []) rfl (Nat.le_of_ble_eq_true rfl) ⟨by decide, by decide⟩ dX10_readerOf_2 ⟨Nat.zero_le _, Nat.zero_le _⟩) (fun H locs hw => ?_)
  refine lv_if_eq (tgt := 22) hx hb dX10_readerOf_5 (by decide) (fun h_3 => ?_) (fun h_3 => ?_)
  · replace hf := tx_pos hf h_3
    refine lv_iconst (v := -1) hx hb dX10_readerOf_22 (by decide) ?_
    obtain e0 := tx_in1 hf
    rw [← e0]
    exact tx_iret S hr hlk hw dX10_readerOf_23
  · replace hf := tx_neg hf h_3
    refine lv_aload_n hx hb dX10_readerOf_8 rfl (lv_at hl 0 rfl) ?_
    refine gf_X10_27 S hE hw 0 rfl rfl dX10_readerOf_9 ?_
    refine lv_aload_n hx hb dX10_readerOf_12 rfl (lv_at hl 0 rfl) ?_
    refine gf_X10_33 S hE hw 0 rfl rfl dX10_readerOf_13 ?_
    refine lv_iload_n hx hb dX10_readerOf_16 rfl (lv_at hl 1 rfl) ?_
    obtain ⟨h_4, hf⟩ := tx_ck_e hf
    refine tx_iald S hE hw 8 rfl h_4 dX10_readerOf_17 ?_
    obtain ⟨h_5, hf⟩ := tx_ck_e hf
    refine tx_iald S hE hw 6 rfl h_5 dX10_readerOf_18 ?_
    refine lv_goto (tgt := 23) hx hb dX10_readerOf_19 (by decide) ?_
    obtain e0 := tx_in1 hf
    rw [← e0]
    exact tx_iret S hr hlk hw dX10_readerOf_23
def f_X10_nameDoor_J178 (fu : Nat) (u_T : S32) (u_B : S32) (K130 : S64 → Int32 → Int32 → Int32 → Option (S64)) (v_N : S64) (w1 : Int32) (w6 : Int32) (t0 : Int32) (t1 : Int32) : Option (S64) := tx_let (t0 + t1) fun (y_30 : Int32) => tx_let (w6 + (1 : Int32)) fun (y_31 : Int32) => K130 v_N w1 y_30 y_31
def f_X10_nameDoor_J177 (fu : Nat) (u_T : S32) (u_B : S32) (K130 : S64 → Int32 → Int32 → Int32 → Option (S64)) (v_N : S64) (w1 : Int32) (w6 : Int32) (t0 : Int32) : Option (S64) := f_X10_nameDoor_J178 fu u_T u_B K130 v_N w1 w6 t0 (0 : Int32)
def f_X10_nameDoor_J187 (fu : Nat) (u_T : S32) (u_B : S32) (v_N : S64) (w5 : Int32) : Option (S64) := tx_let (up4 v_N 0 (5 : Int32).toNatClampNeg (w5.toInt64)) fun (v_N_29 : S64) => some v_N_29
def f_X10_nameDoor_J130 (fu : Nat) (u_T : S32) (u_B : S32) (K130 : S64 → Int32 → Int32 → Int32 → Option (S64)) (v_N : S64) (w1 : Int32) (w5 : Int32) (w6 : Int32) : Option (S64) := if (u_B 0 5) ≤ w6 then (f_X10_nameDoor_J187 fu u_T u_B v_N w5) else (if (12 : Int32) ≤ w6 then (f_X10_nameDoor_J187 fu u_T u_B v_N w5) else (tx_ck w6 12 <| if (u_T 11 w6.toNatClampNeg) = (1 : Int32) then (tx_ck w6 12 <| if (u_T 12 w6.toNatClampNeg) = w1 then (f_X10_nameDoor_J178 fu u_T u_B K130 v_N w1 w6 w5 (1 : Int32)) else (f_X10_nameDoor_J177 fu u_T u_B K130 v_N w1 w6 w5)) else (f_X10_nameDoor_J177 fu u_T u_B K130 v_N w1 w6 w5)))
def f_X10_nameDoor_L130 (fu : Nat) (u_T : S32) (u_B : S32) : Nat → S64 → Int32 → Int32 → Int32 → Option (S64)
  | 0 => fun _ _ _ _ => none
  | n + 1 => f_X10_nameDoor_J130 fu u_T u_B (f_X10_nameDoor_L130 fu u_T u_B n)
def f_X10_nameDoor_J111 (fu : Nat) (u_T : S32) (u_B : S32) (v_N : S64) (w1 : Int32) (t1 : Int32) (t2 : Int64) : Option (S64) := tx_ck t1 7 <| tx_let (up4 v_N 0 t1.toNatClampNeg t2) fun (v_N_21 : S64) => tx_let (up4 v_N_21 0 (6 : Int32).toNatClampNeg ((u_T 0 1).toInt64)) fun (v_N_22 : S64) => f_X10_nameDoor_L130 fu u_T u_B fu v_N_22 w1 (0 : Int32) (0 : Int32)
def f_X10_nameDoor_J89 (fu : Nat) (u_T : S32) (u_B : S32) (v_N : S64) (w1 : Int32) (w4 : Int32) (t1 : Int32) (t2 : Int64) : Option (S64) := tx_ck t1 7 <| tx_let (up4 v_N 0 t1.toNatClampNeg t2) fun (v_N_17 : S64) => if w4 = (0 : Int32) then (f_X10_nameDoor_J111 fu u_T u_B v_N_17 w1 (4 : Int32) (0 : Int64)) else (tx_ck w1 6 <| f_X10_nameDoor_J111 fu u_T u_B v_N_17 w1 (4 : Int32) ((u_T 9 w1.toNatClampNeg).toInt64))
def f_X10_nameDoor_J67 (fu : Nat) (u_T : S32) (u_B : S32) (v_N : S64) (w1 : Int32) (w4 : Int32) (t1 : Int32) (t2 : Int64) : Option (S64) := tx_ck t1 7 <| tx_let (up4 v_N 0 t1.toNatClampNeg t2) fun (v_N_13 : S64) => if w4 = (0 : Int32) then (f_X10_nameDoor_J89 fu u_T u_B v_N_13 w1 w4 (3 : Int32) (0 : Int64)) else (tx_ck w1 6 <| f_X10_nameDoor_J89 fu u_T u_B v_N_13 w1 w4 (3 : Int32) ((u_T 6 w1.toNatClampNeg).toInt64))
def f_X10_nameDoor_J45 (fu : Nat) (u_T : S32) (u_B : S32) (v_N : S64) (w1 : Int32) (w4 : Int32) (t1 : Int32) (t2 : Int64) : Option (S64) := tx_ck t1 7 <| tx_let (up4 v_N 0 t1.toNatClampNeg t2) fun (v_N_9 : S64) => if w4 = (0 : Int32) then (f_X10_nameDoor_J67 fu u_T u_B v_N_9 w1 w4 (2 : Int32) (0 : Int64)) else (tx_ck w1 6 <| f_X10_nameDoor_J67 fu u_T u_B v_N_9 w1 w4 (2 : Int32) ((u_T 5 w1.toNatClampNeg).toInt64))
def f_X10_nameDoor (fu : Nat) (u_T : S32) (u_B : S32) (v_N : S64) (x1 : Int32) (x2 : Int32) (x3 : Int32) : Option (S64) := tx_b1 (f_X0_isMan fu u_B x1) fun (r_2 : Int32) => tx_let (up4 v_N 0 (0 : Int32).toNatClampNeg (x3.toInt64)) fun (v_N_3 : S64) => tx_b1 (f_X0_isReader fu u_B x2) fun (r_5 : Int32) => if r_5 = (0 : Int32) then (f_X10_nameDoor_J45 fu u_T u_B v_N_3 x1 r_2 (1 : Int32) (0 : Int64)) else (tx_ck x2 4 <| f_X10_nameDoor_J45 fu u_T u_B v_N_3 x1 r_2 (1 : Int32) ((u_T 14 x2.toNatClampNeg).toInt64))
set_option maxHeartbeats 4000000 in
set_option maxRecDepth 100000 in
theorem c_X10_nameDoor {l : Launch} {g : GG} {A : Nat → Prop} {X : va_W} {fu : Nat} {a_T a_B a_N : Nat → Nat} {p_B_17 : Nat} {u_T : S32} {u_B : S32} {v_N : S64} {x1 : Int32} {x2 : Int32} {x3 : Int32} {zv_N : S64} (hf : f_X10_nameDoor fu u_T u_B v_N x1 x2 x3 = some zv_N) : MV l yX10_nameDoor cX10_nameDoor 7 none 1 g A (cl_X10 g a_T (a_B 0) (a_N 0) u_T ++ (cl_X0 g a_B p_B_17 u_B ++ (cl_N g a_N v_N ++ X))) [.ref (a_T 0), .int x1, .int x2, .int x3] (cl_X10 g a_T (a_B 0) (a_N 0) u_T ++ (cl_X0 g a_B p_B_17 u_B ++ (cl_N g a_N zv_N ++ X))) := by
  refine tx_start (av := [.ref (a_T 0), .int x1, .int x2, .int x3]) (by decide) (Nat.le_of_ble_eq_true rfl) ?_
  intro p e s m below meth c ls S hr hlk hE hw hl
  have S : CallFix p m c cX10_nameDoor 7 s (List.toArray [.ref (a_T 0), .int x1, .int x2, .int x3]) (Cond.code yX10_nameDoor cX10_nameDoor 7 none :: allW) RX10 := S
  have hx := S.1
  have hb := S.2.1
  have hown := S.2.2.2.1
  have hts : ∀ w ∈ allW, w.before (List.toArray [.ref (a_T 0), .int x1, .int x2, .int x3]) s = true := fun w h => S.2.2.2.2 w (List.mem_cons_of_mem _ h)
  have hl : lv_has ls 7 [(0, .ref (a_T 0)), (1, .int x1), (2, .int x2), (3, .int x3)] := hl
  have J178 : ∀ {K130 : S64 → Int32 → Int32 → Int32 → Option (S64)} (hK130 : ∀ {v_N : S64} {w1 : Int32} {w5 : Int32} {w6 : Int32} {H : Heap} {locs : List Loc} {ls : Array Slot}, K130 v_N w1 w5 w6 = some zv_N → WD g A s.heap (cl_X10 g a_T (a_B 0) (a_N 0) u_T ++ (cl_X0 g a_B p_B_17 u_B ++ (cl_N g a_N v_N ++ X))) H locs → lv_has ls 7 [(0, .ref (a_T 0)), (1, .int w1), (5, .int w5), (6, .int w6)] → W p l e (rmH 1) s m (List.toArray [.ref (a_T 0), .int x1, .int x2, .int x3]) below meth c H locs 0 0 (MQ below (va_Qv (fun (_ : Unit) => True) (fun _ t => POST g A (cl_X10 g a_T (a_B 0) (a_N 0) u_T ++ (cl_X0 g a_B p_B_17 u_B ++ (cl_N g a_N zv_N ++ X))) t) A) (List.toArray [.ref (a_T 0), .int x1, .int x2, .int x3]) s 0 0 A) (F0 m 130 ls [])), ∀ {v_N : S64} {w1 : Int32} {w6 : Int32} {t0 : Int32} {t1 : Int32} {H : Heap} {locs : List Loc} {ls : Array Slot}, f_X10_nameDoor_J178 fu u_T u_B K130 v_N w1 w6 t0 t1 = some zv_N → WD g A s.heap (cl_X10 g a_T (a_B 0) (a_N 0) u_T ++ (cl_X0 g a_B p_B_17 u_B ++ (cl_N g a_N v_N ++ X))) H locs → lv_has ls 7 [(0, .ref (a_T 0)), (1, .int w1), (6, .int w6)] → W p l e (rmH 1) s m (List.toArray [.ref (a_T 0), .int x1, .int x2, .int x3]) below meth c H locs 0 0 (MQ below (va_Qv (fun (_ : Unit) => True) (fun _ t => POST g A (cl_X10 g a_T (a_B 0) (a_N 0) u_T ++ (cl_X0 g a_B p_B_17 u_B ++ (cl_N g a_N zv_N ++ X))) t) A) (List.toArray [.ref (a_T 0), .int x1, .int x2, .int x3]) s 0 0 A) (F0 m 178 ls [.int t1, .int t0]) := by
    intro K130 hK130 v_N w1 w6 t0 t1 H locs ls hf hw hl
    unfold f_X10_nameDoor_J178 at hf
    refine lv_iadd hx hb dX10_nameDoor_178 ?_
    refine lv_topi (fun y_30 ey_30 => ?_)
    replace hf := tx_let_e hf ey_30
    refine lv_istore (lv' := [(5, .int y_30), (0, .ref (a_T 0)), (1, .int w1), (6, .int w6)]) hx hb dX10_nameDoor_179 hl (by decide) rfl (fun ls hl => ?_)
    obtain ⟨y_31, ey_31⟩ : ∃ y : Int32, y = w6 + (1 : Int32) := ⟨_, rfl⟩
    replace hf := tx_let_e hf ey_31
    refine lv_iinc (v := y_31) (lv' := [(6, .int y_31), (5, .int y_30), (0, .ref (a_T 0)), (1, .int w1)]) hx hb dX10_nameDoor_181 hl (k := 3) rfl (by rw [ey_31]; rfl) (by decide) rfl (fun ls hl => ?_)
    refine lv_goto (tgt := 130) hx hb dX10_nameDoor_184 (by decide) ?_
    exact hK130 hf hw (lv_sub hl [2, 3, 1, 0] rfl)
  have J177 : ∀ {K130 : S64 → Int32 → Int32 → Int32 → Option (S64)} (hK130 : ∀ {v_N : S64} {w1 : Int32} {w5 : Int32} {w6 : Int32} {H : Heap} {locs : List Loc} {ls : Array Slot}, K130 v_N w1 w5 w6 = some zv_N → WD g A s.heap (cl_X10 g a_T (a_B 0) (a_N 0) u_T ++ (cl_X0 g a_B p_B_17 u_B ++ (cl_N g a_N v_N ++ X))) H locs → lv_has ls 7 [(0, .ref (a_T 0)), (1, .int w1), (5, .int w5), (6, .int w6)] → W p l e (rmH 1) s m (List.toArray [.ref (a_T 0), .int x1, .int x2, .int x3]) below meth c H locs 0 0 (MQ below (va_Qv (fun (_ : Unit) => True) (fun _ t => POST g A (cl_X10 g a_T (a_B 0) (a_N 0) u_T ++ (cl_X0 g a_B p_B_17 u_B ++ (cl_N g a_N zv_N ++ X))) t) A) (List.toArray [.ref (a_T 0), .int x1, .int x2, .int x3]) s 0 0 A) (F0 m 130 ls [])), ∀ {v_N : S64} {w1 : Int32} {w6 : Int32} {t0 : Int32} {H : Heap} {locs : List Loc} {ls : Array Slot}, f_X10_nameDoor_J177 fu u_T u_B K130 v_N w1 w6 t0 = some zv_N → WD g A s.heap (cl_X10 g a_T (a_B 0) (a_N 0) u_T ++ (cl_X0 g a_B p_B_17 u_B ++ (cl_N g a_N v_N ++ X))) H locs → lv_has ls 7 [(0, .ref (a_T 0)), (1, .int w1), (6, .int w6)] → W p l e (rmH 1) s m (List.toArray [.ref (a_T 0), .int x1, .int x2, .int x3]) below meth c H locs 0 0 (MQ below (va_Qv (fun (_ : Unit) => True) (fun _ t => POST g A (cl_X10 g a_T (a_B 0) (a_N 0) u_T ++ (cl_X0 g a_B p_B_17 u_B ++ (cl_N g a_N zv_N ++ X))) t) A) (List.toArray [.ref (a_T 0), .int x1, .int x2, .int x3]) s 0 0 A) (F0 m 177 ls [.int t0]) := by
    intro K130 hK130 v_N w1 w6 t0 H locs ls hf hw hl
    unfold f_X10_nameDoor_J177 at hf
    refine lv_iconst (v := 0) hx hb dX10_nameDoor_177 (by decide) ?_
    exact J178 hK130 hf hw (lv_sub hl [0, 1, 2] rfl)
  have J187 : ∀ {v_N : S64} {w5 : Int32} {H : Heap} {locs : List Loc} {ls : Array Slot}, f_X10_nameDoor_J187 fu u_T u_B v_N w5 = some zv_N → WD g A s.heap (cl_X10 g a_T (a_B 0) (a_N 0) u_T ++ (cl_X0 g a_B p_B_17 u_B ++ (cl_N g a_N v_N ++ X))) H locs → lv_has ls 7 [(0, .ref (a_T 0)), (5, .int w5)] → W p l e (rmH 1) s m (List.toArray [.ref (a_T 0), .int x1, .int x2, .int x3]) below meth c H locs 0 0 (MQ below (va_Qv (fun (_ : Unit) => True) (fun _ t => POST g A (cl_X10 g a_T (a_B 0) (a_N 0) u_T ++ (cl_X0 g a_B p_B_17 u_B ++ (cl_N g a_N zv_N ++ X))) t) A) (List.toArray [.ref (a_T 0), .int x1, .int x2, .int x3]) s 0 0 A) (F0 m 187 ls []) := by
    intro v_N w5 H locs ls hf hw hl
    unfold f_X10_nameDoor_J187 at hf
    refine lv_aload_n hx hb dX10_nameDoor_187 rfl (lv_at hl 0 rfl) ?_
    refine gf_X10_45 S hE hw 0 rfl rfl dX10_nameDoor_188 ?_
    refine lv_iconst (v := 5) hx hb dX10_nameDoor_191 (by decide) ?_
    refine lv_iload hx hb dX10_nameDoor_192 (lv_at hl 1 rfl) ?_
    refine lv_i2l (v := w5.toInt64) hx hb dX10_nameDoor_194 rfl ?_
    obtain ⟨v_N_29, ev_N_29⟩ : ∃ z : S64, z = up4 v_N 0 (5 : Int32).toNatClampNeg (w5.toInt64) := ⟨_, rfl⟩
    replace hf := tx_let_e hf ev_N_29
    refine tx_last (ws' := cl_X10 g a_T (a_B 0) (a_N 0) u_T ++ (cl_X0 g a_B p_B_17 u_B ++ (cl_N g a_N v_N_29 ++ X))) S hE hw 23 rfl (by unfold vp_in; decide) (by rw [ev_N_29]; rfl) dX10_nameDoor_195 (fun H locs hw => ?_)
    obtain e0 := tx_in1 hf
    rw [← e0]
    exact tx_vret S hr hlk hw dX10_nameDoor_196
  have J130 : ∀ {K130 : S64 → Int32 → Int32 → Int32 → Option (S64)} (hK130 : ∀ {v_N : S64} {w1 : Int32} {w5 : Int32} {w6 : Int32} {H : Heap} {locs : List Loc} {ls : Array Slot}, K130 v_N w1 w5 w6 = some zv_N → WD g A s.heap (cl_X10 g a_T (a_B 0) (a_N 0) u_T ++ (cl_X0 g a_B p_B_17 u_B ++ (cl_N g a_N v_N ++ X))) H locs → lv_has ls 7 [(0, .ref (a_T 0)), (1, .int w1), (5, .int w5), (6, .int w6)] → W p l e (rmH 1) s m (List.toArray [.ref (a_T 0), .int x1, .int x2, .int x3]) below meth c H locs 0 0 (MQ below (va_Qv (fun (_ : Unit) => True) (fun _ t => POST g A (cl_X10 g a_T (a_B 0) (a_N 0) u_T ++ (cl_X0 g a_B p_B_17 u_B ++ (cl_N g a_N zv_N ++ X))) t) A) (List.toArray [.ref (a_T 0), .int x1, .int x2, .int x3]) s 0 0 A) (F0 m 130 ls [])), ∀ {v_N : S64} {w1 : Int32} {w5 : Int32} {w6 : Int32} {H : Heap} {locs : List Loc} {ls : Array Slot}, f_X10_nameDoor_J130 fu u_T u_B K130 v_N w1 w5 w6 = some zv_N → WD g A s.heap (cl_X10 g a_T (a_B 0) (a_N 0) u_T ++ (cl_X0 g a_B p_B_17 u_B ++ (cl_N g a_N v_N ++ X))) H locs → lv_has ls 7 [(0, .ref (a_T 0)), (1, .int w1), (5, .int w5), (6, .int w6)] → W p l e (rmH 1) s m (List.toArray [.ref (a_T 0), .int x1, .int x2, .int x3]) below meth c H locs 0 0 (MQ below (va_Qv (fun (_ : Unit) => True) (fun _ t => POST g A (cl_X10 g a_T (a_B 0) (a_N 0) u_T ++ (cl_X0 g a_B p_B_17 u_B ++ (cl_N g a_N zv_N ++ X))) t) A) (List.toArray [.ref (a_T 0), .int x1, .int x2, .int x3]) s 0 0 A) (F0 m 130 ls []) := by
    intro K130 hK130 v_N w1 w5 w6 H locs ls hf hw hl
    unfold f_X10_nameDoor_J130 at hf
    refine lv_iload hx hb dX10_nameDoor_130 (lv_at hl 3 rfl) ?_
    refine lv_aload_n hx hb dX10_nameDoor_132 rfl (lv_at hl 0 rfl) ?_
    refine gf_X10_49 S hE hw 0 rfl rfl dX10_nameDoor_133 ?_
    refine gf_X10_117 S hE hw 12 rfl rfl dX10_nameDoor_136 ?_
    refine lv_icmp_ge (tgt := 187) hx hb dX10_nameDoor_139 (by decide) (fun h_23 => ?_) (fun h_23 => ?_)
    · replace hf := tx_pos hf h_23
      exact J187 hf hw (lv_sub hl [0, 2] rfl)
    · replace hf := tx_neg hf h_23
      refine lv_iload hx hb dX10_nameDoor_142 (lv_at hl 3 rfl) ?_
      refine lv_bipush (v := 12) hx hb dX10_nameDoor_144 (by decide) ?_
      refine lv_icmp_ge (tgt := 187) hx hb dX10_nameDoor_146 (by decide) (fun h_24 => ?_) (fun h_24 => ?_)
      · replace hf := tx_pos hf h_24
        exact J187 hf hw (lv_sub hl [0, 2] rfl)
      · replace hf := tx_neg hf h_24
        refine lv_iload hx hb dX10_nameDoor_149 (lv_at hl 2 rfl) ?_
        refine lv_aload_n hx hb dX10_nameDoor_151 rfl (lv_at hl 0 rfl) ?_
        refine gf_X10_30 S hE hw 0 rfl rfl dX10_nameDoor_152 ?_
        refine lv_iload hx hb dX10_nameDoor_155 (lv_at hl 3 rfl) ?_
        obtain ⟨h_25, hf⟩ := tx_ck_e hf
        refine tx_iald S hE hw 7 rfl h_25 dX10_nameDoor_157 ?_
        refine lv_iconst (v := 1) hx hb dX10_nameDoor_158 (by decide) ?_
        refine lv_icmp_ne (tgt := 177) hx hb dX10_nameDoor_159 (by decide) (fun h_26 => ?_) (fun h_26 => ?_)
        · replace hf := tx_neg hf h_26
          exact J177 hK130 hf hw (lv_sub hl [0, 1, 3] rfl)
        · replace hf := tx_pos hf h_26
          refine lv_aload_n hx hb dX10_nameDoor_162 rfl (lv_at hl 0 rfl) ?_
          refine gf_X10_33 S hE hw 0 rfl rfl dX10_nameDoor_163 ?_
          refine lv_iload hx hb dX10_nameDoor_166 (lv_at hl 3 rfl) ?_
          obtain ⟨h_27, hf⟩ := tx_ck_e hf
          refine tx_iald S hE hw 8 rfl h_27 dX10_nameDoor_168 ?_
          refine lv_iload_n hx hb dX10_nameDoor_169 rfl (lv_at hl 1 rfl) ?_
          refine lv_icmp_ne (tgt := 177) hx hb dX10_nameDoor_170 (by decide) (fun h_28 => ?_) (fun h_28 => ?_)
          · replace hf := tx_neg hf h_28
            exact J177 hK130 hf hw (lv_sub hl [0, 1, 3] rfl)
          · replace hf := tx_pos hf h_28
            refine lv_iconst (v := 1) hx hb dX10_nameDoor_173 (by decide) ?_
            refine lv_goto (tgt := 178) hx hb dX10_nameDoor_174 (by decide) ?_
            exact J178 hK130 hf hw (lv_sub hl [0, 1, 3] rfl)
  have L130 : ∀ (n : Nat), ∀ {v_N : S64} {w1 : Int32} {w5 : Int32} {w6 : Int32} {H : Heap} {locs : List Loc} {ls : Array Slot}, f_X10_nameDoor_L130 fu u_T u_B n v_N w1 w5 w6 = some zv_N → WD g A s.heap (cl_X10 g a_T (a_B 0) (a_N 0) u_T ++ (cl_X0 g a_B p_B_17 u_B ++ (cl_N g a_N v_N ++ X))) H locs → lv_has ls 7 [(0, .ref (a_T 0)), (1, .int w1), (5, .int w5), (6, .int w6)] → W p l e (rmH 1) s m (List.toArray [.ref (a_T 0), .int x1, .int x2, .int x3]) below meth c H locs 0 0 (MQ below (va_Qv (fun (_ : Unit) => True) (fun _ t => POST g A (cl_X10 g a_T (a_B 0) (a_N 0) u_T ++ (cl_X0 g a_B p_B_17 u_B ++ (cl_N g a_N zv_N ++ X))) t) A) (List.toArray [.ref (a_T 0), .int x1, .int x2, .int x3]) s 0 0 A) (F0 m 130 ls []) := by
    intro  n
    induction n with
    | zero => intro v_N w1 w5 w6 H locs ls hf; exact absurd hf (by intro q; cases q)
    | succ n ih => exact fun hf hw hl => J130 ih hf hw hl
  have J111 : ∀ {v_N : S64} {w1 : Int32} {t1 : Int32} {t2 : Int64} {H : Heap} {locs : List Loc} {ls : Array Slot}, f_X10_nameDoor_J111 fu u_T u_B v_N w1 t1 t2 = some zv_N → WD g A s.heap (cl_X10 g a_T (a_B 0) (a_N 0) u_T ++ (cl_X0 g a_B p_B_17 u_B ++ (cl_N g a_N v_N ++ X))) H locs → lv_has ls 7 [(0, .ref (a_T 0)), (1, .int w1)] → W p l e (rmH 1) s m (List.toArray [.ref (a_T 0), .int x1, .int x2, .int x3]) below meth c H locs 0 0 (MQ below (va_Qv (fun (_ : Unit) => True) (fun _ t => POST g A (cl_X10 g a_T (a_B 0) (a_N 0) u_T ++ (cl_X0 g a_B p_B_17 u_B ++ (cl_N g a_N zv_N ++ X))) t) A) (List.toArray [.ref (a_T 0), .int x1, .int x2, .int x3]) s 0 0 A) (F0 m 111 ls [.long t2, .int t1, .ref (a_N 0)]) := by
    intro v_N w1 t1 t2 H locs ls hf hw hl
    unfold f_X10_nameDoor_J111 at hf
    obtain ⟨h_20, hf⟩ := tx_ck_e hf
    obtain ⟨v_N_21, ev_N_21⟩ : ∃ z : S64, z = up4 v_N 0 t1.toNatClampNeg t2 := ⟨_, rfl⟩
    replace hf := tx_let_e hf ev_N_21
    refine tx_last (ws' := cl_X10 g a_T (a_B 0) (a_N 0) u_T ++ (cl_X0 g a_B p_B_17 u_B ++ (cl_N g a_N v_N_21 ++ X))) S hE hw 23 rfl h_20 (by rw [ev_N_21]; rfl) dX10_nameDoor_111 (fun H locs hw => ?_)
    refine lv_aload_n hx hb dX10_nameDoor_112 rfl (lv_at hl 0 rfl) ?_
    refine gf_X10_45 S hE hw 0 rfl rfl dX10_nameDoor_113 ?_
    refine lv_bipush (v := 6) hx hb dX10_nameDoor_116 (by decide) ?_
    refine lv_aload_n hx hb dX10_nameDoor_118 rfl (lv_at hl 0 rfl) ?_
    refine gf_X10_53 S hE hw 0 rfl rfl dX10_nameDoor_119 ?_
    refine lv_i2l (v := (u_T 0 1).toInt64) hx hb dX10_nameDoor_122 rfl ?_
    obtain ⟨v_N_22, ev_N_22⟩ : ∃ z : S64, z = up4 v_N_21 0 (6 : Int32).toNatClampNeg ((u_T 0 1).toInt64) := ⟨_, rfl⟩
    replace hf := tx_let_e hf ev_N_22
    refine tx_last (ws' := cl_X10 g a_T (a_B 0) (a_N 0) u_T ++ (cl_X0 g a_B p_B_17 u_B ++ (cl_N g a_N v_N_22 ++ X))) S hE hw 23 rfl (by unfold vp_in; decide) (by rw [ev_N_22]; rfl) dX10_nameDoor_123 (fun H locs hw => ?_)
    refine lv_iconst (v := 0) hx hb dX10_nameDoor_124 (by decide) ?_
    refine lv_istore (lv' := [(5, .int (0 : Int32)), (0, .ref (a_T 0)), (1, .int w1)]) hx hb dX10_nameDoor_125 hl (by decide) rfl (fun ls hl => ?_)
    refine lv_iconst (v := 0) hx hb dX10_nameDoor_127 (by decide) ?_
    refine lv_istore (lv' := [(6, .int (0 : Int32)), (5, .int (0 : Int32)), (0, .ref (a_T 0)), (1, .int w1)]) hx hb dX10_nameDoor_128 hl (by decide) rfl (fun ls hl => ?_)
    exact L130 fu hf hw (lv_sub hl [2, 3, 1, 0] rfl)
  have J89 : ∀ {v_N : S64} {w1 : Int32} {w4 : Int32} {t1 : Int32} {t2 : Int64} {H : Heap} {locs : List Loc} {ls : Array Slot}, f_X10_nameDoor_J89 fu u_T u_B v_N w1 w4 t1 t2 = some zv_N → WD g A s.heap (cl_X10 g a_T (a_B 0) (a_N 0) u_T ++ (cl_X0 g a_B p_B_17 u_B ++ (cl_N g a_N v_N ++ X))) H locs → lv_has ls 7 [(0, .ref (a_T 0)), (1, .int w1), (4, .int w4)] → W p l e (rmH 1) s m (List.toArray [.ref (a_T 0), .int x1, .int x2, .int x3]) below meth c H locs 0 0 (MQ below (va_Qv (fun (_ : Unit) => True) (fun _ t => POST g A (cl_X10 g a_T (a_B 0) (a_N 0) u_T ++ (cl_X0 g a_B p_B_17 u_B ++ (cl_N g a_N zv_N ++ X))) t) A) (List.toArray [.ref (a_T 0), .int x1, .int x2, .int x3]) s 0 0 A) (F0 m 89 ls [.long t2, .int t1, .ref (a_N 0)]) := by
    intro v_N w1 w4 t1 t2 H locs ls hf hw hl
    unfold f_X10_nameDoor_J89 at hf
    obtain ⟨h_16, hf⟩ := tx_ck_e hf
    obtain ⟨v_N_17, ev_N_17⟩ : ∃ z : S64, z = up4 v_N 0 t1.toNatClampNeg t2 := ⟨_, rfl⟩
    replace hf := tx_let_e hf ev_N_17
    refine tx_last (ws' := cl_X10 g a_T (a_B 0) (a_N 0) u_T ++ (cl_X0 g a_B p_B_17 u_B ++ (cl_N g a_N v_N_17 ++ X))) S hE hw 23 rfl h_16 (by rw [ev_N_17]; rfl) dX10_nameDoor_89 (fun H locs hw => ?_)
    refine lv_aload_n hx hb dX10_nameDoor_90 rfl (lv_at hl 0 rfl) ?_
    refine gf_X10_45 S hE hw 0 rfl rfl dX10_nameDoor_91 ?_
    refine lv_iconst (v := 4) hx hb dX10_nameDoor_94 (by decide) ?_
    refine lv_iload hx hb dX10_nameDoor_95 (lv_at hl 2 rfl) ?_
    refine lv_if_eq (tgt := 110) hx hb dX10_nameDoor_97 (by decide) (fun h_18 => ?_) (fun h_18 => ?_)
    · replace hf := tx_pos hf h_18
      refine lv_lconst (v := 0) hx hb dX10_nameDoor_110 (by decide) ?_
      exact J111 hf hw (lv_sub hl [0, 1] rfl)
    · replace hf := tx_neg hf h_18
      refine lv_aload_n hx hb dX10_nameDoor_100 rfl (lv_at hl 0 rfl) ?_
      refine gf_X10_24 S hE hw 0 rfl rfl dX10_nameDoor_101 ?_
      refine lv_iload_n hx hb dX10_nameDoor_104 rfl (lv_at hl 1 rfl) ?_
      obtain ⟨h_19, hf⟩ := tx_ck_e hf
      refine tx_iald S hE hw 5 rfl h_19 dX10_nameDoor_105 ?_
      refine lv_i2l (v := (u_T 9 w1.toNatClampNeg).toInt64) hx hb dX10_nameDoor_106 rfl ?_
      refine lv_goto (tgt := 111) hx hb dX10_nameDoor_107 (by decide) ?_
      exact J111 hf hw (lv_sub hl [0, 1] rfl)
  have J67 : ∀ {v_N : S64} {w1 : Int32} {w4 : Int32} {t1 : Int32} {t2 : Int64} {H : Heap} {locs : List Loc} {ls : Array Slot}, f_X10_nameDoor_J67 fu u_T u_B v_N w1 w4 t1 t2 = some zv_N → WD g A s.heap (cl_X10 g a_T (a_B 0) (a_N 0) u_T ++ (cl_X0 g a_B p_B_17 u_B ++ (cl_N g a_N v_N ++ X))) H locs → lv_has ls 7 [(0, .ref (a_T 0)), (1, .int w1), (4, .int w4)] → W p l e (rmH 1) s m (List.toArray [.ref (a_T 0), .int x1, .int x2, .int x3]) below meth c H locs 0 0 (MQ below (va_Qv (fun (_ : Unit) => True) (fun _ t => POST g A (cl_X10 g a_T (a_B 0) (a_N 0) u_T ++ (cl_X0 g a_B p_B_17 u_B ++ (cl_N g a_N zv_N ++ X))) t) A) (List.toArray [.ref (a_T 0), .int x1, .int x2, .int x3]) s 0 0 A) (F0 m 67 ls [.long t2, .int t1, .ref (a_N 0)]) := by
    intro v_N w1 w4 t1 t2 H locs ls hf hw hl
    unfold f_X10_nameDoor_J67 at hf
    obtain ⟨h_12, hf⟩ := tx_ck_e hf
    obtain ⟨v_N_13, ev_N_13⟩ : ∃ z : S64, z = up4 v_N 0 t1.toNatClampNeg t2 := ⟨_, rfl⟩
    replace hf := tx_let_e hf ev_N_13
    refine tx_last (ws' := cl_X10 g a_T (a_B 0) (a_N 0) u_T ++ (cl_X0 g a_B p_B_17 u_B ++ (cl_N g a_N v_N_13 ++ X))) S hE hw 23 rfl h_12 (by rw [ev_N_13]; rfl) dX10_nameDoor_67 (fun H locs hw => ?_)
    refine lv_aload_n hx hb dX10_nameDoor_68 rfl (lv_at hl 0 rfl) ?_
    refine gf_X10_45 S hE hw 0 rfl rfl dX10_nameDoor_69 ?_
    refine lv_iconst (v := 3) hx hb dX10_nameDoor_72 (by decide) ?_
    refine lv_iload hx hb dX10_nameDoor_73 (lv_at hl 2 rfl) ?_
    refine lv_if_eq (tgt := 88) hx hb dX10_nameDoor_75 (by decide) (fun h_14 => ?_) (fun h_14 => ?_)
    · replace hf := tx_pos hf h_14
      refine lv_lconst (v := 0) hx hb dX10_nameDoor_88 (by decide) ?_
      exact J89 hf hw (lv_sub hl [0, 1, 2] rfl)
    · replace hf := tx_neg hf h_14
      refine lv_aload_n hx hb dX10_nameDoor_78 rfl (lv_at hl 0 rfl) ?_
      refine gf_X10_15 S hE hw 0 rfl rfl dX10_nameDoor_79 ?_
      refine lv_iload_n hx hb dX10_nameDoor_82 rfl (lv_at hl 1 rfl) ?_
      obtain ⟨h_15, hf⟩ := tx_ck_e hf
      refine tx_iald S hE hw 2 rfl h_15 dX10_nameDoor_83 ?_
      refine lv_i2l (v := (u_T 6 w1.toNatClampNeg).toInt64) hx hb dX10_nameDoor_84 rfl ?_
      refine lv_goto (tgt := 89) hx hb dX10_nameDoor_85 (by decide) ?_
      exact J89 hf hw (lv_sub hl [0, 1, 2] rfl)
  have J45 : ∀ {v_N : S64} {w1 : Int32} {w4 : Int32} {t1 : Int32} {t2 : Int64} {H : Heap} {locs : List Loc} {ls : Array Slot}, f_X10_nameDoor_J45 fu u_T u_B v_N w1 w4 t1 t2 = some zv_N → WD g A s.heap (cl_X10 g a_T (a_B 0) (a_N 0) u_T ++ (cl_X0 g a_B p_B_17 u_B ++ (cl_N g a_N v_N ++ X))) H locs → lv_has ls 7 [(0, .ref (a_T 0)), (1, .int w1), (4, .int w4)] → W p l e (rmH 1) s m (List.toArray [.ref (a_T 0), .int x1, .int x2, .int x3]) below meth c H locs 0 0 (MQ below (va_Qv (fun (_ : Unit) => True) (fun _ t => POST g A (cl_X10 g a_T (a_B 0) (a_N 0) u_T ++ (cl_X0 g a_B p_B_17 u_B ++ (cl_N g a_N zv_N ++ X))) t) A) (List.toArray [.ref (a_T 0), .int x1, .int x2, .int x3]) s 0 0 A) (F0 m 45 ls [.long t2, .int t1, .ref (a_N 0)]) := by
    intro v_N w1 w4 t1 t2 H locs ls hf hw hl
    unfold f_X10_nameDoor_J45 at hf
    obtain ⟨h_8, hf⟩ := tx_ck_e hf
    obtain ⟨v_N_9, ev_N_9⟩ : ∃ z : S64, z = up4 v_N 0 t1.toNatClampNeg t2 := ⟨_, rfl⟩
    replace hf := tx_let_e hf ev_N_9
    refine tx_last (ws' := cl_X10 g a_T (a_B 0) (a_N 0) u_T ++ (cl_X0 g a_B p_B_17 u_B ++ (cl_N g a_N v_N_9 ++ X))) S hE hw 23 rfl h_8 (by rw [ev_N_9]; rfl) dX10_nameDoor_45 (fun H locs hw => ?_)
    refine lv_aload_n hx hb dX10_nameDoor_46 rfl (lv_at hl 0 rfl) ?_
    refine gf_X10_45 S hE hw 0 rfl rfl dX10_nameDoor_47 ?_
    refine lv_iconst (v := 2) hx hb dX10_nameDoor_50 (by decide) ?_
    refine lv_iload hx hb dX10_nameDoor_51 (lv_at hl 2 rfl) ?_
    refine lv_if_eq (tgt := 66) hx hb dX10_nameDoor_53 (by decide) (fun h_10 => ?_) (fun h_10 => ?_)
    · replace hf := tx_pos hf h_10
      refine lv_lconst (v := 0) hx hb dX10_nameDoor_66 (by decide) ?_
      exact J67 hf hw (lv_sub hl [0, 1, 2] rfl)
    · replace hf := tx_neg hf h_10
      refine lv_aload_n hx hb dX10_nameDoor_56 rfl (lv_at hl 0 rfl) ?_
      refine gf_X10_9 S hE hw 0 rfl rfl dX10_nameDoor_57 ?_
      refine lv_iload_n hx hb dX10_nameDoor_60 rfl (lv_at hl 1 rfl) ?_
      obtain ⟨h_11, hf⟩ := tx_ck_e hf
      refine tx_iald S hE hw 1 rfl h_11 dX10_nameDoor_61 ?_
      refine lv_i2l (v := (u_T 5 w1.toNatClampNeg).toInt64) hx hb dX10_nameDoor_62 rfl ?_
      refine lv_goto (tgt := 67) hx hb dX10_nameDoor_63 (by decide) ?_
      exact J67 hf hw (lv_sub hl [0, 1, 2] rfl)
  unfold f_X10_nameDoor at hf
  refine lv_aload_n hx hb dX10_nameDoor_0 rfl (lv_at hl 0 rfl) ?_
  refine gf_X10_49 S hE hw 0 rfl rfl dX10_nameDoor_1 ?_
  refine lv_iload_n hx hb dX10_nameDoor_4 rfl (lv_at hl 1 rfl) ?_
  have hw := hw.u1
  obtain ⟨r_2, h_1, hf⟩ := tx_b1_e hf
  refine tx_ci hw (tx_runN S hE hw (c_X0_isMan h_1) lk_X10_126 (q0 := 0) rfl rfl rfl hl.1 (rest := []) rfl (Nat.le_of_ble_eq_true rfl) ⟨by decide, by decide⟩ dX10_nameDoor_5 ⟨Nat.zero_le _, Nat.zero_le _⟩) (fun H locs hw => ?_)
  refine lv_istore (lv' := [(4, .int r_2), (0, .ref (a_T 0)), (1, .int x1), (2, .int x2), (3, .int x3)]) hx hb dX10_nameDoor_8 hl (by decide) rfl (fun ls hl => ?_)
  refine lv_aload_n hx hb dX10_nameDoor_10 rfl (lv_at hl 1 rfl) ?_
  refine gf_X10_45 S hE hw 11 rfl rfl dX10_nameDoor_11 ?_
  refine lv_iconst (v := 0) hx hb dX10_nameDoor_14 (by decide) ?_
  refine lv_iload_n hx hb dX10_nameDoor_15 rfl (lv_at hl 4 rfl) ?_
  refine lv_i2l (v := x3.toInt64) hx hb dX10_nameDoor_16 rfl ?_
  obtain ⟨v_N_3, ev_N_3⟩ : ∃ z : S64, z = up4 v_N 0 (0 : Int32).toNatClampNeg (x3.toInt64) := ⟨_, rfl⟩
  replace hf := tx_let_e hf ev_N_3
  refine tx_last (ws' := cl_X0 g a_B p_B_17 u_B ++ (cl_X10 g a_T (a_B 0) (a_N 0) u_T ++ (cl_N g a_N v_N_3 ++ X))) S hE hw 23 rfl (by unfold vp_in; decide) (by rw [ev_N_3]; rfl) dX10_nameDoor_17 (fun H locs hw => ?_)
  refine lv_aload_n hx hb dX10_nameDoor_18 rfl (lv_at hl 1 rfl) ?_
  refine gf_X10_45 S hE hw 11 rfl rfl dX10_nameDoor_19 ?_
  refine lv_iconst (v := 1) hx hb dX10_nameDoor_22 (by decide) ?_
  refine lv_aload_n hx hb dX10_nameDoor_23 rfl (lv_at hl 1 rfl) ?_
  refine gf_X10_49 S hE hw 11 rfl rfl dX10_nameDoor_24 ?_
  refine lv_iload_n hx hb dX10_nameDoor_27 rfl (lv_at hl 3 rfl) ?_
  obtain ⟨r_5, h_4, hf⟩ := tx_b1_e hf
  refine tx_ci hw (tx_runN S hE hw (c_X0_isReader h_4) lk_X10_102 (q0 := 0) rfl rfl rfl hl.1 (rest := [.int (1 : Int32), .ref (a_N 0)]) rfl (Nat.le_of_ble_eq_true rfl) ⟨by decide, by decide⟩ dX10_nameDoor_28 ⟨Nat.zero_le _, Nat.zero_le _⟩) (fun H locs hw => ?_)
  refine lv_if_eq (tgt := 44) hx hb dX10_nameDoor_31 (by decide) (fun h_6 => ?_) (fun h_6 => ?_)
  · replace hf := tx_pos hf h_6
    refine lv_lconst (v := 0) hx hb dX10_nameDoor_44 (by decide) ?_
    have hw := hw.u2
    have hw := hw.u1
    have hw := hw.u2
    exact J45 hf hw (lv_sub hl [1, 2, 0] rfl)
  · replace hf := tx_neg hf h_6
    refine lv_aload_n hx hb dX10_nameDoor_34 rfl (lv_at hl 1 rfl) ?_
    refine gf_X10_39 S hE hw 11 rfl rfl dX10_nameDoor_35 ?_
    refine lv_iload_n hx hb dX10_nameDoor_38 rfl (lv_at hl 3 rfl) ?_
    obtain ⟨h_7, hf⟩ := tx_ck_e hf
    refine tx_iald S hE hw 21 rfl h_7 dX10_nameDoor_39 ?_
    refine lv_i2l (v := (u_T 14 x2.toNatClampNeg).toInt64) hx hb dX10_nameDoor_40 rfl ?_
    refine lv_goto (tgt := 45) hx hb dX10_nameDoor_41 (by decide) ?_
    have hw := hw.u2
    have hw := hw.u1
    have hw := hw.u2
    exact J45 hf hw (lv_sub hl [1, 2, 0] rfl)
def f_X5_at (fu : Nat) (u_T : S32) (v_T : S64) (x1 : Int32) : Option (Int64) := if x1 < (0 : Int32) then (some (-9223372036854775808 : Int64)) else (if (64 : Int32) ≤ x1 then (some (-9223372036854775808 : Int64)) else (tx_ck x1 64 <| some (v_T 5 x1.toNatClampNeg)))
set_option maxHeartbeats 4000000 in
set_option maxRecDepth 100000 in
theorem c_X5_at {l : Launch} {g : GG} {A : Nat → Prop} {X : va_W} {fu : Nat} {a_T : Nat → Nat} {u_T : S32} {v_T : S64} {x1 : Int32} {r : Int64} (hf : f_X5_at fu u_T v_T x1 = some r) : ML l yX5_at cX5_at 2 (some .long) 0 g A (cl_X5 g a_T u_T v_T ++ X) [.ref (a_T 0), .int x1] r (cl_X5 g a_T u_T v_T ++ X) := by
  refine tx_start (av := [.ref (a_T 0), .int x1]) (by decide) (Nat.le_of_ble_eq_true rfl) ?_
  intro p e s m below meth c ls S hr hlk hE hw hl
  have S : CallFix p m c cX5_at 2 s (List.toArray [.ref (a_T 0), .int x1]) (Cond.code yX5_at cX5_at 2 (some .long) :: allW) RX5 := S
  have hx := S.1
  have hb := S.2.1
  have hown := S.2.2.2.1
  have hts : ∀ w ∈ allW, w.before (List.toArray [.ref (a_T 0), .int x1]) s = true := fun w h => S.2.2.2.2 w (List.mem_cons_of_mem _ h)
  have hl : lv_has ls 2 [(0, .ref (a_T 0)), (1, .int x1)] := hl
  unfold f_X5_at at hf
  refine lv_iload_n hx hb dX5_at_0 rfl (lv_at hl 1 rfl) ?_
  refine lv_if_lt (tgt := 19) hx hb dX5_at_1 (by decide) (fun h_1 => ?_) (fun h_1 => ?_)
  · replace hf := tx_pos hf h_1
    refine lv_ldc2 (v := -9223372036854775808) hx hb hown (hts _ kw_770) dX5_at_19 ?_
    obtain e0 := tx_in1 hf
    rw [← e0]
    exact tx_lret S hr hlk hw dX5_at_22
  · replace hf := tx_neg hf h_1
    refine lv_iload_n hx hb dX5_at_4 rfl (lv_at hl 1 rfl) ?_
    refine lv_bipush (v := 64) hx hb dX5_at_5 (by decide) ?_
    refine lv_icmp_ge (tgt := 19) hx hb dX5_at_7 (by decide) (fun h_2 => ?_) (fun h_2 => ?_)
    · replace hf := tx_pos hf h_2
      refine lv_ldc2 (v := -9223372036854775808) hx hb hown (hts _ kw_770) dX5_at_19 ?_
      obtain e0 := tx_in1 hf
      rw [← e0]
      exact tx_lret S hr hlk hw dX5_at_22
    · replace hf := tx_neg hf h_2
      refine lv_aload_n hx hb dX5_at_10 rfl (lv_at hl 0 rfl) ?_
      refine gf_X5_24 S hE hw 0 rfl rfl dX5_at_11 ?_
      refine lv_iload_n hx hb dX5_at_14 rfl (lv_at hl 1 rfl) ?_
      obtain ⟨h_3, hf⟩ := tx_ck_e hf
      refine tx_lald S hE hw 5 rfl h_3 dX5_at_15 ?_
      refine lv_goto (tgt := 22) hx hb dX5_at_16 (by decide) ?_
      obtain e0 := tx_in1 hf
      rw [← e0]
      exact tx_lret S hr hlk hw dX5_at_22
def f_X5_join_J80 (fu : Nat) : Option (Int64) := some (1 : Int64)
def f_X5_join (fu : Nat) (x0 : Int32) (x1 : Int64) (x3 : Int64) : Option (Int64) := if x0 = (2 : Int32) then (if (lg_cmp x1 (0 : Int64)) = (0 : Int32) then (if (lg_cmp x3 (0 : Int64)) = (0 : Int32) then (some (0 : Int64)) else (f_X5_join_J80 fu )) else (f_X5_join_J80 fu )) else if x0 = (3 : Int32) then (if (lg_cmp x1 (0 : Int64)) = (0 : Int32) then (some (0 : Int64)) else (if (lg_cmp x3 (0 : Int64)) = (0 : Int32) then (some (0 : Int64)) else (some (1 : Int64)))) else if x0 = (4 : Int32) then (some (-9223372036854775808 : Int64)) else if x0 = (5 : Int32) then (if (0 : Int32) ≤ (lg_cmp x1 x3) then (some (0 : Int64)) else (some (1 : Int64))) else if x0 = (6 : Int32) then (if (0 : Int32) < (lg_cmp x1 x3) then (some (0 : Int64)) else (some (1 : Int64))) else if x0 = (7 : Int32) then (if (lg_cmp x1 x3) = (0 : Int32) then (some (1 : Int64)) else (some (0 : Int64))) else if x0 = (8 : Int32) then (if (lg_cmp x1 x3) = (0 : Int32) then (some (0 : Int64)) else (some (1 : Int64))) else if x0 = (9 : Int32) then (if (lg_cmp x1 x3) < (0 : Int32) then (some (0 : Int64)) else (some (1 : Int64))) else if x0 = (10 : Int32) then (if (lg_cmp x1 x3) ≤ (0 : Int32) then (some (0 : Int64)) else (some (1 : Int64))) else if x0 = (11 : Int32) then (some (x1 + x3)) else if x0 = (12 : Int32) then (some (x1 - x3)) else if x0 = (13 : Int32) then (some (-9223372036854775808 : Int64)) else if x0 = (14 : Int32) then (if (lg_cmp x3 (0 : Int64)) = (0 : Int32) then (some (-9223372036854775808 : Int64)) else (tx_nl x3 <| some (x1 / x3))) else (some (-9223372036854775808 : Int64))
set_option maxHeartbeats 4000000 in
set_option maxRecDepth 100000 in
theorem c_X5_join {l : Launch} {g : GG} {A : Nat → Prop} {X : va_W} {fu : Nat} {x0 : Int32} {x1 : Int64} {x3 : Int64} {r : Int64} (hf : f_X5_join fu  x0 x1 x3 = some r) : ML l yX5_join cX5_join 5 (some .long) 0 g A (X) [.int x0, .long x1, .long x3] r (X) := by
  refine tx_start (av := [.int x0, .long x1, .long x3]) (by decide) (Nat.le_of_ble_eq_true rfl) ?_
  intro p e s m below meth c ls S hr hlk hE hw hl
  have S : CallFix p m c cX5_join 5 s (List.toArray [.int x0, .long x1, .long x3]) (Cond.code yX5_join cX5_join 5 (some .long) :: allW) RX5 := S
  have hx := S.1
  have hb := S.2.1
  have hown := S.2.2.2.1
  have hts : ∀ w ∈ allW, w.before (List.toArray [.int x0, .long x1, .long x3]) s = true := fun w h => S.2.2.2.2 w (List.mem_cons_of_mem _ h)
  have hl : lv_has ls 5 [(0, .int x0), (1, .long x1), (3, .long x3)] := hl
  have J80 : ∀ {H : Heap} {locs : List Loc} {ls : Array Slot}, f_X5_join_J80 fu  = some r → WD g A s.heap (X) H locs → lv_has ls 5 [] → W p l e (rmH 0) s m (List.toArray [.int x0, .long x1, .long x3]) below meth c H locs 0 0 (MQ below (va_Ql (fun r2 (_ : Unit) => r2 = r) (fun _ t => POST g A (X) t) A) (List.toArray [.int x0, .long x1, .long x3]) s 0 0 A) (F0 m 80 ls []) := by
    intro H locs ls hf hw hl
    unfold f_X5_join_J80 at hf
    refine lv_lconst (v := 1) hx hb dX5_join_80 (by decide) ?_
    refine lv_goto (tgt := 85) hx hb dX5_join_81 (by decide) ?_
    obtain e0 := tx_in1 hf
    rw [← e0]
    exact tx_lret S hr hlk hw dX5_join_85
  unfold f_X5_join at hf
  refine lv_iload_n hx hb dX5_join_0 rfl (lv_at hl 0 rfl) ?_
  by_cases h_1 : x0 = (2 : Int32)
  · replace hf := tx_pos hf h_1
    refine lv_tableIn (off := 67) (tgt := 68) hx hb dX5_join_1 (by rw [h_1]; decide) (by rw [h_1]; decide) (by rw [h_1]; rfl) (by decide) ?_
    refine lv_lload_n hx hb dX5_join_68 rfl (lv_at hl 1 rfl) ?_
    refine lv_lconst (v := 0) hx hb dX5_join_69 (by decide) ?_
    refine W.lcmp hx hb dX5_join_70 ?_
    refine lv_if_ne (tgt := 80) hx hb dX5_join_71 (by decide) (fun h_2 => ?_) (fun h_2 => ?_)
    · replace hf := tx_neg hf h_2
      exact J80 hf hw (lv_sub hl [] rfl)
    · replace hf := tx_pos hf h_2
      refine lv_lload_n hx hb dX5_join_74 rfl (lv_at hl 2 rfl) ?_
      refine lv_lconst (v := 0) hx hb dX5_join_75 (by decide) ?_
      refine W.lcmp hx hb dX5_join_76 ?_
      refine lv_if_eq (tgt := 84) hx hb dX5_join_77 (by decide) (fun h_3 => ?_) (fun h_3 => ?_)
      · replace hf := tx_pos hf h_3
        refine lv_lconst (v := 0) hx hb dX5_join_84 (by decide) ?_
        obtain e0 := tx_in1 hf
        rw [← e0]
        exact tx_lret S hr hlk hw dX5_join_85
      · replace hf := tx_neg hf h_3
        exact J80 hf hw (lv_sub hl [] rfl)
  replace hf := tx_neg hf h_1
  by_cases h_4 : x0 = (3 : Int32)
  · replace hf := tx_pos hf h_4
    refine lv_tableIn (off := 85) (tgt := 86) hx hb dX5_join_1 (by rw [h_4]; decide) (by rw [h_4]; decide) (by rw [h_4]; rfl) (by decide) ?_
    refine lv_lload_n hx hb dX5_join_86 rfl (lv_at hl 1 rfl) ?_
    refine lv_lconst (v := 0) hx hb dX5_join_87 (by decide) ?_
    refine W.lcmp hx hb dX5_join_88 ?_
    refine lv_if_eq (tgt := 102) hx hb dX5_join_89 (by decide) (fun h_5 => ?_) (fun h_5 => ?_)
    · replace hf := tx_pos hf h_5
      refine lv_lconst (v := 0) hx hb dX5_join_102 (by decide) ?_
      obtain e0 := tx_in1 hf
      rw [← e0]
      exact tx_lret S hr hlk hw dX5_join_103
    · replace hf := tx_neg hf h_5
      refine lv_lload_n hx hb dX5_join_92 rfl (lv_at hl 2 rfl) ?_
      refine lv_lconst (v := 0) hx hb dX5_join_93 (by decide) ?_
      refine W.lcmp hx hb dX5_join_94 ?_
      refine lv_if_eq (tgt := 102) hx hb dX5_join_95 (by decide) (fun h_6 => ?_) (fun h_6 => ?_)
      · replace hf := tx_pos hf h_6
        refine lv_lconst (v := 0) hx hb dX5_join_102 (by decide) ?_
        obtain e0 := tx_in1 hf
        rw [← e0]
        exact tx_lret S hr hlk hw dX5_join_103
      · replace hf := tx_neg hf h_6
        refine lv_lconst (v := 1) hx hb dX5_join_98 (by decide) ?_
        refine lv_goto (tgt := 103) hx hb dX5_join_99 (by decide) ?_
        obtain e0 := tx_in1 hf
        rw [← e0]
        exact tx_lret S hr hlk hw dX5_join_103
  replace hf := tx_neg hf h_4
  by_cases h_7 : x0 = (4 : Int32)
  · replace hf := tx_pos hf h_7
    refine lv_tableIn (off := 199) (tgt := 200) hx hb dX5_join_1 (by rw [h_7]; decide) (by rw [h_7]; decide) (by rw [h_7]; rfl) (by decide) ?_
    refine lv_ldc2 (v := -9223372036854775808) hx hb hown (hts _ kw_770) dX5_join_200 ?_
    obtain e0 := tx_in1 hf
    rw [← e0]
    exact tx_lret S hr hlk hw dX5_join_203
  replace hf := tx_neg hf h_7
  by_cases h_8 : x0 = (5 : Int32)
  · replace hf := tx_pos hf h_8
    refine lv_tableIn (off := 103) (tgt := 104) hx hb dX5_join_1 (by rw [h_8]; decide) (by rw [h_8]; decide) (by rw [h_8]; rfl) (by decide) ?_
    refine lv_lload_n hx hb dX5_join_104 rfl (lv_at hl 1 rfl) ?_
    refine lv_lload_n hx hb dX5_join_105 rfl (lv_at hl 2 rfl) ?_
    refine W.lcmp hx hb dX5_join_106 ?_
    refine lv_if_ge (tgt := 114) hx hb dX5_join_107 (by decide) (fun h_9 => ?_) (fun h_9 => ?_)
    · replace hf := tx_pos hf h_9
      refine lv_lconst (v := 0) hx hb dX5_join_114 (by decide) ?_
      obtain e0 := tx_in1 hf
      rw [← e0]
      exact tx_lret S hr hlk hw dX5_join_115
    · replace hf := tx_neg hf h_9
      refine lv_lconst (v := 1) hx hb dX5_join_110 (by decide) ?_
      refine lv_goto (tgt := 115) hx hb dX5_join_111 (by decide) ?_
      obtain e0 := tx_in1 hf
      rw [← e0]
      exact tx_lret S hr hlk hw dX5_join_115
  replace hf := tx_neg hf h_8
  by_cases h_10 : x0 = (6 : Int32)
  · replace hf := tx_pos hf h_10
    refine lv_tableIn (off := 115) (tgt := 116) hx hb dX5_join_1 (by rw [h_10]; decide) (by rw [h_10]; decide) (by rw [h_10]; rfl) (by decide) ?_
    refine lv_lload_n hx hb dX5_join_116 rfl (lv_at hl 1 rfl) ?_
    refine lv_lload_n hx hb dX5_join_117 rfl (lv_at hl 2 rfl) ?_
    refine W.lcmp hx hb dX5_join_118 ?_
    refine lv_if_gt (tgt := 126) hx hb dX5_join_119 (by decide) (fun h_11 => ?_) (fun h_11 => ?_)
    · replace hf := tx_pos hf h_11
      refine lv_lconst (v := 0) hx hb dX5_join_126 (by decide) ?_
      obtain e0 := tx_in1 hf
      rw [← e0]
      exact tx_lret S hr hlk hw dX5_join_127
    · replace hf := tx_neg hf h_11
      refine lv_lconst (v := 1) hx hb dX5_join_122 (by decide) ?_
      refine lv_goto (tgt := 127) hx hb dX5_join_123 (by decide) ?_
      obtain e0 := tx_in1 hf
      rw [← e0]
      exact tx_lret S hr hlk hw dX5_join_127
  replace hf := tx_neg hf h_10
  by_cases h_12 : x0 = (7 : Int32)
  · replace hf := tx_pos hf h_12
    refine lv_tableIn (off := 127) (tgt := 128) hx hb dX5_join_1 (by rw [h_12]; decide) (by rw [h_12]; decide) (by rw [h_12]; rfl) (by decide) ?_
    refine lv_lload_n hx hb dX5_join_128 rfl (lv_at hl 1 rfl) ?_
    refine lv_lload_n hx hb dX5_join_129 rfl (lv_at hl 2 rfl) ?_
    refine W.lcmp hx hb dX5_join_130 ?_
    refine lv_if_ne (tgt := 138) hx hb dX5_join_131 (by decide) (fun h_13 => ?_) (fun h_13 => ?_)
    · replace hf := tx_neg hf h_13
      refine lv_lconst (v := 0) hx hb dX5_join_138 (by decide) ?_
      obtain e0 := tx_in1 hf
      rw [← e0]
      exact tx_lret S hr hlk hw dX5_join_139
    · replace hf := tx_pos hf h_13
      refine lv_lconst (v := 1) hx hb dX5_join_134 (by decide) ?_
      refine lv_goto (tgt := 139) hx hb dX5_join_135 (by decide) ?_
      obtain e0 := tx_in1 hf
      rw [← e0]
      exact tx_lret S hr hlk hw dX5_join_139
  replace hf := tx_neg hf h_12
  by_cases h_14 : x0 = (8 : Int32)
  · replace hf := tx_pos hf h_14
    refine lv_tableIn (off := 139) (tgt := 140) hx hb dX5_join_1 (by rw [h_14]; decide) (by rw [h_14]; decide) (by rw [h_14]; rfl) (by decide) ?_
    refine lv_lload_n hx hb dX5_join_140 rfl (lv_at hl 1 rfl) ?_
    refine lv_lload_n hx hb dX5_join_141 rfl (lv_at hl 2 rfl) ?_
    refine W.lcmp hx hb dX5_join_142 ?_
    refine lv_if_eq (tgt := 150) hx hb dX5_join_143 (by decide) (fun h_15 => ?_) (fun h_15 => ?_)
    · replace hf := tx_pos hf h_15
      refine lv_lconst (v := 0) hx hb dX5_join_150 (by decide) ?_
      obtain e0 := tx_in1 hf
      rw [← e0]
      exact tx_lret S hr hlk hw dX5_join_151
    · replace hf := tx_neg hf h_15
      refine lv_lconst (v := 1) hx hb dX5_join_146 (by decide) ?_
      refine lv_goto (tgt := 151) hx hb dX5_join_147 (by decide) ?_
      obtain e0 := tx_in1 hf
      rw [← e0]
      exact tx_lret S hr hlk hw dX5_join_151
  replace hf := tx_neg hf h_14
  by_cases h_16 : x0 = (9 : Int32)
  · replace hf := tx_pos hf h_16
    refine lv_tableIn (off := 151) (tgt := 152) hx hb dX5_join_1 (by rw [h_16]; decide) (by rw [h_16]; decide) (by rw [h_16]; rfl) (by decide) ?_
    refine lv_lload_n hx hb dX5_join_152 rfl (lv_at hl 1 rfl) ?_
    refine lv_lload_n hx hb dX5_join_153 rfl (lv_at hl 2 rfl) ?_
    refine W.lcmp hx hb dX5_join_154 ?_
    refine lv_if_lt (tgt := 162) hx hb dX5_join_155 (by decide) (fun h_17 => ?_) (fun h_17 => ?_)
    · replace hf := tx_pos hf h_17
      refine lv_lconst (v := 0) hx hb dX5_join_162 (by decide) ?_
      obtain e0 := tx_in1 hf
      rw [← e0]
      exact tx_lret S hr hlk hw dX5_join_163
    · replace hf := tx_neg hf h_17
      refine lv_lconst (v := 1) hx hb dX5_join_158 (by decide) ?_
      refine lv_goto (tgt := 163) hx hb dX5_join_159 (by decide) ?_
      obtain e0 := tx_in1 hf
      rw [← e0]
      exact tx_lret S hr hlk hw dX5_join_163
  replace hf := tx_neg hf h_16
  by_cases h_18 : x0 = (10 : Int32)
  · replace hf := tx_pos hf h_18
    refine lv_tableIn (off := 163) (tgt := 164) hx hb dX5_join_1 (by rw [h_18]; decide) (by rw [h_18]; decide) (by rw [h_18]; rfl) (by decide) ?_
    refine lv_lload_n hx hb dX5_join_164 rfl (lv_at hl 1 rfl) ?_
    refine lv_lload_n hx hb dX5_join_165 rfl (lv_at hl 2 rfl) ?_
    refine W.lcmp hx hb dX5_join_166 ?_
    refine lv_if_le (tgt := 174) hx hb dX5_join_167 (by decide) (fun h_19 => ?_) (fun h_19 => ?_)
    · replace hf := tx_pos hf h_19
      refine lv_lconst (v := 0) hx hb dX5_join_174 (by decide) ?_
      obtain e0 := tx_in1 hf
      rw [← e0]
      exact tx_lret S hr hlk hw dX5_join_175
    · replace hf := tx_neg hf h_19
      refine lv_lconst (v := 1) hx hb dX5_join_170 (by decide) ?_
      refine lv_goto (tgt := 175) hx hb dX5_join_171 (by decide) ?_
      obtain e0 := tx_in1 hf
      rw [← e0]
      exact tx_lret S hr hlk hw dX5_join_175
  replace hf := tx_neg hf h_18
  by_cases h_20 : x0 = (11 : Int32)
  · replace hf := tx_pos hf h_20
    refine lv_tableIn (off := 175) (tgt := 176) hx hb dX5_join_1 (by rw [h_20]; decide) (by rw [h_20]; decide) (by rw [h_20]; rfl) (by decide) ?_
    refine lv_lload_n hx hb dX5_join_176 rfl (lv_at hl 1 rfl) ?_
    refine lv_lload_n hx hb dX5_join_177 rfl (lv_at hl 2 rfl) ?_
    refine lv_ladd hx hb dX5_join_178 ?_
    obtain e0 := tx_in1 hf
    rw [← e0]
    exact tx_lret S hr hlk hw dX5_join_179
  replace hf := tx_neg hf h_20
  by_cases h_21 : x0 = (12 : Int32)
  · replace hf := tx_pos hf h_21
    refine lv_tableIn (off := 179) (tgt := 180) hx hb dX5_join_1 (by rw [h_21]; decide) (by rw [h_21]; decide) (by rw [h_21]; rfl) (by decide) ?_
    refine lv_lload_n hx hb dX5_join_180 rfl (lv_at hl 1 rfl) ?_
    refine lv_lload_n hx hb dX5_join_181 rfl (lv_at hl 2 rfl) ?_
    refine lv_lsub hx hb dX5_join_182 ?_
    obtain e0 := tx_in1 hf
    rw [← e0]
    exact tx_lret S hr hlk hw dX5_join_183
  replace hf := tx_neg hf h_21
  by_cases h_22 : x0 = (13 : Int32)
  · replace hf := tx_pos hf h_22
    refine lv_tableIn (off := 199) (tgt := 200) hx hb dX5_join_1 (by rw [h_22]; decide) (by rw [h_22]; decide) (by rw [h_22]; rfl) (by decide) ?_
    refine lv_ldc2 (v := -9223372036854775808) hx hb hown (hts _ kw_770) dX5_join_200 ?_
    obtain e0 := tx_in1 hf
    rw [← e0]
    exact tx_lret S hr hlk hw dX5_join_203
  replace hf := tx_neg hf h_22
  by_cases h_23 : x0 = (14 : Int32)
  · replace hf := tx_pos hf h_23
    refine lv_tableIn (off := 183) (tgt := 184) hx hb dX5_join_1 (by rw [h_23]; decide) (by rw [h_23]; decide) (by rw [h_23]; rfl) (by decide) ?_
    refine lv_lload_n hx hb dX5_join_184 rfl (lv_at hl 2 rfl) ?_
    refine lv_lconst (v := 0) hx hb dX5_join_185 (by decide) ?_
    refine W.lcmp hx hb dX5_join_186 ?_
    refine lv_if_ne (tgt := 196) hx hb dX5_join_187 (by decide) (fun h_24 => ?_) (fun h_24 => ?_)
    · replace hf := tx_neg hf h_24
      refine lv_lload_n hx hb dX5_join_196 rfl (lv_at hl 1 rfl) ?_
      refine lv_lload_n hx hb dX5_join_197 rfl (lv_at hl 2 rfl) ?_
      obtain ⟨h_25, hf⟩ := tx_nl_e hf
      refine lv_ldiv hx hb dX5_join_198 h_25 ?_
      obtain e0 := tx_in1 hf
      rw [← e0]
      exact tx_lret S hr hlk hw dX5_join_199
    · replace hf := tx_pos hf h_24
      refine lv_ldc2 (v := -9223372036854775808) hx hb hown (hts _ kw_770) dX5_join_190 ?_
      refine lv_goto (tgt := 199) hx hb dX5_join_193 (by decide) ?_
      obtain e0 := tx_in1 hf
      rw [← e0]
      exact tx_lret S hr hlk hw dX5_join_199
  replace hf := tx_neg hf h_23
  have eh_1 : x0.toInt ≠ 2 := tx_ne h_1
  have eh_4 : x0.toInt ≠ 3 := tx_ne h_4
  have eh_7 : x0.toInt ≠ 4 := tx_ne h_7
  have eh_8 : x0.toInt ≠ 5 := tx_ne h_8
  have eh_10 : x0.toInt ≠ 6 := tx_ne h_10
  have eh_12 : x0.toInt ≠ 7 := tx_ne h_12
  have eh_14 : x0.toInt ≠ 8 := tx_ne h_14
  have eh_16 : x0.toInt ≠ 9 := tx_ne h_16
  have eh_18 : x0.toInt ≠ 10 := tx_ne h_18
  have eh_20 : x0.toInt ≠ 11 := tx_ne h_20
  have eh_21 : x0.toInt ≠ 12 := tx_ne h_21
  have eh_22 : x0.toInt ≠ 13 := tx_ne h_22
  have eh_23 : x0.toInt ≠ 14 := tx_ne h_23
  refine lv_tableOut (tgt := 200) hx hb dX5_join_1 (by omega) (by decide) ?_
  refine lv_ldc2 (v := -9223372036854775808) hx hb hown (hts _ kw_770) dX5_join_200 ?_
  obtain e0 := tx_in1 hf
  rw [← e0]
  exact tx_lret S hr hlk hw dX5_join_203
def f_X5_product_J51 (fu : Nat) : Option (Int64) := some (-9223372036854775808 : Int64)
def f_X5_product_J34 (fu : Nat) (w0 : Int64) (w2 : Int64) (t0 : Int64) : Option (Int64) := if (0 : Int32) < (lg_cmp w2 t0) then (f_X5_product_J51 fu ) else (if (0 : Int32) ≤ (lg_cmp w2 (-t0)) then (some (w0 * w2)) else (f_X5_product_J51 fu ))
def f_X5_product_J17 (fu : Nat) (w0 : Int64) (w2 : Int64) (t0 : Int64) : Option (Int64) := if (0 : Int32) ≤ (lg_cmp t0 (0 : Int64)) then (f_X5_product_J34 fu w0 w2 t0) else (f_X5_product_J34 fu w0 w2 (-t0))
def f_X5_product (fu : Nat) (x0 : Int64) (x2 : Int64) : Option (Int64) := if (lg_cmp x0 (0 : Int64)) = (0 : Int32) then (f_X5_product_J17 fu x0 x2 (1000000000000 : Int64)) else (tx_nl x0 <| f_X5_product_J17 fu x0 x2 ((1000000000000 : Int64) / x0))
set_option maxHeartbeats 4000000 in
set_option maxRecDepth 100000 in
theorem c_X5_product {l : Launch} {g : GG} {A : Nat → Prop} {X : va_W} {fu : Nat} {x0 : Int64} {x2 : Int64} {r : Int64} (hf : f_X5_product fu  x0 x2 = some r) : ML l yX5_product cX5_product 8 (some .long) 0 g A (X) [.long x0, .long x2] r (X) := by
  refine tx_start (av := [.long x0, .long x2]) (by decide) (Nat.le_of_ble_eq_true rfl) ?_
  intro p e s m below meth c ls S hr hlk hE hw hl
  have S : CallFix p m c cX5_product 8 s (List.toArray [.long x0, .long x2]) (Cond.code yX5_product cX5_product 8 (some .long) :: allW) RX5 := S
  have hx := S.1
  have hb := S.2.1
  have hown := S.2.2.2.1
  have hts : ∀ w ∈ allW, w.before (List.toArray [.long x0, .long x2]) s = true := fun w h => S.2.2.2.2 w (List.mem_cons_of_mem _ h)
  have hl : lv_has ls 8 [(0, .long x0), (2, .long x2)] := hl
  have J51 : ∀ {H : Heap} {locs : List Loc} {ls : Array Slot}, f_X5_product_J51 fu  = some r → WD g A s.heap (X) H locs → lv_has ls 8 [] → W p l e (rmH 0) s m (List.toArray [.long x0, .long x2]) below meth c H locs 0 0 (MQ below (va_Ql (fun r2 (_ : Unit) => r2 = r) (fun _ t => POST g A (X) t) A) (List.toArray [.long x0, .long x2]) s 0 0 A) (F0 m 51 ls []) := by
    intro H locs ls hf hw hl
    unfold f_X5_product_J51 at hf
    refine lv_ldc2 (v := -9223372036854775808) hx hb hown (hts _ kw_770) dX5_product_51 ?_
    refine lv_goto (tgt := 60) hx hb dX5_product_54 (by decide) ?_
    obtain e0 := tx_in1 hf
    rw [← e0]
    exact tx_lret S hr hlk hw dX5_product_60
  have J34 : ∀ {w0 : Int64} {w2 : Int64} {t0 : Int64} {H : Heap} {locs : List Loc} {ls : Array Slot}, f_X5_product_J34 fu w0 w2 t0 = some r → WD g A s.heap (X) H locs → lv_has ls 8 [(0, .long w0), (2, .long w2)] → W p l e (rmH 0) s m (List.toArray [.long x0, .long x2]) below meth c H locs 0 0 (MQ below (va_Ql (fun r2 (_ : Unit) => r2 = r) (fun _ t => POST g A (X) t) A) (List.toArray [.long x0, .long x2]) s 0 0 A) (F0 m 34 ls [.long t0]) := by
    intro w0 w2 t0 H locs ls hf hw hl
    unfold f_X5_product_J34 at hf
    refine lv_lstore (lv' := [(6, .long t0), (0, .long w0), (2, .long w2)]) hx hb dX5_product_34 hl (by decide) rfl (fun ls hl => ?_)
    refine lv_lload_n hx hb dX5_product_36 rfl (lv_at hl 2 rfl) ?_
    refine lv_lload hx hb dX5_product_37 (lv_at hl 0 rfl) ?_
    refine W.lcmp hx hb dX5_product_39 ?_
    refine lv_if_gt (tgt := 51) hx hb dX5_product_40 (by decide) (fun h_4 => ?_) (fun h_4 => ?_)
    · replace hf := tx_pos hf h_4
      exact J51 hf hw (lv_sub hl [] rfl)
    · replace hf := tx_neg hf h_4
      refine lv_lload_n hx hb dX5_product_43 rfl (lv_at hl 2 rfl) ?_
      refine lv_lload hx hb dX5_product_44 (lv_at hl 0 rfl) ?_
      refine lv_lneg hx hb dX5_product_46 ?_
      refine W.lcmp hx hb dX5_product_47 ?_
      refine lv_if_ge (tgt := 57) hx hb dX5_product_48 (by decide) (fun h_5 => ?_) (fun h_5 => ?_)
      · replace hf := tx_pos hf h_5
        refine lv_lload_n hx hb dX5_product_57 rfl (lv_at hl 1 rfl) ?_
        refine lv_lload_n hx hb dX5_product_58 rfl (lv_at hl 2 rfl) ?_
        refine lv_lmul hx hb dX5_product_59 ?_
        obtain e0 := tx_in1 hf
        rw [← e0]
        exact tx_lret S hr hlk hw dX5_product_60
      · replace hf := tx_neg hf h_5
        exact J51 hf hw (lv_sub hl [] rfl)
  have J17 : ∀ {w0 : Int64} {w2 : Int64} {t0 : Int64} {H : Heap} {locs : List Loc} {ls : Array Slot}, f_X5_product_J17 fu w0 w2 t0 = some r → WD g A s.heap (X) H locs → lv_has ls 8 [(0, .long w0), (2, .long w2)] → W p l e (rmH 0) s m (List.toArray [.long x0, .long x2]) below meth c H locs 0 0 (MQ below (va_Ql (fun r2 (_ : Unit) => r2 = r) (fun _ t => POST g A (X) t) A) (List.toArray [.long x0, .long x2]) s 0 0 A) (F0 m 17 ls [.long t0]) := by
    intro w0 w2 t0 H locs ls hf hw hl
    unfold f_X5_product_J17 at hf
    refine lv_lstore (lv' := [(4, .long t0), (0, .long w0), (2, .long w2)]) hx hb dX5_product_17 hl (by decide) rfl (fun ls hl => ?_)
    refine lv_lload hx hb dX5_product_19 (lv_at hl 0 rfl) ?_
    refine lv_lconst (v := 0) hx hb dX5_product_21 (by decide) ?_
    refine W.lcmp hx hb dX5_product_22 ?_
    refine lv_if_ge (tgt := 32) hx hb dX5_product_23 (by decide) (fun h_3 => ?_) (fun h_3 => ?_)
    · replace hf := tx_pos hf h_3
      refine lv_lload hx hb dX5_product_32 (lv_at hl 0 rfl) ?_
      exact J34 hf hw (lv_sub hl [1, 2] rfl)
    · replace hf := tx_neg hf h_3
      refine lv_lload hx hb dX5_product_26 (lv_at hl 0 rfl) ?_
      refine lv_lneg hx hb dX5_product_28 ?_
      refine lv_goto (tgt := 34) hx hb dX5_product_29 (by decide) ?_
      exact J34 hf hw (lv_sub hl [1, 2] rfl)
  unfold f_X5_product at hf
  refine lv_lload_n hx hb dX5_product_0 rfl (lv_at hl 0 rfl) ?_
  refine lv_lconst (v := 0) hx hb dX5_product_1 (by decide) ?_
  refine W.lcmp hx hb dX5_product_2 ?_
  refine lv_if_ne (tgt := 12) hx hb dX5_product_3 (by decide) (fun h_1 => ?_) (fun h_1 => ?_)
  · replace hf := tx_neg hf h_1
    refine lv_ldc2 (v := 1000000000000) hx hb hown (hts _ kw_781) dX5_product_12 ?_
    refine lv_lload_n hx hb dX5_product_15 rfl (lv_at hl 0 rfl) ?_
    obtain ⟨h_2, hf⟩ := tx_nl_e hf
    refine lv_ldiv hx hb dX5_product_16 h_2 ?_
    exact J17 hf hw (lv_sub hl [0, 1] rfl)
  · replace hf := tx_pos hf h_1
    refine lv_ldc2 (v := 1000000000000) hx hb hown (hts _ kw_781) dX5_product_6 ?_
    refine lv_goto (tgt := 17) hx hb dX5_product_9 (by decide) ?_
    exact J17 hf hw (lv_sub hl [0, 1] rfl)
def f_X5_work_oNr0_J209 (fu : Nat) (u_T : S32) (v_N : S64) (K26 : S64 → Int32 → Int32 → Int32 → Option (Int64 × S64)) (v_T : S64) (w1 : Int32) (w3 : Int32) (w4 : Int32) (w5 : Int64) : Option (Int64 × S64) := if (0 : Int32) < (lg_cmp w5 (1000000000000 : Int64)) then (some ((-9223372036854775808 : Int64), v_T)) else (if (lg_cmp w5 (-1000000000000 : Int64)) < (0 : Int32) then (some ((-9223372036854775808 : Int64), v_T)) else (if w3 < (0 : Int32) then (some ((-9223372036854775808 : Int64), v_T)) else (if w3 < (64 : Int32) then (tx_ck w3 64 <| tx_let (up4 v_T 5 w3.toNatClampNeg w5) fun (v_T_50 : S64) => tx_let (w3 + (1 : Int32)) fun (y_51 : Int32) => tx_let (w4 + (1 : Int32)) fun (y_52 : Int32) => K26 v_T_50 w1 y_51 y_52) else (some ((-9223372036854775808 : Int64), v_T)))))
def f_X5_work_oNr0_J113 (fu : Nat) (u_T : S32) (v_N : S64) (K26 : S64 → Int32 → Int32 → Int32 → Option (Int64 × S64)) (v_T : S64) (w1 : Int32) (w3 : Int32) (w4 : Int32) (t0 : Int64) : Option (Int64 × S64) := f_X5_work_oNr0_J209 fu u_T v_N K26 v_T w1 w3 w4 t0
def f_X5_work_oNr0_J112 (fu : Nat) (u_T : S32) (v_N : S64) (K26 : S64 → Int32 → Int32 → Int32 → Option (Int64 × S64)) (v_T : S64) (w1 : Int32) (w3 : Int32) (w4 : Int32) : Option (Int64 × S64) := f_X5_work_oNr0_J113 fu u_T v_N K26 v_T w1 w3 w4 (0 : Int64)
def f_X5_work_oNr0_J147 (fu : Nat) (u_T : S32) (v_N : S64) (K26 : S64 → Int32 → Int32 → Int32 → Option (Int64 × S64)) (v_T : S64) (w1 : Int32) (w3 : Int32) (w4 : Int32) (t0 : Int64) : Option (Int64 × S64) := f_X5_work_oNr0_J209 fu u_T v_N K26 v_T w1 w3 w4 t0
def f_X5_work_oNr0_J207 (fu : Nat) (u_T : S32) (v_N : S64) (K26 : S64 → Int32 → Int32 → Int32 → Option (Int64 × S64)) (v_T : S64) (w1 : Int32) (w3 : Int32) (w4 : Int32) (t0 : Int64) : Option (Int64 × S64) := f_X5_work_oNr0_J209 fu u_T v_N K26 v_T w1 w3 w4 t0
def f_X5_work_oNr0_J258 (fu : Nat) (u_T : S32) (v_N : S64) (v_T : S64) (w3 : Int32) : Option (Int64 × S64) := tx_b1 (f_X5_at fu u_T v_T (w3 - (1 : Int32))) fun (r_44 : Int64) => some (r_44, v_T)
def f_X5_work_oNr0_J26 (fu : Nat) (u_T : S32) (v_N : S64) (K26 : S64 → Int32 → Int32 → Int32 → Option (Int64 × S64)) (v_T : S64) (w1 : Int32) (w3 : Int32) (w4 : Int32) : Option (Int64 × S64) := tx_ck w1 3 <| if (u_T 4 w1.toNatClampNeg) ≤ w4 then (f_X5_work_oNr0_J258 fu u_T v_N v_T w3) else (if (64 : Int32) ≤ w4 then (f_X5_work_oNr0_J258 fu u_T v_N v_T w3) else (tx_ck w4 64 <| if (u_T 1 w4.toNatClampNeg) = (0 : Int32) then (tx_ck w4 64 <| tx_let ((u_T 2 w4.toNatClampNeg).toInt64) fun (y_42 : Int64) => f_X5_work_oNr0_J209 fu u_T v_N K26 v_T w1 w3 w4 y_42) else (tx_ck w4 64 <| if (u_T 1 w4.toNatClampNeg) = (1 : Int32) then (tx_ck w4 64 <| if (u_T 2 w4.toNatClampNeg) < (0 : Int32) then (f_X5_work_oNr0_J112 fu u_T v_N K26 v_T w1 w3 w4) else (tx_ck w4 64 <| if (7 : Int32) ≤ (u_T 2 w4.toNatClampNeg) then (f_X5_work_oNr0_J112 fu u_T v_N K26 v_T w1 w3 w4) else (tx_ck w4 64 <| tx_ck (u_T 2 w4.toNatClampNeg) 7 <| f_X5_work_oNr0_J113 fu u_T v_N K26 v_T w1 w3 w4 (v_N 0 (u_T 2 w4.toNatClampNeg).toNatClampNeg)))) else (tx_ck w4 64 <| if (u_T 1 w4.toNatClampNeg) = (4 : Int32) then (tx_let (w3 + (-1 : Int32)) fun (y_31 : Int32) => tx_b1 (f_X5_at fu u_T v_T y_31) fun (r_33 : Int64) => if (lg_cmp r_33 (0 : Int64)) = (0 : Int32) then (f_X5_work_oNr0_J147 fu u_T v_N K26 v_T w1 y_31 w4 (1 : Int64)) else (f_X5_work_oNr0_J147 fu u_T v_N K26 v_T w1 y_31 w4 (0 : Int64))) else (tx_let (w3 + (-2 : Int32)) fun (y_15 : Int32) => tx_ck w4 64 <| if (u_T 1 w4.toNatClampNeg) = (13 : Int32) then (tx_b1 (f_X5_at fu u_T v_T y_15) fun (r_26 : Int64) => tx_b1 (f_X5_at fu u_T v_T (y_15 + (1 : Int32))) fun (r_28 : Int64) => tx_b1 (f_X5_product fu r_26 r_28) fun (r_30 : Int64) => f_X5_work_oNr0_J207 fu u_T v_N K26 v_T w1 y_15 w4 r_30) else (tx_ck w4 64 <| tx_b1 (f_X5_at fu u_T v_T y_15) fun (r_20 : Int64) => tx_b1 (f_X5_at fu u_T v_T (y_15 + (1 : Int32))) fun (r_22 : Int64) => tx_b1 (f_X5_join fu (u_T 1 w4.toNatClampNeg) r_20 r_22) fun (r_24 : Int64) => f_X5_work_oNr0_J207 fu u_T v_N K26 v_T w1 y_15 w4 r_24))))))
def f_X5_work_oNr0_L26 (fu : Nat) (u_T : S32) (v_N : S64) : Nat → S64 → Int32 → Int32 → Int32 → Option (Int64 × S64)
  | 0 => fun _ _ _ _ => none
  | n + 1 => f_X5_work_oNr0_J26 fu u_T v_N (f_X5_work_oNr0_L26 fu u_T v_N n)
def f_X5_work_oNr0 (fu : Nat) (u_T : S32) (v_N : S64) (v_T : S64) (x1 : Int32) : Option (Int64 × S64) := tx_b1 (f_X5_isTold fu u_T v_T x1) fun (r_2 : Int32) => if r_2 = (0 : Int32) then (some ((-9223372036854775808 : Int64), v_T)) else (tx_ck x1 3 <| tx_let (if (0 : Int32) < (u_T 3 x1.toNatClampNeg) then (u_T 3 x1.toNatClampNeg) else (0 : Int32)) fun (y_5 : Int32) => f_X5_work_oNr0_L26 fu u_T v_N fu v_T x1 (0 : Int32) y_5)
set_option maxHeartbeats 4000000 in
set_option maxRecDepth 100000 in
theorem c_X5_work_oNr0 {l : Launch} {g : GG} {A : Nat → Prop} {X : va_W} {fu : Nat} {a_T a_N : Nat → Nat} {u_T : S32} {v_T : S64} {v_N : S64} {x1 : Int32} {r : Int64} {zv_T : S64} (hf : f_X5_work_oNr0 fu u_T v_N v_T x1 = some (r, zv_T)) : ML l yX5_work cX5_work 7 (some .long) 1 g A (cl_X5 g a_T u_T v_T ++ (cl_N g a_N v_N ++ X)) [.ref (a_T 0), .int x1, .ref (a_N 0)] r (cl_X5 g a_T u_T zv_T ++ (cl_N g a_N v_N ++ X)) := by
  refine tx_start (av := [.ref (a_T 0), .int x1, .ref (a_N 0)]) (by decide) (Nat.le_of_ble_eq_true rfl) ?_
  intro p e s m below meth c ls S hr hlk hE hw hl
  have S : CallFix p m c cX5_work 7 s (List.toArray [.ref (a_T 0), .int x1, .ref (a_N 0)]) (Cond.code yX5_work cX5_work 7 (some .long) :: allW) RX5 := S
  have hx := S.1
  have hb := S.2.1
  have hown := S.2.2.2.1
  have hts : ∀ w ∈ allW, w.before (List.toArray [.ref (a_T 0), .int x1, .ref (a_N 0)]) s = true := fun w h => S.2.2.2.2 w (List.mem_cons_of_mem _ h)
  have hl : lv_has ls 7 [(0, .ref (a_T 0)), (1, .int x1), (2, .ref (a_N 0))] := hl
  have J209 : ∀ {K26 : S64 → Int32 → Int32 → Int32 → Option (Int64 × S64)} (hK26 : ∀ {v_T : S64} {w1 : Int32} {w3 : Int32} {w4 : Int32} {H : Heap} {locs : List Loc} {ls : Array Slot}, K26 v_T w1 w3 w4 = some (r, zv_T) → WD g A s.heap (cl_X5 g a_T u_T v_T ++ (cl_N g a_N v_N ++ X)) H locs → lv_has ls 7 [(0, .ref (a_T 0)), (1, .int w1), (2, .ref (a_N 0)), (3, .int w3), (4, .int w4)] → W p l e (rmH 1) s m (List.toArray [.ref (a_T 0), .int x1, .ref (a_N 0)]) below meth c H locs 0 0 (MQ below (va_Ql (fun r2 (_ : Unit) => r2 = r) (fun _ t => POST g A (cl_X5 g a_T u_T zv_T ++ (cl_N g a_N v_N ++ X)) t) A) (List.toArray [.ref (a_T 0), .int x1, .ref (a_N 0)]) s 0 0 A) (F0 m 26 ls [])), ∀ {v_T : S64} {w1 : Int32} {w3 : Int32} {w4 : Int32} {w5 : Int64} {H : Heap} {locs : List Loc} {ls : Array Slot}, f_X5_work_oNr0_J209 fu u_T v_N K26 v_T w1 w3 w4 w5 = some (r, zv_T) → WD g A s.heap (cl_X5 g a_T u_T v_T ++ (cl_N g a_N v_N ++ X)) H locs → lv_has ls 7 [(0, .ref (a_T 0)), (1, .int w1), (2, .ref (a_N 0)), (3, .int w3), (4, .int w4), (5, .long w5)] → W p l e (rmH 1) s m (List.toArray [.ref (a_T 0), .int x1, .ref (a_N 0)]) below meth c H locs 0 0 (MQ below (va_Ql (fun r2 (_ : Unit) => r2 = r) (fun _ t => POST g A (cl_X5 g a_T u_T zv_T ++ (cl_N g a_N v_N ++ X)) t) A) (List.toArray [.ref (a_T 0), .int x1, .ref (a_N 0)]) s 0 0 A) (F0 m 209 ls []) := by
    intro K26 hK26 v_T w1 w3 w4 w5 H locs ls hf hw hl
    unfold f_X5_work_oNr0_J209 at hf
    refine lv_lload hx hb dX5_work_209 (lv_at hl 5 rfl) ?_
    refine lv_ldc2 (v := 1000000000000) hx hb hown (hts _ kw_781) dX5_work_211 ?_
    refine W.lcmp hx hb dX5_work_214 ?_
    refine lv_if_gt (tgt := 237) hx hb dX5_work_215 (by decide) (fun h_45 => ?_) (fun h_45 => ?_)
    · replace hf := tx_pos hf h_45
      refine lv_ldc2 (v := -9223372036854775808) hx hb hown (hts _ kw_770) dX5_work_237 ?_
      obtain ⟨e0, e1⟩ := tx_in2 hf
      rw [← e0, ← e1]
      exact tx_lret S hr hlk hw dX5_work_240
    · replace hf := tx_neg hf h_45
      refine lv_lload hx hb dX5_work_218 (lv_at hl 5 rfl) ?_
      refine lv_ldc2 (v := -1000000000000) hx hb hown (hts _ kw_785) dX5_work_220 ?_
      refine W.lcmp hx hb dX5_work_223 ?_
      refine lv_if_lt (tgt := 237) hx hb dX5_work_224 (by decide) (fun h_46 => ?_) (fun h_46 => ?_)
      · replace hf := tx_pos hf h_46
        refine lv_ldc2 (v := -9223372036854775808) hx hb hown (hts _ kw_770) dX5_work_237 ?_
        obtain ⟨e0, e1⟩ := tx_in2 hf
        rw [← e0, ← e1]
        exact tx_lret S hr hlk hw dX5_work_240
      · replace hf := tx_neg hf h_46
        refine lv_iload_n hx hb dX5_work_227 rfl (lv_at hl 3 rfl) ?_
        refine lv_if_lt (tgt := 237) hx hb dX5_work_228 (by decide) (fun h_47 => ?_) (fun h_47 => ?_)
        · replace hf := tx_pos hf h_47
          refine lv_ldc2 (v := -9223372036854775808) hx hb hown (hts _ kw_770) dX5_work_237 ?_
          obtain ⟨e0, e1⟩ := tx_in2 hf
          rw [← e0, ← e1]
          exact tx_lret S hr hlk hw dX5_work_240
        · replace hf := tx_neg hf h_47
          refine lv_iload_n hx hb dX5_work_231 rfl (lv_at hl 3 rfl) ?_
          refine lv_bipush (v := 64) hx hb dX5_work_232 (by decide) ?_
          refine lv_icmp_lt (tgt := 241) hx hb dX5_work_234 (by decide) (fun h_48 => ?_) (fun h_48 => ?_)
          · replace hf := tx_pos hf h_48
            refine lv_aload_n hx hb dX5_work_241 rfl (lv_at hl 0 rfl) ?_
            refine gf_X5_24 S hE hw 0 rfl rfl dX5_work_242 ?_
            refine lv_iload_n hx hb dX5_work_245 rfl (lv_at hl 3 rfl) ?_
            refine lv_lload hx hb dX5_work_246 (lv_at hl 5 rfl) ?_
            obtain ⟨h_49, hf⟩ := tx_ck_e hf
            obtain ⟨v_T_50, ev_T_50⟩ : ∃ z : S64, z = up4 v_T 5 w3.toNatClampNeg w5 := ⟨_, rfl⟩
            replace hf := tx_let_e hf ev_T_50
            refine tx_last (ws' := cl_X5 g a_T u_T v_T_50 ++ (cl_N g a_N v_N ++ X)) S hE hw 5 rfl h_49 (by rw [ev_T_50]; rfl) dX5_work_248 (fun H locs hw => ?_)
            obtain ⟨y_51, ey_51⟩ : ∃ y : Int32, y = w3 + (1 : Int32) := ⟨_, rfl⟩
            replace hf := tx_let_e hf ey_51
            refine lv_iinc (v := y_51) (lv' := [(3, .int y_51), (0, .ref (a_T 0)), (1, .int w1), (2, .ref (a_N 0)), (4, .int w4), (5, .long w5)]) hx hb dX5_work_249 hl (k := 3) rfl (by rw [ey_51]; rfl) (by decide) rfl (fun ls hl => ?_)
            obtain ⟨y_52, ey_52⟩ : ∃ y : Int32, y = w4 + (1 : Int32) := ⟨_, rfl⟩
            replace hf := tx_let_e hf ey_52
            refine lv_iinc (v := y_52) (lv' := [(4, .int y_52), (3, .int y_51), (0, .ref (a_T 0)), (1, .int w1), (2, .ref (a_N 0)), (5, .long w5)]) hx hb dX5_work_252 hl (k := 4) rfl (by rw [ey_52]; rfl) (by decide) rfl (fun ls hl => ?_)
            refine lv_goto (tgt := 26) hx hb dX5_work_255 (by decide) ?_
            exact hK26 hf hw (lv_sub hl [2, 3, 4, 1, 0] rfl)
          · replace hf := tx_neg hf h_48
            refine lv_ldc2 (v := -9223372036854775808) hx hb hown (hts _ kw_770) dX5_work_237 ?_
            obtain ⟨e0, e1⟩ := tx_in2 hf
            rw [← e0, ← e1]
            exact tx_lret S hr hlk hw dX5_work_240
  have J113 : ∀ {K26 : S64 → Int32 → Int32 → Int32 → Option (Int64 × S64)} (hK26 : ∀ {v_T : S64} {w1 : Int32} {w3 : Int32} {w4 : Int32} {H : Heap} {locs : List Loc} {ls : Array Slot}, K26 v_T w1 w3 w4 = some (r, zv_T) → WD g A s.heap (cl_X5 g a_T u_T v_T ++ (cl_N g a_N v_N ++ X)) H locs → lv_has ls 7 [(0, .ref (a_T 0)), (1, .int w1), (2, .ref (a_N 0)), (3, .int w3), (4, .int w4)] → W p l e (rmH 1) s m (List.toArray [.ref (a_T 0), .int x1, .ref (a_N 0)]) below meth c H locs 0 0 (MQ below (va_Ql (fun r2 (_ : Unit) => r2 = r) (fun _ t => POST g A (cl_X5 g a_T u_T zv_T ++ (cl_N g a_N v_N ++ X)) t) A) (List.toArray [.ref (a_T 0), .int x1, .ref (a_N 0)]) s 0 0 A) (F0 m 26 ls [])), ∀ {v_T : S64} {w1 : Int32} {w3 : Int32} {w4 : Int32} {t0 : Int64} {H : Heap} {locs : List Loc} {ls : Array Slot}, f_X5_work_oNr0_J113 fu u_T v_N K26 v_T w1 w3 w4 t0 = some (r, zv_T) → WD g A s.heap (cl_X5 g a_T u_T v_T ++ (cl_N g a_N v_N ++ X)) H locs → lv_has ls 7 [(0, .ref (a_T 0)), (1, .int w1), (2, .ref (a_N 0)), (3, .int w3), (4, .int w4)] → W p l e (rmH 1) s m (List.toArray [.ref (a_T 0), .int x1, .ref (a_N 0)]) below meth c H locs 0 0 (MQ below (va_Ql (fun r2 (_ : Unit) => r2 = r) (fun _ t => POST g A (cl_X5 g a_T u_T zv_T ++ (cl_N g a_N v_N ++ X)) t) A) (List.toArray [.ref (a_T 0), .int x1, .ref (a_N 0)]) s 0 0 A) (F0 m 113 ls [.long t0]) := by
    intro K26 hK26 v_T w1 w3 w4 t0 H locs ls hf hw hl
    unfold f_X5_work_oNr0_J113 at hf
    refine lv_lstore (lv' := [(5, .long t0), (0, .ref (a_T 0)), (1, .int w1), (2, .ref (a_N 0)), (3, .int w3), (4, .int w4)]) hx hb dX5_work_113 hl (by decide) rfl (fun ls hl => ?_)
    refine lv_goto (tgt := 209) hx hb dX5_work_115 (by decide) ?_
    exact J209 hK26 hf hw (lv_sub hl [1, 2, 3, 4, 5, 0] rfl)
  have J112 : ∀ {K26 : S64 → Int32 → Int32 → Int32 → Option (Int64 × S64)} (hK26 : ∀ {v_T : S64} {w1 : Int32} {w3 : Int32} {w4 : Int32} {H : Heap} {locs : List Loc} {ls : Array Slot}, K26 v_T w1 w3 w4 = some (r, zv_T) → WD g A s.heap (cl_X5 g a_T u_T v_T ++ (cl_N g a_N v_N ++ X)) H locs → lv_has ls 7 [(0, .ref (a_T 0)), (1, .int w1), (2, .ref (a_N 0)), (3, .int w3), (4, .int w4)] → W p l e (rmH 1) s m (List.toArray [.ref (a_T 0), .int x1, .ref (a_N 0)]) below meth c H locs 0 0 (MQ below (va_Ql (fun r2 (_ : Unit) => r2 = r) (fun _ t => POST g A (cl_X5 g a_T u_T zv_T ++ (cl_N g a_N v_N ++ X)) t) A) (List.toArray [.ref (a_T 0), .int x1, .ref (a_N 0)]) s 0 0 A) (F0 m 26 ls [])), ∀ {v_T : S64} {w1 : Int32} {w3 : Int32} {w4 : Int32} {H : Heap} {locs : List Loc} {ls : Array Slot}, f_X5_work_oNr0_J112 fu u_T v_N K26 v_T w1 w3 w4 = some (r, zv_T) → WD g A s.heap (cl_X5 g a_T u_T v_T ++ (cl_N g a_N v_N ++ X)) H locs → lv_has ls 7 [(0, .ref (a_T 0)), (1, .int w1), (2, .ref (a_N 0)), (3, .int w3), (4, .int w4)] → W p l e (rmH 1) s m (List.toArray [.ref (a_T 0), .int x1, .ref (a_N 0)]) below meth c H locs 0 0 (MQ below (va_Ql (fun r2 (_ : Unit) => r2 = r) (fun _ t => POST g A (cl_X5 g a_T u_T zv_T ++ (cl_N g a_N v_N ++ X)) t) A) (List.toArray [.ref (a_T 0), .int x1, .ref (a_N 0)]) s 0 0 A) (F0 m 112 ls []) := by
    intro K26 hK26 v_T w1 w3 w4 H locs ls hf hw hl
    unfold f_X5_work_oNr0_J112 at hf
    refine lv_lconst (v := 0) hx hb dX5_work_112 (by decide) ?_
    exact J113 hK26 hf hw (lv_sub hl [0, 1, 2, 3, 4] rfl)
  have J147 : ∀ {K26 : S64 → Int32 → Int32 → Int32 → Option (Int64 × S64)} (hK26 : ∀ {v_T : S64} {w1 : Int32} {w3 : Int32} {w4 : Int32} {H : Heap} {locs : List Loc} {ls : Array Slot}, K26 v_T w1 w3 w4 = some (r, zv_T) → WD g A s.heap (cl_X5 g a_T u_T v_T ++ (cl_N g a_N v_N ++ X)) H locs → lv_has ls 7 [(0, .ref (a_T 0)), (1, .int w1), (2, .ref (a_N 0)), (3, .int w3), (4, .int w4)] → W p l e (rmH 1) s m (List.toArray [.ref (a_T 0), .int x1, .ref (a_N 0)]) below meth c H locs 0 0 (MQ below (va_Ql (fun r2 (_ : Unit) => r2 = r) (fun _ t => POST g A (cl_X5 g a_T u_T zv_T ++ (cl_N g a_N v_N ++ X)) t) A) (List.toArray [.ref (a_T 0), .int x1, .ref (a_N 0)]) s 0 0 A) (F0 m 26 ls [])), ∀ {v_T : S64} {w1 : Int32} {w3 : Int32} {w4 : Int32} {t0 : Int64} {H : Heap} {locs : List Loc} {ls : Array Slot}, f_X5_work_oNr0_J147 fu u_T v_N K26 v_T w1 w3 w4 t0 = some (r, zv_T) → WD g A s.heap (cl_X5 g a_T u_T v_T ++ (cl_N g a_N v_N ++ X)) H locs → lv_has ls 7 [(0, .ref (a_T 0)), (1, .int w1), (2, .ref (a_N 0)), (3, .int w3), (4, .int w4)] → W p l e (rmH 1) s m (List.toArray [.ref (a_T 0), .int x1, .ref (a_N 0)]) below meth c H locs 0 0 (MQ below (va_Ql (fun r2 (_ : Unit) => r2 = r) (fun _ t => POST g A (cl_X5 g a_T u_T zv_T ++ (cl_N g a_N v_N ++ X)) t) A) (List.toArray [.ref (a_T 0), .int x1, .ref (a_N 0)]) s 0 0 A) (F0 m 147 ls [.long t0]) := by
    intro K26 hK26 v_T w1 w3 w4 t0 H locs ls hf hw hl
    unfold f_X5_work_oNr0_J147 at hf
    refine lv_lstore (lv' := [(5, .long t0), (0, .ref (a_T 0)), (1, .int w1), (2, .ref (a_N 0)), (3, .int w3), (4, .int w4)]) hx hb dX5_work_147 hl (by decide) rfl (fun ls hl => ?_)
    refine lv_goto (tgt := 209) hx hb dX5_work_149 (by decide) ?_
    exact J209 hK26 hf hw (lv_sub hl [1, 2, 3, 4, 5, 0] rfl)
  have J207 : ∀ {K26 : S64 → Int32 → Int32 → Int32 → Option (Int64 × S64)} (hK26 : ∀ {v_T : S64} {w1 : Int32} {w3 : Int32} {w4 : Int32} {H : Heap} {locs : List Loc} {ls : Array Slot}, K26 v_T w1 w3 w4 = some (r, zv_T) → WD g A s.heap (cl_X5 g a_T u_T v_T ++ (cl_N g a_N v_N ++ X)) H locs → lv_has ls 7 [(0, .ref (a_T 0)), (1, .int w1), (2, .ref (a_N 0)), (3, .int w3), (4, .int w4)] → W p l e (rmH 1) s m (List.toArray [.ref (a_T 0), .int x1, .ref (a_N 0)]) below meth c H locs 0 0 (MQ below (va_Ql (fun r2 (_ : Unit) => r2 = r) (fun _ t => POST g A (cl_X5 g a_T u_T zv_T ++ (cl_N g a_N v_N ++ X)) t) A) (List.toArray [.ref (a_T 0), .int x1, .ref (a_N 0)]) s 0 0 A) (F0 m 26 ls [])), ∀ {v_T : S64} {w1 : Int32} {w3 : Int32} {w4 : Int32} {t0 : Int64} {H : Heap} {locs : List Loc} {ls : Array Slot}, f_X5_work_oNr0_J207 fu u_T v_N K26 v_T w1 w3 w4 t0 = some (r, zv_T) → WD g A s.heap (cl_X5 g a_T u_T v_T ++ (cl_N g a_N v_N ++ X)) H locs → lv_has ls 7 [(0, .ref (a_T 0)), (1, .int w1), (2, .ref (a_N 0)), (3, .int w3), (4, .int w4)] → W p l e (rmH 1) s m (List.toArray [.ref (a_T 0), .int x1, .ref (a_N 0)]) below meth c H locs 0 0 (MQ below (va_Ql (fun r2 (_ : Unit) => r2 = r) (fun _ t => POST g A (cl_X5 g a_T u_T zv_T ++ (cl_N g a_N v_N ++ X)) t) A) (List.toArray [.ref (a_T 0), .int x1, .ref (a_N 0)]) s 0 0 A) (F0 m 207 ls [.long t0]) := by
    intro K26 hK26 v_T w1 w3 w4 t0 H locs ls hf hw hl
    unfold f_X5_work_oNr0_J207 at hf
    refine lv_lstore (lv' := [(5, .long t0), (0, .ref (a_T 0)), (1, .int w1), (2, .ref (a_N 0)), (3, .int w3), (4, .int w4)]) hx hb dX5_work_207 hl (by decide) rfl (fun ls hl => ?_)
    exact J209 hK26 hf hw (lv_sub hl [1, 2, 3, 4, 5, 0] rfl)
  have J258 : ∀ {v_T : S64} {w3 : Int32} {H : Heap} {locs : List Loc} {ls : Array Slot}, f_X5_work_oNr0_J258 fu u_T v_N v_T w3 = some (r, zv_T) → WD g A s.heap (cl_X5 g a_T u_T v_T ++ (cl_N g a_N v_N ++ X)) H locs → lv_has ls 7 [(0, .ref (a_T 0)), (3, .int w3)] → W p l e (rmH 1) s m (List.toArray [.ref (a_T 0), .int x1, .ref (a_N 0)]) below meth c H locs 0 0 (MQ below (va_Ql (fun r2 (_ : Unit) => r2 = r) (fun _ t => POST g A (cl_X5 g a_T u_T zv_T ++ (cl_N g a_N v_N ++ X)) t) A) (List.toArray [.ref (a_T 0), .int x1, .ref (a_N 0)]) s 0 0 A) (F0 m 258 ls []) := by
    intro v_T w3 H locs ls hf hw hl
    unfold f_X5_work_oNr0_J258 at hf
    refine lv_aload_n hx hb dX5_work_258 rfl (lv_at hl 0 rfl) ?_
    refine lv_iload_n hx hb dX5_work_259 rfl (lv_at hl 1 rfl) ?_
    refine lv_iconst (v := 1) hx hb dX5_work_260 (by decide) ?_
    refine lv_isub hx hb dX5_work_261 ?_
    obtain ⟨r_44, h_43, hf⟩ := tx_b1_e hf
    refine tx_cl hw (tx_runV S hE hw (c_X5_at h_43) lk_X5_50 (q0 := 0) rfl rfl rfl hl.1 (rest := []) rfl (Nat.le_of_ble_eq_true rfl) ⟨by decide, by decide⟩ dX5_work_262 ⟨Nat.zero_le _, Nat.zero_le _⟩) (fun H locs hw => ?_)
    obtain ⟨e0, e1⟩ := tx_in2 hf
    rw [← e0, ← e1]
    exact tx_lret S hr hlk hw dX5_work_265
  have J26 : ∀ {K26 : S64 → Int32 → Int32 → Int32 → Option (Int64 × S64)} (hK26 : ∀ {v_T : S64} {w1 : Int32} {w3 : Int32} {w4 : Int32} {H : Heap} {locs : List Loc} {ls : Array Slot}, K26 v_T w1 w3 w4 = some (r, zv_T) → WD g A s.heap (cl_X5 g a_T u_T v_T ++ (cl_N g a_N v_N ++ X)) H locs → lv_has ls 7 [(0, .ref (a_T 0)), (1, .int w1), (2, .ref (a_N 0)), (3, .int w3), (4, .int w4)] → W p l e (rmH 1) s m (List.toArray [.ref (a_T 0), .int x1, .ref (a_N 0)]) below meth c H locs 0 0 (MQ below (va_Ql (fun r2 (_ : Unit) => r2 = r) (fun _ t => POST g A (cl_X5 g a_T u_T zv_T ++ (cl_N g a_N v_N ++ X)) t) A) (List.toArray [.ref (a_T 0), .int x1, .ref (a_N 0)]) s 0 0 A) (F0 m 26 ls [])), ∀ {v_T : S64} {w1 : Int32} {w3 : Int32} {w4 : Int32} {H : Heap} {locs : List Loc} {ls : Array Slot}, f_X5_work_oNr0_J26 fu u_T v_N K26 v_T w1 w3 w4 = some (r, zv_T) → WD g A s.heap (cl_X5 g a_T u_T v_T ++ (cl_N g a_N v_N ++ X)) H locs → lv_has ls 7 [(0, .ref (a_T 0)), (1, .int w1), (2, .ref (a_N 0)), (3, .int w3), (4, .int w4)] → W p l e (rmH 1) s m (List.toArray [.ref (a_T 0), .int x1, .ref (a_N 0)]) below meth c H locs 0 0 (MQ below (va_Ql (fun r2 (_ : Unit) => r2 = r) (fun _ t => POST g A (cl_X5 g a_T u_T zv_T ++ (cl_N g a_N v_N ++ X)) t) A) (List.toArray [.ref (a_T 0), .int x1, .ref (a_N 0)]) s 0 0 A) (F0 m 26 ls []) := by
    intro K26 hK26 v_T w1 w3 w4 H locs ls hf hw hl
    unfold f_X5_work_oNr0_J26 at hf
    refine lv_iload hx hb dX5_work_26 (lv_at hl 4 rfl) ?_
    refine lv_aload_n hx hb dX5_work_28 rfl (lv_at hl 0 rfl) ?_
    refine gf_X5_21 S hE hw 0 rfl rfl dX5_work_29 ?_
    refine lv_iload_n hx hb dX5_work_32 rfl (lv_at hl 1 rfl) ?_
    obtain ⟨h_6, hf⟩ := tx_ck_e hf
    refine tx_iald S hE hw 4 rfl h_6 dX5_work_33 ?_
    refine lv_icmp_ge (tgt := 258) hx hb dX5_work_34 (by decide) (fun h_7 => ?_) (fun h_7 => ?_)
    · replace hf := tx_pos hf h_7
      exact J258 hf hw (lv_sub hl [0, 3] rfl)
    · replace hf := tx_neg hf h_7
      refine lv_iload hx hb dX5_work_37 (lv_at hl 4 rfl) ?_
      refine lv_bipush (v := 64) hx hb dX5_work_39 (by decide) ?_
      refine lv_icmp_ge (tgt := 258) hx hb dX5_work_41 (by decide) (fun h_8 => ?_) (fun h_8 => ?_)
      · replace hf := tx_pos hf h_8
        exact J258 hf hw (lv_sub hl [0, 3] rfl)
      · replace hf := tx_neg hf h_8
        refine lv_aload_n hx hb dX5_work_44 rfl (lv_at hl 0 rfl) ?_
        refine gf_X5_11 S hE hw 0 rfl rfl dX5_work_45 ?_
        refine lv_iload hx hb dX5_work_48 (lv_at hl 4 rfl) ?_
        obtain ⟨h_9, hf⟩ := tx_ck_e hf
        refine tx_iald S hE hw 1 rfl h_9 dX5_work_50 ?_
        refine lv_if_ne (tgt := 67) hx hb dX5_work_51 (by decide) (fun h_10 => ?_) (fun h_10 => ?_)
        · replace hf := tx_neg hf h_10
          refine lv_aload_n hx hb dX5_work_67 rfl (lv_at hl 0 rfl) ?_
          refine gf_X5_11 S hE hw 0 rfl rfl dX5_work_68 ?_
          refine lv_iload hx hb dX5_work_71 (lv_at hl 4 rfl) ?_
          obtain ⟨h_11, hf⟩ := tx_ck_e hf
          refine tx_iald S hE hw 1 rfl h_11 dX5_work_73 ?_
          refine lv_iconst (v := 1) hx hb dX5_work_74 (by decide) ?_
          refine lv_icmp_ne (tgt := 118) hx hb dX5_work_75 (by decide) (fun h_12 => ?_) (fun h_12 => ?_)
          · replace hf := tx_neg hf h_12
            refine lv_aload_n hx hb dX5_work_118 rfl (lv_at hl 0 rfl) ?_
            refine gf_X5_11 S hE hw 0 rfl rfl dX5_work_119 ?_
            refine lv_iload hx hb dX5_work_122 (lv_at hl 4 rfl) ?_
            obtain ⟨h_13, hf⟩ := tx_ck_e hf
            refine tx_iald S hE hw 1 rfl h_13 dX5_work_124 ?_
            refine lv_iconst (v := 4) hx hb dX5_work_125 (by decide) ?_
            refine lv_icmp_ne (tgt := 152) hx hb dX5_work_126 (by decide) (fun h_14 => ?_) (fun h_14 => ?_)
            · replace hf := tx_neg hf h_14
              obtain ⟨y_15, ey_15⟩ : ∃ y : Int32, y = w3 + (-2 : Int32) := ⟨_, rfl⟩
              replace hf := tx_let_e hf ey_15
              refine lv_iinc (v := y_15) (lv' := [(3, .int y_15), (0, .ref (a_T 0)), (1, .int w1), (2, .ref (a_N 0)), (4, .int w4)]) hx hb dX5_work_152 hl (k := 3) rfl (by rw [ey_15]; rfl) (by decide) rfl (fun ls hl => ?_)
              refine lv_aload_n hx hb dX5_work_155 rfl (lv_at hl 1 rfl) ?_
              refine gf_X5_11 S hE hw 0 rfl rfl dX5_work_156 ?_
              refine lv_iload hx hb dX5_work_159 (lv_at hl 4 rfl) ?_
              obtain ⟨h_16, hf⟩ := tx_ck_e hf
              refine tx_iald S hE hw 1 rfl h_16 dX5_work_161 ?_
              refine lv_bipush (v := 13) hx hb dX5_work_162 (by decide) ?_
              refine lv_icmp_ne (tgt := 185) hx hb dX5_work_164 (by decide) (fun h_17 => ?_) (fun h_17 => ?_)
              · replace hf := tx_neg hf h_17
                refine lv_aload_n hx hb dX5_work_185 rfl (lv_at hl 1 rfl) ?_
                refine gf_X5_11 S hE hw 0 rfl rfl dX5_work_186 ?_
                refine lv_iload hx hb dX5_work_189 (lv_at hl 4 rfl) ?_
                obtain ⟨h_18, hf⟩ := tx_ck_e hf
                refine tx_iald S hE hw 1 rfl h_18 dX5_work_191 ?_
                refine lv_aload_n hx hb dX5_work_192 rfl (lv_at hl 1 rfl) ?_
                refine lv_iload_n hx hb dX5_work_193 rfl (lv_at hl 0 rfl) ?_
                obtain ⟨r_20, h_19, hf⟩ := tx_b1_e hf
                refine tx_cl hw (tx_runV S hE hw (c_X5_at h_19) lk_X5_50 (q0 := 0) rfl rfl rfl hl.1 (rest := [.int (u_T 1 w4.toNatClampNeg)]) rfl (Nat.le_of_ble_eq_true rfl) ⟨by decide, by decide⟩ dX5_work_194 ⟨Nat.zero_le _, Nat.zero_le _⟩) (fun H locs hw => ?_)
                refine lv_aload_n hx hb dX5_work_197 rfl (lv_at hl 1 rfl) ?_
                refine lv_iload_n hx hb dX5_work_198 rfl (lv_at hl 0 rfl) ?_
                refine lv_iconst (v := 1) hx hb dX5_work_199 (by decide) ?_
                refine lv_iadd hx hb dX5_work_200 ?_
                obtain ⟨r_22, h_21, hf⟩ := tx_b1_e hf
                refine tx_cl hw (tx_runV S hE hw (c_X5_at h_21) lk_X5_50 (q0 := 0) rfl rfl rfl hl.1 (rest := [.long r_20, .int (u_T 1 w4.toNatClampNeg)]) rfl (Nat.le_of_ble_eq_true rfl) ⟨by decide, by decide⟩ dX5_work_201 ⟨Nat.zero_le _, Nat.zero_le _⟩) (fun H locs hw => ?_)
                obtain ⟨r_24, h_23, hf⟩ := tx_b1_e hf
                refine tx_cl hw (tx_runS S hE hw (c_X5_join h_23) lk_X5_58 rfl hl.1 (rest := []) rfl (Nat.le_of_ble_eq_true rfl) ⟨by decide, by decide⟩ dX5_work_204 ⟨Nat.zero_le _, Nat.zero_le _⟩) (fun H locs hw => ?_)
                exact J207 hK26 hf hw (lv_sub hl [1, 2, 3, 0, 4] rfl)
              · replace hf := tx_pos hf h_17
                refine lv_aload_n hx hb dX5_work_167 rfl (lv_at hl 1 rfl) ?_
                refine lv_iload_n hx hb dX5_work_168 rfl (lv_at hl 0 rfl) ?_
                obtain ⟨r_26, h_25, hf⟩ := tx_b1_e hf
                refine tx_cl hw (tx_runV S hE hw (c_X5_at h_25) lk_X5_50 (q0 := 0) rfl rfl rfl hl.1 (rest := []) rfl (Nat.le_of_ble_eq_true rfl) ⟨by decide, by decide⟩ dX5_work_169 ⟨Nat.zero_le _, Nat.zero_le _⟩) (fun H locs hw => ?_)
                refine lv_aload_n hx hb dX5_work_172 rfl (lv_at hl 1 rfl) ?_
                refine lv_iload_n hx hb dX5_work_173 rfl (lv_at hl 0 rfl) ?_
                refine lv_iconst (v := 1) hx hb dX5_work_174 (by decide) ?_
                refine lv_iadd hx hb dX5_work_175 ?_
                obtain ⟨r_28, h_27, hf⟩ := tx_b1_e hf
                refine tx_cl hw (tx_runV S hE hw (c_X5_at h_27) lk_X5_50 (q0 := 0) rfl rfl rfl hl.1 (rest := [.long r_26]) rfl (Nat.le_of_ble_eq_true rfl) ⟨by decide, by decide⟩ dX5_work_176 ⟨Nat.zero_le _, Nat.zero_le _⟩) (fun H locs hw => ?_)
                obtain ⟨r_30, h_29, hf⟩ := tx_b1_e hf
                refine tx_cl hw (tx_runS S hE hw (c_X5_product h_29) lk_X5_54 rfl hl.1 (rest := []) rfl (Nat.le_of_ble_eq_true rfl) ⟨by decide, by decide⟩ dX5_work_179 ⟨Nat.zero_le _, Nat.zero_le _⟩) (fun H locs hw => ?_)
                refine lv_goto (tgt := 207) hx hb dX5_work_182 (by decide) ?_
                exact J207 hK26 hf hw (lv_sub hl [1, 2, 3, 0, 4] rfl)
            · replace hf := tx_pos hf h_14
              obtain ⟨y_31, ey_31⟩ : ∃ y : Int32, y = w3 + (-1 : Int32) := ⟨_, rfl⟩
              replace hf := tx_let_e hf ey_31
              refine lv_iinc (v := y_31) (lv' := [(3, .int y_31), (0, .ref (a_T 0)), (1, .int w1), (2, .ref (a_N 0)), (4, .int w4)]) hx hb dX5_work_129 hl (k := 3) rfl (by rw [ey_31]; rfl) (by decide) rfl (fun ls hl => ?_)
              refine lv_aload_n hx hb dX5_work_132 rfl (lv_at hl 1 rfl) ?_
              refine lv_iload_n hx hb dX5_work_133 rfl (lv_at hl 0 rfl) ?_
              obtain ⟨r_33, h_32, hf⟩ := tx_b1_e hf
              refine tx_cl hw (tx_runV S hE hw (c_X5_at h_32) lk_X5_50 (q0 := 0) rfl rfl rfl hl.1 (rest := []) rfl (Nat.le_of_ble_eq_true rfl) ⟨by decide, by decide⟩ dX5_work_134 ⟨Nat.zero_le _, Nat.zero_le _⟩) (fun H locs hw => ?_)
              refine lv_lconst (v := 0) hx hb dX5_work_137 (by decide) ?_
              refine W.lcmp hx hb dX5_work_138 ?_
              refine lv_if_ne (tgt := 146) hx hb dX5_work_139 (by decide) (fun h_34 => ?_) (fun h_34 => ?_)
              · replace hf := tx_neg hf h_34
                refine lv_lconst (v := 0) hx hb dX5_work_146 (by decide) ?_
                exact J147 hK26 hf hw (lv_sub hl [1, 2, 3, 0, 4] rfl)
              · replace hf := tx_pos hf h_34
                refine lv_lconst (v := 1) hx hb dX5_work_142 (by decide) ?_
                refine lv_goto (tgt := 147) hx hb dX5_work_143 (by decide) ?_
                exact J147 hK26 hf hw (lv_sub hl [1, 2, 3, 0, 4] rfl)
          · replace hf := tx_pos hf h_12
            refine lv_aload_n hx hb dX5_work_78 rfl (lv_at hl 0 rfl) ?_
            refine gf_X5_15 S hE hw 0 rfl rfl dX5_work_79 ?_
            refine lv_iload hx hb dX5_work_82 (lv_at hl 4 rfl) ?_
            obtain ⟨h_35, hf⟩ := tx_ck_e hf
            refine tx_iald S hE hw 2 rfl h_35 dX5_work_84 ?_
            refine lv_if_lt (tgt := 112) hx hb dX5_work_85 (by decide) (fun h_36 => ?_) (fun h_36 => ?_)
            · replace hf := tx_pos hf h_36
              exact J112 hK26 hf hw (lv_sub hl [0, 1, 2, 3, 4] rfl)
            · replace hf := tx_neg hf h_36
              refine lv_aload_n hx hb dX5_work_88 rfl (lv_at hl 0 rfl) ?_
              refine gf_X5_15 S hE hw 0 rfl rfl dX5_work_89 ?_
              refine lv_iload hx hb dX5_work_92 (lv_at hl 4 rfl) ?_
              obtain ⟨h_37, hf⟩ := tx_ck_e hf
              refine tx_iald S hE hw 2 rfl h_37 dX5_work_94 ?_
              refine lv_aload_n hx hb dX5_work_95 rfl (lv_at hl 2 rfl) ?_
              refine tx_alen (v := 7) S hE hw 6 2 rfl rfl rfl dX5_work_96 ?_
              refine lv_icmp_ge (tgt := 112) hx hb dX5_work_97 (by decide) (fun h_38 => ?_) (fun h_38 => ?_)
              · replace hf := tx_pos hf h_38
                exact J112 hK26 hf hw (lv_sub hl [0, 1, 2, 3, 4] rfl)
              · replace hf := tx_neg hf h_38
                refine lv_aload_n hx hb dX5_work_100 rfl (lv_at hl 2 rfl) ?_
                refine lv_aload_n hx hb dX5_work_101 rfl (lv_at hl 0 rfl) ?_
                refine gf_X5_15 S hE hw 0 rfl rfl dX5_work_102 ?_
                refine lv_iload hx hb dX5_work_105 (lv_at hl 4 rfl) ?_
                obtain ⟨h_39, hf⟩ := tx_ck_e hf
                refine tx_iald S hE hw 2 rfl h_39 dX5_work_107 ?_
                obtain ⟨h_40, hf⟩ := tx_ck_e hf
                refine tx_lald S hE hw 6 rfl h_40 dX5_work_108 ?_
                refine lv_goto (tgt := 113) hx hb dX5_work_109 (by decide) ?_
                exact J113 hK26 hf hw (lv_sub hl [0, 1, 2, 3, 4] rfl)
        · replace hf := tx_pos hf h_10
          refine lv_aload_n hx hb dX5_work_54 rfl (lv_at hl 0 rfl) ?_
          refine gf_X5_15 S hE hw 0 rfl rfl dX5_work_55 ?_
          refine lv_iload hx hb dX5_work_58 (lv_at hl 4 rfl) ?_
          obtain ⟨h_41, hf⟩ := tx_ck_e hf
          refine tx_iald S hE hw 2 rfl h_41 dX5_work_60 ?_
          refine lv_i2l (v := (u_T 2 w4.toNatClampNeg).toInt64) hx hb dX5_work_61 rfl ?_
          refine lv_topl (fun y_42 ey_42 => ?_)
          replace hf := tx_let_e hf ey_42
          refine lv_lstore (lv' := [(5, .long y_42), (0, .ref (a_T 0)), (1, .int w1), (2, .ref (a_N 0)), (3, .int w3), (4, .int w4)]) hx hb dX5_work_62 hl (by decide) rfl (fun ls hl => ?_)
          refine lv_goto (tgt := 209) hx hb dX5_work_64 (by decide) ?_
          exact J209 hK26 hf hw (lv_sub hl [1, 2, 3, 4, 5, 0] rfl)
  have L26 : ∀ (n : Nat), ∀ {v_T : S64} {w1 : Int32} {w3 : Int32} {w4 : Int32} {H : Heap} {locs : List Loc} {ls : Array Slot}, f_X5_work_oNr0_L26 fu u_T v_N n v_T w1 w3 w4 = some (r, zv_T) → WD g A s.heap (cl_X5 g a_T u_T v_T ++ (cl_N g a_N v_N ++ X)) H locs → lv_has ls 7 [(0, .ref (a_T 0)), (1, .int w1), (2, .ref (a_N 0)), (3, .int w3), (4, .int w4)] → W p l e (rmH 1) s m (List.toArray [.ref (a_T 0), .int x1, .ref (a_N 0)]) below meth c H locs 0 0 (MQ below (va_Ql (fun r2 (_ : Unit) => r2 = r) (fun _ t => POST g A (cl_X5 g a_T u_T zv_T ++ (cl_N g a_N v_N ++ X)) t) A) (List.toArray [.ref (a_T 0), .int x1, .ref (a_N 0)]) s 0 0 A) (F0 m 26 ls []) := by
    intro  n
    induction n with
    | zero => intro v_T w1 w3 w4 H locs ls hf; exact absurd hf (by intro q; cases q)
    | succ n ih => exact fun hf hw hl => J26 ih hf hw hl
  unfold f_X5_work_oNr0 at hf
  refine lv_aload_n hx hb dX5_work_0 rfl (lv_at hl 0 rfl) ?_
  refine lv_iload_n hx hb dX5_work_1 rfl (lv_at hl 1 rfl) ?_
  obtain ⟨r_2, h_1, hf⟩ := tx_b1_e hf
  refine tx_ci hw (tx_runV S hE hw (c_X5_isTold h_1) lk_X5_38 (q0 := 0) rfl rfl rfl hl.1 (rest := []) rfl (Nat.le_of_ble_eq_true rfl) ⟨by decide, by decide⟩ dX5_work_2 ⟨Nat.zero_le _, Nat.zero_le _⟩) (fun H locs hw => ?_)
  refine lv_if_ne (tgt := 12) hx hb dX5_work_5 (by decide) (fun h_3 => ?_) (fun h_3 => ?_)
  · replace hf := tx_neg hf h_3
    refine lv_iconst (v := 0) hx hb dX5_work_12 (by decide) ?_
    refine lv_istore_n (lv' := [(3, .int (0 : Int32)), (0, .ref (a_T 0)), (1, .int x1), (2, .ref (a_N 0))]) hx hb dX5_work_13 rfl hl (by decide) rfl (fun ls hl => ?_)
    refine lv_iconst (v := 0) hx hb dX5_work_14 (by decide) ?_
    refine lv_aload_n hx hb dX5_work_15 rfl (lv_at hl 1 rfl) ?_
    refine gf_X5_18 S hE hw 0 rfl rfl dX5_work_16 ?_
    refine lv_iload_n hx hb dX5_work_19 rfl (lv_at hl 2 rfl) ?_
    obtain ⟨h_4, hf⟩ := tx_ck_e hf
    refine tx_iald S hE hw 3 rfl h_4 dX5_work_20 ?_
    refine tx_mmax S kw_771 hl.1 (by decide) (Nat.le_of_ble_eq_true rfl) ⟨Nat.zero_le _, Nat.zero_le _⟩ dX5_work_21 ?_
    refine lv_topi (fun y_5 ey_5 => ?_)
    replace hf := tx_let_e hf ey_5
    refine lv_istore (lv' := [(4, .int y_5), (3, .int (0 : Int32)), (0, .ref (a_T 0)), (1, .int x1), (2, .ref (a_N 0))]) hx hb dX5_work_24 hl (by decide) rfl (fun ls hl => ?_)
    exact L26 fu hf hw (lv_sub hl [2, 3, 4, 1, 0] rfl)
  · replace hf := tx_pos hf h_3
    refine lv_ldc2 (v := -9223372036854775808) hx hb hown (hts _ kw_770) dX5_work_8 ?_
    obtain ⟨e0, e1⟩ := tx_in2 hf
    rw [← e0, ← e1]
    exact tx_lret S hr hlk hw dX5_work_11
def f_X10_readLawNow (fu : Nat) (u_T : S32) (u_B : S32) (u_L : S32) (v_N : S64) (v_L : S64) (x1 : Int32) : Option (Int64 × S64 × S64) := tx_b1 (f_X10_isHeld fu u_T u_B x1) fun (r_2 : Int32) => if r_2 = (0 : Int32) then (some ((-9223372036854775808 : Int64), v_N, v_L)) else (tx_ck x1 12 <| tx_b1 (f_X10_readerOf fu u_T u_B x1) fun (r_6 : Int32) => tx_ck x1 12 <| tx_b1 (f_X10_nameDoor fu u_T u_B v_N (u_T 12 x1.toNatClampNeg) r_6 (u_B 8 x1.toNatClampNeg)) fun (v_N_9 : S64) => tx_b2 (f_X5_work_oNr0 fu u_L v_N_9 v_L (0 : Int32)) fun (r_11 : Int64) (v_L_12 : S64) => some (r_11, v_N_9, v_L_12))
set_option maxHeartbeats 4000000 in
set_option maxRecDepth 100000 in
theorem c_X10_readLawNow {l : Launch} {g : GG} {A : Nat → Prop} {X : va_W} {fu : Nat} {a_T a_B a_N a_L : Nat → Nat} {u_T : S32} {u_B : S32} {v_N : S64} {u_L : S32} {v_L : S64} {x1 : Int32} {r : Int64} {zv_N : S64} {zv_L : S64} (hf : f_X10_readLawNow fu u_T u_B u_L v_N v_L x1 = some (r, zv_N, zv_L)) : ML l yX10_readLawNow cX10_readLawNow 2 (some .long) 3 g A (cl_X10 g a_T (a_B 0) (a_N 0) u_T ++ (cl_X0 g a_B (a_L 0) u_B ++ (cl_N g a_N v_N ++ (cl_X5 g a_L u_L v_L ++ X)))) [.ref (a_T 0), .int x1] r (cl_X10 g a_T (a_B 0) (a_N 0) u_T ++ (cl_X0 g a_B (a_L 0) u_B ++ (cl_N g a_N zv_N ++ (cl_X5 g a_L u_L zv_L ++ X)))) := by
  refine tx_start (av := [.ref (a_T 0), .int x1]) (by decide) (Nat.le_of_ble_eq_true rfl) ?_
  intro p e s m below meth c ls S hr hlk hE hw hl
  have S : CallFix p m c cX10_readLawNow 2 s (List.toArray [.ref (a_T 0), .int x1]) (Cond.code yX10_readLawNow cX10_readLawNow 2 (some .long) :: allW) RX10 := S
  have hx := S.1
  have hb := S.2.1
  have hown := S.2.2.2.1
  have hts : ∀ w ∈ allW, w.before (List.toArray [.ref (a_T 0), .int x1]) s = true := fun w h => S.2.2.2.2 w (List.mem_cons_of_mem _ h)
  have hl : lv_has ls 2 [(0, .ref (a_T 0)), (1, .int x1)] := hl
  unfold f_X10_readLawNow at hf
  refine lv_aload_n hx hb dX10_readLawNow_0 rfl (lv_at hl 0 rfl) ?_
  refine lv_iload_n hx hb dX10_readLawNow_1 rfl (lv_at hl 1 rfl) ?_
  obtain ⟨r_2, h_1, hf⟩ := tx_b1_e hf
  refine tx_ci hw (tx_runV S hE hw (c_X10_isHeld h_1) lk_X10_172 (q0 := 0) rfl rfl rfl hl.1 (rest := []) rfl (Nat.le_of_ble_eq_true rfl) ⟨by decide, by decide⟩ dX10_readLawNow_2 ⟨Nat.zero_le _, Nat.zero_le _⟩) (fun H locs hw => ?_)
  refine lv_if_ne (tgt := 12) hx hb dX10_readLawNow_5 (by decide) (fun h_3 => ?_) (fun h_3 => ?_)
  · replace hf := tx_neg hf h_3
    refine lv_aload_n hx hb dX10_readLawNow_12 rfl (lv_at hl 0 rfl) ?_
    refine lv_aload_n hx hb dX10_readLawNow_13 rfl (lv_at hl 0 rfl) ?_
    refine gf_X10_33 S hE hw 0 rfl rfl dX10_readLawNow_14 ?_
    refine lv_iload_n hx hb dX10_readLawNow_17 rfl (lv_at hl 1 rfl) ?_
    obtain ⟨h_4, hf⟩ := tx_ck_e hf
    refine tx_iald S hE hw 8 rfl h_4 dX10_readLawNow_18 ?_
    refine lv_aload_n hx hb dX10_readLawNow_19 rfl (lv_at hl 0 rfl) ?_
    refine lv_iload_n hx hb dX10_readLawNow_20 rfl (lv_at hl 1 rfl) ?_
    obtain ⟨r_6, h_5, hf⟩ := tx_b1_e hf
    refine tx_ci hw (tx_runV S hE hw (c_X10_readerOf h_5) lk_X10_207 (q0 := 0) rfl rfl rfl hl.1 (rest := [.int (u_T 12 x1.toNatClampNeg), .ref (a_T 0)]) rfl (Nat.le_of_ble_eq_true rfl) ⟨by decide, by decide⟩ dX10_readLawNow_21 ⟨Nat.zero_le _, Nat.zero_le _⟩) (fun H locs hw => ?_)
    refine lv_aload_n hx hb dX10_readLawNow_24 rfl (lv_at hl 0 rfl) ?_
    refine gf_X10_49 S hE hw 0 rfl rfl dX10_readLawNow_25 ?_
    refine gf_X10_141 S hE hw 12 rfl rfl dX10_readLawNow_28 ?_
    refine lv_iload_n hx hb dX10_readLawNow_31 rfl (lv_at hl 1 rfl) ?_
    obtain ⟨h_7, hf⟩ := tx_ck_e hf
    refine tx_iald S hE hw 17 rfl h_7 dX10_readLawNow_32 ?_
    obtain ⟨v_N_9, h_8, hf⟩ := tx_b1_e hf
    refine tx_cv hw (tx_runV S hE hw (c_X10_nameDoor h_8) lk_X10_186 (q0 := 0) rfl rfl rfl hl.1 (rest := []) rfl (Nat.le_of_ble_eq_true rfl) ⟨by decide, by decide⟩ dX10_readLawNow_33 ⟨Nat.zero_le _, Nat.zero_le _⟩) (fun H locs hw => ?_)
    refine lv_aload_n hx hb dX10_readLawNow_36 rfl (lv_at hl 0 rfl) ?_
    refine gf_X10_49 S hE hw 0 rfl rfl dX10_readLawNow_37 ?_
    refine gf_X10_177 S hE hw 12 rfl rfl dX10_readLawNow_40 ?_
    refine lv_iconst (v := 0) hx hb dX10_readLawNow_43 (by decide) ?_
    refine lv_aload_n hx hb dX10_readLawNow_44 rfl (lv_at hl 0 rfl) ?_
    refine gf_X10_45 S hE hw 0 rfl rfl dX10_readLawNow_45 ?_
    have hw := hw.u2
    have hw := hw.u3
    obtain ⟨r_11, v_L_12, h_10, hf⟩ := tx_b2_e hf
    refine tx_cl hw (tx_runN S hE hw (c_X5_work_oNr0 h_10) lk_X10_190 (q0 := 0) rfl rfl rfl hl.1 (rest := []) rfl (Nat.le_of_ble_eq_true rfl) ⟨by decide, by decide⟩ dX10_readLawNow_48 ⟨Nat.zero_le _, Nat.zero_le _⟩) (fun H locs hw => ?_)
    have hw := hw.u1
    have hw := hw.u3
    have hw := hw.u3
    obtain ⟨e0, e1, e2⟩ := tx_in3 hf
    rw [← e0, ← e1, ← e2]
    exact tx_lret S hr hlk hw dX10_readLawNow_51
  · replace hf := tx_pos hf h_3
    refine lv_ldc2 (v := -9223372036854775808) hx hb hown (hts _ kw_755) dX10_readLawNow_8 ?_
    obtain ⟨e0, e1, e2⟩ := tx_in3 hf
    rw [← e0, ← e1, ← e2]
    exact tx_lret S hr hlk hw dX10_readLawNow_11
def f_X10_isHeldAt (fu : Nat) (u_T : S32) (u_B : S32) (x1 : Int32) (x2 : Int32) : Option (Int32) := tx_b1 (f_X0_isThought fu u_B x1) fun (r_2 : Int32) => if r_2 = (0 : Int32) then (some (0 : Int32)) else (tx_ck x1 12 <| if (u_T 11 x1.toNatClampNeg) = (1 : Int32) then (tx_ck x1 12 <| if (u_T 12 x1.toNatClampNeg) = x2 then (some (1 : Int32)) else (some (0 : Int32))) else (some (0 : Int32)))
set_option maxHeartbeats 4000000 in
set_option maxRecDepth 100000 in
theorem c_X10_isHeldAt {l : Launch} {g : GG} {A : Nat → Prop} {X : va_W} {fu : Nat} {a_T a_B : Nat → Nat} {p_T_16 p_B_17 : Nat} {u_T : S32} {u_B : S32} {x1 : Int32} {x2 : Int32} {r : Int32} (hf : f_X10_isHeldAt fu u_T u_B x1 x2 = some r) : MI l yX10_isHeldAt cX10_isHeldAt 3 (some .boolean) 1 g A (cl_X10 g a_T (a_B 0) p_T_16 u_T ++ (cl_X0 g a_B p_B_17 u_B ++ X)) [.ref (a_T 0), .int x1, .int x2] r (cl_X10 g a_T (a_B 0) p_T_16 u_T ++ (cl_X0 g a_B p_B_17 u_B ++ X)) := by
  refine tx_start (av := [.ref (a_T 0), .int x1, .int x2]) (by decide) (Nat.le_of_ble_eq_true rfl) ?_
  intro p e s m below meth c ls S hr hlk hE hw hl
  have S : CallFix p m c cX10_isHeldAt 3 s (List.toArray [.ref (a_T 0), .int x1, .int x2]) (Cond.code yX10_isHeldAt cX10_isHeldAt 3 (some .boolean) :: allW) RX10 := S
  have hx := S.1
  have hb := S.2.1
  have hown := S.2.2.2.1
  have hts : ∀ w ∈ allW, w.before (List.toArray [.ref (a_T 0), .int x1, .int x2]) s = true := fun w h => S.2.2.2.2 w (List.mem_cons_of_mem _ h)
  have hl : lv_has ls 3 [(0, .ref (a_T 0)), (1, .int x1), (2, .int x2)] := hl
  unfold f_X10_isHeldAt at hf
  refine lv_aload_n hx hb dX10_isHeldAt_0 rfl (lv_at hl 0 rfl) ?_
  refine gf_X10_49 S hE hw 0 rfl rfl dX10_isHeldAt_1 ?_
  refine lv_iload_n hx hb dX10_isHeldAt_4 rfl (lv_at hl 1 rfl) ?_
  have hw := hw.u1
  obtain ⟨r_2, h_1, hf⟩ := tx_b1_e hf
  refine tx_ci hw (tx_runN S hE hw (c_X0_isThought h_1) lk_X10_168 (q0 := 0) rfl rfl rfl hl.1 (rest := []) rfl (Nat.le_of_ble_eq_true rfl) ⟨by decide, by decide⟩ dX10_isHeldAt_5 ⟨Nat.zero_le _, Nat.zero_le _⟩) (fun H locs hw => ?_)
  refine lv_if_eq (tgt := 35) hx hb dX10_isHeldAt_8 (by decide) (fun h_3 => ?_) (fun h_3 => ?_)
  · replace hf := tx_pos hf h_3
    refine lv_iconst (v := 0) hx hb dX10_isHeldAt_35 (by decide) ?_
    have hw := hw.u1
    obtain e0 := tx_in1 hf
    rw [← e0]
    exact tx_zret S hr hlk (by decide) hw dX10_isHeldAt_36
  · replace hf := tx_neg hf h_3
    refine lv_aload_n hx hb dX10_isHeldAt_11 rfl (lv_at hl 0 rfl) ?_
    refine gf_X10_30 S hE hw 11 rfl rfl dX10_isHeldAt_12 ?_
    refine lv_iload_n hx hb dX10_isHeldAt_15 rfl (lv_at hl 1 rfl) ?_
    obtain ⟨h_4, hf⟩ := tx_ck_e hf
    refine tx_iald S hE hw 18 rfl h_4 dX10_isHeldAt_16 ?_
    refine lv_iconst (v := 1) hx hb dX10_isHeldAt_17 (by decide) ?_
    refine lv_icmp_ne (tgt := 35) hx hb dX10_isHeldAt_18 (by decide) (fun h_5 => ?_) (fun h_5 => ?_)
    · replace hf := tx_neg hf h_5
      refine lv_iconst (v := 0) hx hb dX10_isHeldAt_35 (by decide) ?_
      have hw := hw.u1
      obtain e0 := tx_in1 hf
      rw [← e0]
      exact tx_zret S hr hlk (by decide) hw dX10_isHeldAt_36
    · replace hf := tx_pos hf h_5
      refine lv_aload_n hx hb dX10_isHeldAt_21 rfl (lv_at hl 0 rfl) ?_
      refine gf_X10_33 S hE hw 11 rfl rfl dX10_isHeldAt_22 ?_
      refine lv_iload_n hx hb dX10_isHeldAt_25 rfl (lv_at hl 1 rfl) ?_
      obtain ⟨h_6, hf⟩ := tx_ck_e hf
      refine tx_iald S hE hw 19 rfl h_6 dX10_isHeldAt_26 ?_
      refine lv_iload_n hx hb dX10_isHeldAt_27 rfl (lv_at hl 2 rfl) ?_
      refine lv_icmp_ne (tgt := 35) hx hb dX10_isHeldAt_28 (by decide) (fun h_7 => ?_) (fun h_7 => ?_)
      · replace hf := tx_neg hf h_7
        refine lv_iconst (v := 0) hx hb dX10_isHeldAt_35 (by decide) ?_
        have hw := hw.u1
        obtain e0 := tx_in1 hf
        rw [← e0]
        exact tx_zret S hr hlk (by decide) hw dX10_isHeldAt_36
      · replace hf := tx_pos hf h_7
        refine lv_iconst (v := 1) hx hb dX10_isHeldAt_31 (by decide) ?_
        refine lv_goto (tgt := 36) hx hb dX10_isHeldAt_32 (by decide) ?_
        have hw := hw.u1
        obtain e0 := tx_in1 hf
        rw [← e0]
        exact tx_zret S hr hlk (by decide) hw dX10_isHeldAt_36
def f_X10_bestHeld_J47 (fu : Nat) (u_T : S32) (u_B : S32) (K4 : Int32 → Int32 → Int32 → Option (Int32)) (w1 : Int32) (w3 : Int32) (t0 : Int32) : Option (Int32) := tx_let (w3 + (1 : Int32)) fun (y_7 : Int32) => K4 w1 t0 y_7
def f_X10_bestHeld_J4 (fu : Nat) (u_T : S32) (u_B : S32) (K4 : Int32 → Int32 → Int32 → Option (Int32)) (w1 : Int32) (w2 : Int32) (w3 : Int32) : Option (Int32) := if (u_B 0 5) ≤ w3 then (some w2) else (if (12 : Int32) ≤ w3 then (some w2) else (tx_b1 (f_X10_isHeldAt fu u_T u_B w3 w1) fun (r_4 : Int32) => if r_4 = (0 : Int32) then (f_X10_bestHeld_J47 fu u_T u_B K4 w1 w3 w2) else (tx_ck w3 12 <| f_X10_bestHeld_J47 fu u_T u_B K4 w1 w3 (if w2 < (u_B 8 w3.toNatClampNeg) then (u_B 8 w3.toNatClampNeg) else w2))))
def f_X10_bestHeld_L4 (fu : Nat) (u_T : S32) (u_B : S32) : Nat → Int32 → Int32 → Int32 → Option (Int32)
  | 0 => fun _ _ _ => none
  | n + 1 => f_X10_bestHeld_J4 fu u_T u_B (f_X10_bestHeld_L4 fu u_T u_B n)
def f_X10_bestHeld (fu : Nat) (u_T : S32) (u_B : S32) (x1 : Int32) : Option (Int32) := f_X10_bestHeld_L4 fu u_T u_B fu x1 (0 : Int32) (0 : Int32)
set_option maxHeartbeats 4000000 in
set_option maxRecDepth 100000 in
theorem c_X10_bestHeld {l : Launch} {g : GG} {A : Nat → Prop} {X : va_W} {fu : Nat} {a_T a_B : Nat → Nat} {p_T_16 p_B_17 : Nat} {u_T : S32} {u_B : S32} {x1 : Int32} {r : Int32} (hf : f_X10_bestHeld fu u_T u_B x1 = some r) : MI l yX10_bestHeld cX10_bestHeld 4 (some .int) 2 g A (cl_X10 g a_T (a_B 0) p_T_16 u_T ++ (cl_X0 g a_B p_B_17 u_B ++ X)) [.ref (a_T 0), .int x1] r (cl_X10 g a_T (a_B 0) p_T_16 u_T ++ (cl_X0 g a_B p_B_17 u_B ++ X)) := by
  refine tx_start (av := [.ref (a_T 0), .int x1]) (by decide) (Nat.le_of_ble_eq_true rfl) ?_
  intro p e s m below meth c ls S hr hlk hE hw hl
  have S : CallFix p m c cX10_bestHeld 4 s (List.toArray [.ref (a_T 0), .int x1]) (Cond.code yX10_bestHeld cX10_bestHeld 4 (some .int) :: allW) RX10 := S
  have hx := S.1
  have hb := S.2.1
  have hown := S.2.2.2.1
  have hts : ∀ w ∈ allW, w.before (List.toArray [.ref (a_T 0), .int x1]) s = true := fun w h => S.2.2.2.2 w (List.mem_cons_of_mem _ h)
  have hl : lv_has ls 4 [(0, .ref (a_T 0)), (1, .int x1)] := hl
  have J47 : ∀ {K4 : Int32 → Int32 → Int32 → Option (Int32)} (hK4 : ∀ {w1 : Int32} {w2 : Int32} {w3 : Int32} {H : Heap} {locs : List Loc} {ls : Array Slot}, K4 w1 w2 w3 = some r → WD g A s.heap (cl_X10 g a_T (a_B 0) p_T_16 u_T ++ (cl_X0 g a_B p_B_17 u_B ++ X)) H locs → lv_has ls 4 [(0, .ref (a_T 0)), (1, .int w1), (2, .int w2), (3, .int w3)] → W p l e (rmH 2) s m (List.toArray [.ref (a_T 0), .int x1]) below meth c H locs 0 0 (MQ below (va_Qi (fun r2 (_ : Unit) => r2 = r) (fun _ t => POST g A (cl_X10 g a_T (a_B 0) p_T_16 u_T ++ (cl_X0 g a_B p_B_17 u_B ++ X)) t) A) (List.toArray [.ref (a_T 0), .int x1]) s 0 0 A) (F0 m 4 ls [])), ∀ {w1 : Int32} {w3 : Int32} {t0 : Int32} {H : Heap} {locs : List Loc} {ls : Array Slot}, f_X10_bestHeld_J47 fu u_T u_B K4 w1 w3 t0 = some r → WD g A s.heap (cl_X10 g a_T (a_B 0) p_T_16 u_T ++ (cl_X0 g a_B p_B_17 u_B ++ X)) H locs → lv_has ls 4 [(0, .ref (a_T 0)), (1, .int w1), (3, .int w3)] → W p l e (rmH 2) s m (List.toArray [.ref (a_T 0), .int x1]) below meth c H locs 0 0 (MQ below (va_Qi (fun r2 (_ : Unit) => r2 = r) (fun _ t => POST g A (cl_X10 g a_T (a_B 0) p_T_16 u_T ++ (cl_X0 g a_B p_B_17 u_B ++ X)) t) A) (List.toArray [.ref (a_T 0), .int x1]) s 0 0 A) (F0 m 47 ls [.int t0]) := by
    intro K4 hK4 w1 w3 t0 H locs ls hf hw hl
    unfold f_X10_bestHeld_J47 at hf
    refine lv_istore_n (lv' := [(2, .int t0), (0, .ref (a_T 0)), (1, .int w1), (3, .int w3)]) hx hb dX10_bestHeld_47 rfl hl (by decide) rfl (fun ls hl => ?_)
    obtain ⟨y_7, ey_7⟩ : ∃ y : Int32, y = w3 + (1 : Int32) := ⟨_, rfl⟩
    replace hf := tx_let_e hf ey_7
    refine lv_iinc (v := y_7) (lv' := [(3, .int y_7), (2, .int t0), (0, .ref (a_T 0)), (1, .int w1)]) hx hb dX10_bestHeld_48 hl (k := 3) rfl (by rw [ey_7]; rfl) (by decide) rfl (fun ls hl => ?_)
    refine lv_goto (tgt := 4) hx hb dX10_bestHeld_51 (by decide) ?_
    exact hK4 hf hw (lv_sub hl [2, 3, 1, 0] rfl)
  have J4 : ∀ {K4 : Int32 → Int32 → Int32 → Option (Int32)} (hK4 : ∀ {w1 : Int32} {w2 : Int32} {w3 : Int32} {H : Heap} {locs : List Loc} {ls : Array Slot}, K4 w1 w2 w3 = some r → WD g A s.heap (cl_X10 g a_T (a_B 0) p_T_16 u_T ++ (cl_X0 g a_B p_B_17 u_B ++ X)) H locs → lv_has ls 4 [(0, .ref (a_T 0)), (1, .int w1), (2, .int w2), (3, .int w3)] → W p l e (rmH 2) s m (List.toArray [.ref (a_T 0), .int x1]) below meth c H locs 0 0 (MQ below (va_Qi (fun r2 (_ : Unit) => r2 = r) (fun _ t => POST g A (cl_X10 g a_T (a_B 0) p_T_16 u_T ++ (cl_X0 g a_B p_B_17 u_B ++ X)) t) A) (List.toArray [.ref (a_T 0), .int x1]) s 0 0 A) (F0 m 4 ls [])), ∀ {w1 : Int32} {w2 : Int32} {w3 : Int32} {H : Heap} {locs : List Loc} {ls : Array Slot}, f_X10_bestHeld_J4 fu u_T u_B K4 w1 w2 w3 = some r → WD g A s.heap (cl_X10 g a_T (a_B 0) p_T_16 u_T ++ (cl_X0 g a_B p_B_17 u_B ++ X)) H locs → lv_has ls 4 [(0, .ref (a_T 0)), (1, .int w1), (2, .int w2), (3, .int w3)] → W p l e (rmH 2) s m (List.toArray [.ref (a_T 0), .int x1]) below meth c H locs 0 0 (MQ below (va_Qi (fun r2 (_ : Unit) => r2 = r) (fun _ t => POST g A (cl_X10 g a_T (a_B 0) p_T_16 u_T ++ (cl_X0 g a_B p_B_17 u_B ++ X)) t) A) (List.toArray [.ref (a_T 0), .int x1]) s 0 0 A) (F0 m 4 ls []) := by
    intro K4 hK4 w1 w2 w3 H locs ls hf hw hl
    unfold f_X10_bestHeld_J4 at hf
    refine lv_iload_n hx hb dX10_bestHeld_4 rfl (lv_at hl 3 rfl) ?_
    refine lv_aload_n hx hb dX10_bestHeld_5 rfl (lv_at hl 0 rfl) ?_
    refine gf_X10_49 S hE hw 0 rfl rfl dX10_bestHeld_6 ?_
    refine gf_X10_117 S hE hw 12 rfl rfl dX10_bestHeld_9 ?_
    refine lv_icmp_ge (tgt := 54) hx hb dX10_bestHeld_12 (by decide) (fun h_1 => ?_) (fun h_1 => ?_)
    · replace hf := tx_pos hf h_1
      refine lv_iload_n hx hb dX10_bestHeld_54 rfl (lv_at hl 2 rfl) ?_
      obtain e0 := tx_in1 hf
      rw [← e0]
      exact tx_iret S hr hlk hw dX10_bestHeld_55
    · replace hf := tx_neg hf h_1
      refine lv_iload_n hx hb dX10_bestHeld_15 rfl (lv_at hl 3 rfl) ?_
      refine lv_bipush (v := 12) hx hb dX10_bestHeld_16 (by decide) ?_
      refine lv_icmp_ge (tgt := 54) hx hb dX10_bestHeld_18 (by decide) (fun h_2 => ?_) (fun h_2 => ?_)
      · replace hf := tx_pos hf h_2
        refine lv_iload_n hx hb dX10_bestHeld_54 rfl (lv_at hl 2 rfl) ?_
        obtain e0 := tx_in1 hf
        rw [← e0]
        exact tx_iret S hr hlk hw dX10_bestHeld_55
      · replace hf := tx_neg hf h_2
        refine lv_aload_n hx hb dX10_bestHeld_21 rfl (lv_at hl 0 rfl) ?_
        refine lv_iload_n hx hb dX10_bestHeld_22 rfl (lv_at hl 3 rfl) ?_
        refine lv_iload_n hx hb dX10_bestHeld_23 rfl (lv_at hl 1 rfl) ?_
        obtain ⟨r_4, h_3, hf⟩ := tx_b1_e hf
        refine tx_ci hw (tx_runV S hE hw (c_X10_isHeldAt h_3) lk_X10_133 (q0 := 0) rfl rfl rfl hl.1 (rest := []) rfl (Nat.le_of_ble_eq_true rfl) ⟨by decide, by decide⟩ dX10_bestHeld_24 ⟨Nat.zero_le _, Nat.zero_le _⟩) (fun H locs hw => ?_)
        refine lv_if_eq (tgt := 46) hx hb dX10_bestHeld_27 (by decide) (fun h_5 => ?_) (fun h_5 => ?_)
        · replace hf := tx_pos hf h_5
          refine lv_iload_n hx hb dX10_bestHeld_46 rfl (lv_at hl 2 rfl) ?_
          exact J47 hK4 hf hw (lv_sub hl [0, 1, 3] rfl)
        · replace hf := tx_neg hf h_5
          refine lv_iload_n hx hb dX10_bestHeld_30 rfl (lv_at hl 2 rfl) ?_
          refine lv_aload_n hx hb dX10_bestHeld_31 rfl (lv_at hl 0 rfl) ?_
          refine gf_X10_49 S hE hw 0 rfl rfl dX10_bestHeld_32 ?_
          refine gf_X10_141 S hE hw 12 rfl rfl dX10_bestHeld_35 ?_
          refine lv_iload_n hx hb dX10_bestHeld_38 rfl (lv_at hl 3 rfl) ?_
          obtain ⟨h_6, hf⟩ := tx_ck_e hf
          refine tx_iald S hE hw 17 rfl h_6 dX10_bestHeld_39 ?_
          refine tx_mmax S kw_798 hl.1 (by decide) (Nat.le_of_ble_eq_true rfl) ⟨Nat.zero_le _, Nat.zero_le _⟩ dX10_bestHeld_40 ?_
          refine lv_goto (tgt := 47) hx hb dX10_bestHeld_43 (by decide) ?_
          exact J47 hK4 hf hw (lv_sub hl [0, 1, 3] rfl)
  have L4 : ∀ (n : Nat), ∀ {w1 : Int32} {w2 : Int32} {w3 : Int32} {H : Heap} {locs : List Loc} {ls : Array Slot}, f_X10_bestHeld_L4 fu u_T u_B n w1 w2 w3 = some r → WD g A s.heap (cl_X10 g a_T (a_B 0) p_T_16 u_T ++ (cl_X0 g a_B p_B_17 u_B ++ X)) H locs → lv_has ls 4 [(0, .ref (a_T 0)), (1, .int w1), (2, .int w2), (3, .int w3)] → W p l e (rmH 2) s m (List.toArray [.ref (a_T 0), .int x1]) below meth c H locs 0 0 (MQ below (va_Qi (fun r2 (_ : Unit) => r2 = r) (fun _ t => POST g A (cl_X10 g a_T (a_B 0) p_T_16 u_T ++ (cl_X0 g a_B p_B_17 u_B ++ X)) t) A) (List.toArray [.ref (a_T 0), .int x1]) s 0 0 A) (F0 m 4 ls []) := by
    intro  n
    induction n with
    | zero => intro w1 w2 w3 H locs ls hf; exact absurd hf (by intro q; cases q)
    | succ n ih => exact fun hf hw hl => J4 ih hf hw hl
  unfold f_X10_bestHeld at hf
  refine lv_iconst (v := 0) hx hb dX10_bestHeld_0 (by decide) ?_
  refine lv_istore_n (lv' := [(2, .int (0 : Int32)), (0, .ref (a_T 0)), (1, .int x1)]) hx hb dX10_bestHeld_1 rfl hl (by decide) rfl (fun ls hl => ?_)
  refine lv_iconst (v := 0) hx hb dX10_bestHeld_2 (by decide) ?_
  refine lv_istore_n (lv' := [(3, .int (0 : Int32)), (2, .int (0 : Int32)), (0, .ref (a_T 0)), (1, .int x1)]) hx hb dX10_bestHeld_3 rfl hl (by decide) rfl (fun ls hl => ?_)
  exact L4 fu hf hw (lv_sub hl [2, 3, 1, 0] rfl)
