def f_X10_reads_J48 (fu : Nat) (u_B : S32) (u_L : S32) (u_T : S32) (v_L : S64) (v_N : S64) (w4 : Int32) : Option (Int32 × S32 × S64 × S64) := if w4 = (100 : Int32) then (some ((1 : Int32), u_T, v_L, v_N)) else (some ((0 : Int32), u_T, v_L, v_N))
def f_X10_reads (fu : Nat) (u_B : S32) (u_L : S32) (u_T : S32) (v_L : S64) (v_N : S64) (x1 : Int32) (x2 : Int32) (x3 : Int32) : Option (Int32 × S32 × S64 × S64) := tx_b1 (f_X10_knowsTongue fu u_T u_B x1 x2) fun (r_2 : Int32) => if r_2 = (0 : Int32) then (some ((0 : Int32), u_T, v_L, v_N)) else (tx_b3 (f_X10_readOf fu u_T u_B u_L v_L v_N x2 x1) fun (r_5 : Int32) (v_L_6 : S64) (v_N_7 : S64) => if x3 = (0 : Int32) then (if r_5 < (50 : Int32) then (some ((0 : Int32), u_T, v_L_6, v_N_7)) else (some ((1 : Int32), u_T, v_L_6, v_N_7))) else (if r_5 = (0 : Int32) then (f_X10_reads_J48 fu u_B u_L u_T v_L_6 v_N_7 r_5) else (if r_5 = (100 : Int32) then (f_X10_reads_J48 fu u_B u_L u_T v_L_6 v_N_7 r_5) else (tx_b2 (f_X10_draw fu u_T) fun (r_12 : Int32) (u_T_13 : S32) => if r_5 ≤ (r_12 - r_12 / (100 : Int32) * (100 : Int32)) then (some ((0 : Int32), u_T_13, v_L_6, v_N_7)) else (some ((1 : Int32), u_T_13, v_L_6, v_N_7))))))
set_option maxHeartbeats 4000000 in
set_option maxRecDepth 100000 in
theorem c_X10_reads {l : Launch} {g : GG} {A : Nat → Prop} {X : va_W} {fu : Nat} {a_T a_B a_L a_N : Nat → Nat} {u_T : S32} {u_B : S32} {u_L : S32} {v_L : S64} {v_N : S64} {x1 : Int32} {x2 : Int32} {x3 : Int32} {r : Int32} {zu_T : S32} {zv_L : S64} {zv_N : S64} (hf : f_X10_reads fu u_B u_L u_T v_L v_N x1 x2 x3 = some (r, zu_T, zv_L, zv_N)) : MI l yX10_reads cX10_reads 5 (some .boolean) 3 g A (cl_X10 g a_T (a_B 0) (a_N 0) u_T ++ (cl_X0 g a_B (a_L 0) u_B ++ (cl_X5 g a_L u_L v_L ++ (cl_N g a_N v_N ++ X)))) [.ref (a_T 0), .int x1, .int x2, .int x3] r (cl_X10 g a_T (a_B 0) (a_N 0) zu_T ++ (cl_X0 g a_B (a_L 0) u_B ++ (cl_X5 g a_L u_L zv_L ++ (cl_N g a_N zv_N ++ X)))) := by
  refine tx_start (av := [.ref (a_T 0), .int x1, .int x2, .int x3]) (by decide) (Nat.le_of_ble_eq_true rfl) ?_
  intro p e s m below meth c ls S hr hlk hE hw hl
  have S : CallFix p m c cX10_reads 5 s (List.toArray [.ref (a_T 0), .int x1, .int x2, .int x3]) (Cond.code yX10_reads cX10_reads 5 (some .boolean) :: allW) RX10 := S
  have hx := S.1
  have hb := S.2.1
  have hown := S.2.2.2.1
  have hts : ∀ w ∈ allW, w.before (List.toArray [.ref (a_T 0), .int x1, .int x2, .int x3]) s = true := fun w h => S.2.2.2.2 w (List.mem_cons_of_mem _ h)
  have hl : lv_has ls 5 [(0, .ref (a_T 0)), (1, .int x1), (2, .int x2), (3, .int x3)] := hl
  have J48 : ∀ {u_T : S32} {v_L : S64} {v_N : S64} {w4 : Int32} {H : Heap} {locs : List Loc} {ls : Array Slot}, f_X10_reads_J48 fu u_B u_L u_T v_L v_N w4 = some (r, zu_T, zv_L, zv_N) → WD g A s.heap (cl_X10 g a_T (a_B 0) (a_N 0) u_T ++ (cl_X0 g a_B (a_L 0) u_B ++ (cl_X5 g a_L u_L v_L ++ (cl_N g a_N v_N ++ X)))) H locs → lv_has ls 5 [(4, .int w4)] → W p l e (rmH 3) s m (List.toArray [.ref (a_T 0), .int x1, .int x2, .int x3]) below meth c H locs 0 0 (MQ below (va_Qi (fun r2 (_ : Unit) => r2 = r) (fun _ t => POST g A (cl_X10 g a_T (a_B 0) (a_N 0) zu_T ++ (cl_X0 g a_B (a_L 0) u_B ++ (cl_X5 g a_L u_L zv_L ++ (cl_N g a_N zv_N ++ X)))) t) A) (List.toArray [.ref (a_T 0), .int x1, .int x2, .int x3]) s 0 0 A) (F0 m 48 ls []) := by
    intro u_T v_L v_N w4 H locs ls hf hw hl
    unfold f_X10_reads_J48 at hf
    refine lv_iload hx hb dX10_reads_48 (lv_at hl 0 rfl) ?_
    refine lv_bipush (v := 100) hx hb dX10_reads_50 (by decide) ?_
    refine lv_icmp_ne (tgt := 59) hx hb dX10_reads_52 (by decide) (fun h_16 => ?_) (fun h_16 => ?_)
    · replace hf := tx_neg hf h_16
      refine lv_iconst (v := 0) hx hb dX10_reads_59 (by decide) ?_
      obtain ⟨e0, e1, e2, e3⟩ := tx_in4 hf
      rw [← e0, ← e1, ← e2, ← e3]
      exact tx_zret S hr hlk (by decide) hw dX10_reads_60
    · replace hf := tx_pos hf h_16
      refine lv_iconst (v := 1) hx hb dX10_reads_55 (by decide) ?_
      refine lv_goto (tgt := 60) hx hb dX10_reads_56 (by decide) ?_
      obtain ⟨e0, e1, e2, e3⟩ := tx_in4 hf
      rw [← e0, ← e1, ← e2, ← e3]
      exact tx_zret S hr hlk (by decide) hw dX10_reads_60
  unfold f_X10_reads at hf
  refine lv_aload_n hx hb dX10_reads_0 rfl (lv_at hl 0 rfl) ?_
  refine lv_iload_n hx hb dX10_reads_1 rfl (lv_at hl 1 rfl) ?_
  refine lv_iload_n hx hb dX10_reads_2 rfl (lv_at hl 2 rfl) ?_
  obtain ⟨r_2, h_1, hf⟩ := tx_b1_e hf
  refine tx_ci hw (tx_runV S hE hw (c_X10_knowsTongue h_1) lk_X10_151 (q0 := 0) rfl rfl rfl hl.1 (rest := []) rfl (Nat.le_of_ble_eq_true rfl) ⟨by decide, by decide⟩ dX10_reads_3 ⟨Nat.zero_le _, Nat.zero_le _⟩) (fun H locs hw => ?_)
  refine lv_if_ne (tgt := 11) hx hb dX10_reads_6 (by decide) (fun h_3 => ?_) (fun h_3 => ?_)
  · replace hf := tx_neg hf h_3
    refine lv_aload_n hx hb dX10_reads_11 rfl (lv_at hl 0 rfl) ?_
    refine lv_iload_n hx hb dX10_reads_12 rfl (lv_at hl 2 rfl) ?_
    refine lv_iload_n hx hb dX10_reads_13 rfl (lv_at hl 1 rfl) ?_
    obtain ⟨r_5, v_L_6, v_N_7, h_4, hf⟩ := tx_b3_e hf
    refine tx_ci hw (tx_runV S hE hw (c_X10_readOf h_4) lk_X10_154 (q0 := 0) rfl rfl rfl hl.1 (rest := []) rfl (Nat.le_of_ble_eq_true rfl) ⟨by decide, by decide⟩ dX10_reads_14 ⟨Nat.zero_le _, Nat.zero_le _⟩) (fun H locs hw => ?_)
    refine lv_istore (lv' := [(4, .int r_5), (0, .ref (a_T 0)), (1, .int x1), (2, .int x2), (3, .int x3)]) hx hb dX10_reads_17 hl (by decide) rfl (fun ls hl => ?_)
    refine lv_iload_n hx hb dX10_reads_19 rfl (lv_at hl 4 rfl) ?_
    refine lv_if_ne (tgt := 36) hx hb dX10_reads_20 (by decide) (fun h_8 => ?_) (fun h_8 => ?_)
    · replace hf := tx_neg hf h_8
      refine lv_iload hx hb dX10_reads_36 (lv_at hl 0 rfl) ?_
      refine lv_if_eq (tgt := 48) hx hb dX10_reads_38 (by decide) (fun h_9 => ?_) (fun h_9 => ?_)
      · replace hf := tx_pos hf h_9
        exact J48 hf hw (lv_sub hl [0] rfl)
      · replace hf := tx_neg hf h_9
        refine lv_iload hx hb dX10_reads_41 (lv_at hl 0 rfl) ?_
        refine lv_bipush (v := 100) hx hb dX10_reads_43 (by decide) ?_
        refine lv_icmp_ne (tgt := 61) hx hb dX10_reads_45 (by decide) (fun h_10 => ?_) (fun h_10 => ?_)
        · replace hf := tx_neg hf h_10
          refine lv_iload hx hb dX10_reads_61 (lv_at hl 0 rfl) ?_
          refine lv_aload_n hx hb dX10_reads_63 rfl (lv_at hl 1 rfl) ?_
          obtain ⟨r_12, u_T_13, h_11, hf⟩ := tx_b2_e hf
          refine tx_ci hw (tx_runV S hE hw (c_X10_draw h_11) lk_X10_157 (q0 := 0) rfl rfl rfl hl.1 (rest := [.int r_5]) rfl (Nat.le_of_ble_eq_true rfl) ⟨by decide, by decide⟩ dX10_reads_64 ⟨Nat.zero_le _, Nat.zero_le _⟩) (fun H locs hw => ?_)
          refine lv_bipush (v := 100) hx hb dX10_reads_67 (by decide) ?_
          refine lv_irem hx hb dX10_reads_69 (by decide) ?_
          refine lv_icmp_le (tgt := 77) hx hb dX10_reads_70 (by decide) (fun h_14 => ?_) (fun h_14 => ?_)
          · replace hf := tx_pos hf h_14
            refine lv_iconst (v := 0) hx hb dX10_reads_77 (by decide) ?_
            obtain ⟨e0, e1, e2, e3⟩ := tx_in4 hf
            rw [← e0, ← e1, ← e2, ← e3]
            exact tx_zret S hr hlk (by decide) hw dX10_reads_78
          · replace hf := tx_neg hf h_14
            refine lv_iconst (v := 1) hx hb dX10_reads_73 (by decide) ?_
            refine lv_goto (tgt := 78) hx hb dX10_reads_74 (by decide) ?_
            obtain ⟨e0, e1, e2, e3⟩ := tx_in4 hf
            rw [← e0, ← e1, ← e2, ← e3]
            exact tx_zret S hr hlk (by decide) hw dX10_reads_78
        · replace hf := tx_pos hf h_10
          exact J48 hf hw (lv_sub hl [0] rfl)
    · replace hf := tx_pos hf h_8
      refine lv_iload hx hb dX10_reads_23 (lv_at hl 0 rfl) ?_
      refine lv_bipush (v := 50) hx hb dX10_reads_25 (by decide) ?_
      refine lv_icmp_lt (tgt := 34) hx hb dX10_reads_27 (by decide) (fun h_15 => ?_) (fun h_15 => ?_)
      · replace hf := tx_pos hf h_15
        refine lv_iconst (v := 0) hx hb dX10_reads_34 (by decide) ?_
        obtain ⟨e0, e1, e2, e3⟩ := tx_in4 hf
        rw [← e0, ← e1, ← e2, ← e3]
        exact tx_zret S hr hlk (by decide) hw dX10_reads_35
      · replace hf := tx_neg hf h_15
        refine lv_iconst (v := 1) hx hb dX10_reads_30 (by decide) ?_
        refine lv_goto (tgt := 35) hx hb dX10_reads_31 (by decide) ?_
        obtain ⟨e0, e1, e2, e3⟩ := tx_in4 hf
        rw [← e0, ← e1, ← e2, ← e3]
        exact tx_zret S hr hlk (by decide) hw dX10_reads_35
  · replace hf := tx_pos hf h_3
    refine lv_iconst (v := 0) hx hb dX10_reads_9 (by decide) ?_
    obtain ⟨e0, e1, e2, e3⟩ := tx_in4 hf
    rw [← e0, ← e1, ← e2, ← e3]
    exact tx_zret S hr hlk (by decide) hw dX10_reads_10
def f_X10_dueOf_J90 (fu : Nat) (u_B : S32) (u_L : S32) (u_T : S32) (v_L : S64) (v_N : S64) (t0 : Int64) : Option (Int32 × S32 × S64 × S64) := tx_b1 (f_X10_within fu t0 (999 : Int32)) fun (r_14 : Int32) => some (r_14, u_T, v_L, v_N)
def f_X10_dueOf_J62 (fu : Nat) (u_B : S32) (u_L : S32) (u_T : S32) (v_L : S64) (v_N : S64) (w3 : Int32) (w4 : Int64) (t1 : Int32) (t2 : Int32) : Option (Int32 × S32 × S64 × S64) := tx_bz (t1 ||| t2) <| tx_let (up2 u_T 0 15 (t1 ||| t2)) fun (u_T_11 : S32) => if (lg_cmp w4 (-9223372036854775808 : Int64)) = (0 : Int32) then (f_X10_dueOf_J90 fu u_B u_L u_T_11 v_L v_N (((w3 * (u_T_11 0 2)) / (100 : Int32)).toInt64)) else (f_X10_dueOf_J90 fu u_B u_L u_T_11 v_L v_N w4)
def f_X10_dueOf_J43 (fu : Nat) (u_B : S32) (u_L : S32) (u_T : S32) (v_L : S64) (v_N : S64) (w3 : Int32) (w4 : Int64) : Option (Int32 × S32 × S64 × S64) := if (lg_cmp w4 (-9223372036854775808 : Int64)) = (0 : Int32) then (f_X10_dueOf_J62 fu u_B u_L u_T v_L v_N w3 w4 (u_T 0 15) (1 : Int32)) else (f_X10_dueOf_J62 fu u_B u_L u_T v_L v_N w3 w4 (u_T 0 15) (0 : Int32))
def f_X10_dueOf (fu : Nat) (u_B : S32) (u_L : S32) (u_T : S32) (v_L : S64) (v_N : S64) (x1 : Int32) (x2 : Int32) (x3 : Int32) : Option (Int32 × S32 × S64 × S64) := tx_b1 (f_X5_isTold fu u_L v_L (1 : Int32)) fun (r_2 : Int32) => if r_2 = (0 : Int32) then (f_X10_dueOf_J43 fu u_B u_L u_T v_L v_N x3 (-9223372036854775808 : Int64)) else (tx_b1 (f_X10_nameDoor fu u_T u_B v_N x1 x2 x3) fun (v_N_5 : S64) => tx_b2 (f_X5_work_oNr0 fu u_L v_N_5 v_L (1 : Int32)) fun (r_7 : Int64) (v_L_8 : S64) => f_X10_dueOf_J43 fu u_B u_L u_T v_L_8 v_N_5 x3 r_7)
set_option maxHeartbeats 4000000 in
set_option maxRecDepth 100000 in
theorem c_X10_dueOf {l : Launch} {g : GG} {A : Nat → Prop} {X : va_W} {fu : Nat} {a_T a_B a_L a_N : Nat → Nat} {u_T : S32} {u_B : S32} {u_L : S32} {v_L : S64} {v_N : S64} {x1 : Int32} {x2 : Int32} {x3 : Int32} {r : Int32} {zu_T : S32} {zv_L : S64} {zv_N : S64} (hf : f_X10_dueOf fu u_B u_L u_T v_L v_N x1 x2 x3 = some (r, zu_T, zv_L, zv_N)) : MI l yX10_dueOf cX10_dueOf 6 (some .int) 2 g A (cl_X10 g a_T (a_B 0) (a_N 0) u_T ++ (cl_X0 g a_B (a_L 0) u_B ++ (cl_X5 g a_L u_L v_L ++ (cl_N g a_N v_N ++ X)))) [.ref (a_T 0), .int x1, .int x2, .int x3] r (cl_X10 g a_T (a_B 0) (a_N 0) zu_T ++ (cl_X0 g a_B (a_L 0) u_B ++ (cl_X5 g a_L u_L zv_L ++ (cl_N g a_N zv_N ++ X)))) := by
  refine tx_start (av := [.ref (a_T 0), .int x1, .int x2, .int x3]) (by decide) (Nat.le_of_ble_eq_true rfl) ?_
  intro p e s m below meth c ls S hr hlk hE hw hl
  have S : CallFix p m c cX10_dueOf 6 s (List.toArray [.ref (a_T 0), .int x1, .int x2, .int x3]) (Cond.code yX10_dueOf cX10_dueOf 6 (some .int) :: allW) RX10 := S
  have hx := S.1
  have hb := S.2.1
  have hown := S.2.2.2.1
  have hts : ∀ w ∈ allW, w.before (List.toArray [.ref (a_T 0), .int x1, .int x2, .int x3]) s = true := fun w h => S.2.2.2.2 w (List.mem_cons_of_mem _ h)
  have hl : lv_has ls 6 [(0, .ref (a_T 0)), (1, .int x1), (2, .int x2), (3, .int x3)] := hl
  have J90 : ∀ {u_T : S32} {v_L : S64} {v_N : S64} {t0 : Int64} {H : Heap} {locs : List Loc} {ls : Array Slot}, f_X10_dueOf_J90 fu u_B u_L u_T v_L v_N t0 = some (r, zu_T, zv_L, zv_N) → WD g A s.heap (cl_X10 g a_T (a_B 0) (a_N 0) u_T ++ (cl_X0 g a_B (a_L 0) u_B ++ (cl_X5 g a_L u_L v_L ++ (cl_N g a_N v_N ++ X)))) H locs → lv_has ls 6 [] → W p l e (rmH 2) s m (List.toArray [.ref (a_T 0), .int x1, .int x2, .int x3]) below meth c H locs 0 0 (MQ below (va_Qi (fun r2 (_ : Unit) => r2 = r) (fun _ t => POST g A (cl_X10 g a_T (a_B 0) (a_N 0) zu_T ++ (cl_X0 g a_B (a_L 0) u_B ++ (cl_X5 g a_L u_L zv_L ++ (cl_N g a_N zv_N ++ X)))) t) A) (List.toArray [.ref (a_T 0), .int x1, .int x2, .int x3]) s 0 0 A) (F0 m 90 ls [.long t0]) := by
    intro u_T v_L v_N t0 H locs ls hf hw hl
    unfold f_X10_dueOf_J90 at hf
    refine lv_sipush (v := 999) hx hb dX10_dueOf_90 (by decide) ?_
    obtain ⟨r_14, h_13, hf⟩ := tx_b1_e hf
    refine tx_ci hw (tx_runS S hE hw (c_X10_within h_13) lk_X10_194 rfl hl.1 (rest := []) rfl (Nat.le_of_ble_eq_true rfl) ⟨by decide, by decide⟩ dX10_dueOf_93 ⟨Nat.zero_le _, Nat.zero_le _⟩) (fun H locs hw => ?_)
    obtain ⟨e0, e1, e2, e3⟩ := tx_in4 hf
    rw [← e0, ← e1, ← e2, ← e3]
    exact tx_iret S hr hlk hw dX10_dueOf_96
  have J62 : ∀ {u_T : S32} {v_L : S64} {v_N : S64} {w3 : Int32} {w4 : Int64} {t1 : Int32} {t2 : Int32} {H : Heap} {locs : List Loc} {ls : Array Slot}, f_X10_dueOf_J62 fu u_B u_L u_T v_L v_N w3 w4 t1 t2 = some (r, zu_T, zv_L, zv_N) → WD g A s.heap (cl_X10 g a_T (a_B 0) (a_N 0) u_T ++ (cl_X0 g a_B (a_L 0) u_B ++ (cl_X5 g a_L u_L v_L ++ (cl_N g a_N v_N ++ X)))) H locs → lv_has ls 6 [(0, .ref (a_T 0)), (3, .int w3), (4, .long w4)] → W p l e (rmH 2) s m (List.toArray [.ref (a_T 0), .int x1, .int x2, .int x3]) below meth c H locs 0 0 (MQ below (va_Qi (fun r2 (_ : Unit) => r2 = r) (fun _ t => POST g A (cl_X10 g a_T (a_B 0) (a_N 0) zu_T ++ (cl_X0 g a_B (a_L 0) u_B ++ (cl_X5 g a_L u_L zv_L ++ (cl_N g a_N zv_N ++ X)))) t) A) (List.toArray [.ref (a_T 0), .int x1, .int x2, .int x3]) s 0 0 A) (F0 m 62 ls [.int t2, .int t1, .ref (a_T 0)]) := by
    intro u_T v_L v_N w3 w4 t1 t2 H locs ls hf hw hl
    unfold f_X10_dueOf_J62 at hf
    refine lv_ior hx hb dX10_dueOf_62 ?_
    obtain ⟨h_10, hf⟩ := tx_bz_e hf
    obtain ⟨u_T_11, eu_T_11⟩ : ∃ z : S32, z = up2 u_T 0 15 (t1 ||| t2) := ⟨_, rfl⟩
    replace hf := tx_let_e hf eu_T_11
    refine pf_X10_198 (ws' := cl_X10 g a_T (a_B 0) (a_N 0) u_T_11 ++ (cl_X0 g a_B (a_L 0) u_B ++ (cl_X5 g a_L u_L v_L ++ (cl_N g a_N v_N ++ X)))) S hE hw (tx_bz_n h_10) (tx_bz_f h_10) 0 rfl (Nat.le_of_ble_eq_true rfl) (by rw [eu_T_11]; rfl) dX10_dueOf_63 (fun H locs hw => ?_)
    refine lv_lload hx hb dX10_dueOf_66 (lv_at hl 2 rfl) ?_
    refine lv_ldc2 (v := -9223372036854775808) hx hb hown (hts _ kw_755) dX10_dueOf_68 ?_
    refine W.lcmp hx hb dX10_dueOf_71 ?_
    refine lv_if_ne (tgt := 88) hx hb dX10_dueOf_72 (by decide) (fun h_12 => ?_) (fun h_12 => ?_)
    · replace hf := tx_neg hf h_12
      refine lv_lload hx hb dX10_dueOf_88 (lv_at hl 2 rfl) ?_
      exact J90 hf hw (lv_sub hl [] rfl)
    · replace hf := tx_pos hf h_12
      refine lv_iload_n hx hb dX10_dueOf_75 rfl (lv_at hl 1 rfl) ?_
      refine lv_aload_n hx hb dX10_dueOf_76 rfl (lv_at hl 0 rfl) ?_
      refine gf_X10_62 S hE hw 0 rfl rfl dX10_dueOf_77 ?_
      refine lv_imul hx hb dX10_dueOf_80 ?_
      refine lv_bipush (v := 100) hx hb dX10_dueOf_81 (by decide) ?_
      refine lv_idiv hx hb dX10_dueOf_83 (by decide) ?_
      refine lv_i2l (v := ((w3 * (u_T_11 0 2)) / (100 : Int32)).toInt64) hx hb dX10_dueOf_84 rfl ?_
      refine lv_goto (tgt := 90) hx hb dX10_dueOf_85 (by decide) ?_
      exact J90 hf hw (lv_sub hl [] rfl)
  have J43 : ∀ {u_T : S32} {v_L : S64} {v_N : S64} {w3 : Int32} {w4 : Int64} {H : Heap} {locs : List Loc} {ls : Array Slot}, f_X10_dueOf_J43 fu u_B u_L u_T v_L v_N w3 w4 = some (r, zu_T, zv_L, zv_N) → WD g A s.heap (cl_X10 g a_T (a_B 0) (a_N 0) u_T ++ (cl_X0 g a_B (a_L 0) u_B ++ (cl_X5 g a_L u_L v_L ++ (cl_N g a_N v_N ++ X)))) H locs → lv_has ls 6 [(0, .ref (a_T 0)), (3, .int w3), (4, .long w4)] → W p l e (rmH 2) s m (List.toArray [.ref (a_T 0), .int x1, .int x2, .int x3]) below meth c H locs 0 0 (MQ below (va_Qi (fun r2 (_ : Unit) => r2 = r) (fun _ t => POST g A (cl_X10 g a_T (a_B 0) (a_N 0) zu_T ++ (cl_X0 g a_B (a_L 0) u_B ++ (cl_X5 g a_L u_L zv_L ++ (cl_N g a_N zv_N ++ X)))) t) A) (List.toArray [.ref (a_T 0), .int x1, .int x2, .int x3]) s 0 0 A) (F0 m 43 ls []) := by
    intro u_T v_L v_N w3 w4 H locs ls hf hw hl
    unfold f_X10_dueOf_J43 at hf
    refine lv_aload_n hx hb dX10_dueOf_43 rfl (lv_at hl 0 rfl) ?_
    refine lv_dup hx hb dX10_dueOf_44 rfl ?_
    refine gf_X10_198 S hE hw 0 rfl rfl dX10_dueOf_45 ?_
    refine lv_lload hx hb dX10_dueOf_48 (lv_at hl 2 rfl) ?_
    refine lv_ldc2 (v := -9223372036854775808) hx hb hown (hts _ kw_755) dX10_dueOf_50 ?_
    refine W.lcmp hx hb dX10_dueOf_53 ?_
    refine lv_if_ne (tgt := 61) hx hb dX10_dueOf_54 (by decide) (fun h_9 => ?_) (fun h_9 => ?_)
    · replace hf := tx_neg hf h_9
      refine lv_iconst (v := 0) hx hb dX10_dueOf_61 (by decide) ?_
      exact J62 hf hw (lv_sub hl [0, 1, 2] rfl)
    · replace hf := tx_pos hf h_9
      refine lv_iconst (v := 1) hx hb dX10_dueOf_57 (by decide) ?_
      refine lv_goto (tgt := 62) hx hb dX10_dueOf_58 (by decide) ?_
      exact J62 hf hw (lv_sub hl [0, 1, 2] rfl)
  unfold f_X10_dueOf at hf
  refine lv_ldc2 (v := -9223372036854775808) hx hb hown (hts _ kw_755) dX10_dueOf_0 ?_
  refine lv_lstore (lv' := [(4, .long (-9223372036854775808 : Int64)), (0, .ref (a_T 0)), (1, .int x1), (2, .int x2), (3, .int x3)]) hx hb dX10_dueOf_3 hl (by decide) rfl (fun ls hl => ?_)
  refine lv_aload_n hx hb dX10_dueOf_5 rfl (lv_at hl 1 rfl) ?_
  refine gf_X10_49 S hE hw 0 rfl rfl dX10_dueOf_6 ?_
  refine gf_X10_177 S hE hw 12 rfl rfl dX10_dueOf_9 ?_
  refine lv_iconst (v := 1) hx hb dX10_dueOf_12 (by decide) ?_
  have hw := hw.u2
  obtain ⟨r_2, h_1, hf⟩ := tx_b1_e hf
  refine tx_ci hw (tx_runN S hE hw (c_X5_isTold h_1) lk_X10_181 (q0 := 0) rfl rfl rfl hl.1 (rest := []) rfl (Nat.le_of_ble_eq_true rfl) ⟨by decide, by decide⟩ dX10_dueOf_13 ⟨Nat.zero_le _, Nat.zero_le _⟩) (fun H locs hw => ?_)
  refine lv_if_eq (tgt := 43) hx hb dX10_dueOf_16 (by decide) (fun h_3 => ?_) (fun h_3 => ?_)
  · replace hf := tx_pos hf h_3
    have hw := hw.u3
    have hw := hw.u1
    have hw := hw.u3
    have hw := hw.u3
    exact J43 hf hw (lv_sub hl [1, 4, 0] rfl)
  · replace hf := tx_neg hf h_3
    refine lv_aload_n hx hb dX10_dueOf_19 rfl (lv_at hl 1 rfl) ?_
    refine lv_iload_n hx hb dX10_dueOf_20 rfl (lv_at hl 2 rfl) ?_
    refine lv_iload_n hx hb dX10_dueOf_21 rfl (lv_at hl 3 rfl) ?_
    refine lv_iload_n hx hb dX10_dueOf_22 rfl (lv_at hl 4 rfl) ?_
    have hw := hw.u3
    have hw := hw.u3
    have hw := hw.u3
    obtain ⟨v_N_5, h_4, hf⟩ := tx_b1_e hf
    refine tx_cv hw (tx_runV S hE hw (c_X10_nameDoor h_4) lk_X10_186 (q0 := 0) rfl rfl rfl hl.1 (rest := []) rfl (Nat.le_of_ble_eq_true rfl) ⟨by decide, by decide⟩ dX10_dueOf_23 ⟨Nat.zero_le _, Nat.zero_le _⟩) (fun H locs hw => ?_)
    refine lv_aload_n hx hb dX10_dueOf_26 rfl (lv_at hl 1 rfl) ?_
    refine gf_X10_49 S hE hw 0 rfl rfl dX10_dueOf_27 ?_
    refine gf_X10_177 S hE hw 12 rfl rfl dX10_dueOf_30 ?_
    refine lv_iconst (v := 1) hx hb dX10_dueOf_33 (by decide) ?_
    refine lv_aload_n hx hb dX10_dueOf_34 rfl (lv_at hl 1 rfl) ?_
    refine gf_X10_45 S hE hw 0 rfl rfl dX10_dueOf_35 ?_
    have hw := hw.u2
    have hw := hw.u3
    obtain ⟨r_7, v_L_8, h_6, hf⟩ := tx_b2_e hf
    refine tx_cl hw (tx_runN S hE hw (c_X5_work_oNr0 h_6) lk_X10_190 (q0 := 0) rfl rfl rfl hl.1 (rest := []) rfl (Nat.le_of_ble_eq_true rfl) ⟨by decide, by decide⟩ dX10_dueOf_38 ⟨Nat.zero_le _, Nat.zero_le _⟩) (fun H locs hw => ?_)
    refine lv_lstore (lv' := [(4, .long r_7), (0, .ref (a_T 0)), (1, .int x1), (2, .int x2), (3, .int x3)]) hx hb dX10_dueOf_41 hl (by decide) rfl (fun ls hl => ?_)
    have hw := hw.u1
    have hw := hw.u1
    have hw := hw.u3
    have hw := hw.u3
    exact J43 hf hw (lv_sub hl [1, 4, 0] rfl)
def f_X10_dueAt_J71 (fu : Nat) (u_B : S32) (u_L : S32) (K6 : S32 → S64 → S64 → Int32 → Int32 → Int32 → Int32 → Int32 → Option (Int32 × S32 × S64 × S64)) (u_T : S32) (v_L : S64) (v_N : S64) (w1 : Int32) (w2 : Int32) (w3 : Int32) (w4 : Int32) (w5 : Int32) : Option (Int32 × S32 × S64 × S64) := tx_let (w5 + (1 : Int32)) fun (y_22 : Int32) => K6 u_T v_L v_N w1 w2 w3 w4 y_22
def f_X10_dueAt_J77 (fu : Nat) (u_B : S32) (u_L : S32) (u_T : S32) (v_L : S64) (v_N : S64) (w1 : Int32) (w2 : Int32) (w4 : Int32) : Option (Int32 × S32 × S64 × S64) := if w4 ≤ (0 : Int32) then (some ((0 : Int32), u_T, v_L, v_N)) else (tx_b4 (f_X10_dueOf fu u_B u_L u_T v_L v_N w1 w2 w4) fun (r_18 : Int32) (u_T_19 : S32) (v_L_20 : S64) (v_N_21 : S64) => some (r_18, u_T_19, v_L_20, v_N_21))
def f_X10_dueAt_J6 (fu : Nat) (u_B : S32) (u_L : S32) (K6 : S32 → S64 → S64 → Int32 → Int32 → Int32 → Int32 → Int32 → Option (Int32 × S32 × S64 × S64)) (u_T : S32) (v_L : S64) (v_N : S64) (w1 : Int32) (w2 : Int32) (w3 : Int32) (w4 : Int32) (w5 : Int32) : Option (Int32 × S32 × S64 × S64) := if (u_B 0 5) ≤ w5 then (f_X10_dueAt_J77 fu u_B u_L u_T v_L v_N w1 w2 w4) else (if (12 : Int32) ≤ w5 then (f_X10_dueAt_J77 fu u_B u_L u_T v_L v_N w1 w2 w4) else (tx_b1 (f_X10_isHeldAt fu u_T u_B w5 w1) fun (r_4 : Int32) => if r_4 = (0 : Int32) then (f_X10_dueAt_J71 fu u_B u_L K6 u_T v_L v_N w1 w2 w3 w4 w5) else (tx_b4 (f_X10_reads fu u_B u_L u_T v_L v_N w2 w5 w3) fun (r_7 : Int32) (u_T_8 : S32) (v_L_9 : S64) (v_N_10 : S64) => if r_7 = (0 : Int32) then (f_X10_dueAt_J71 fu u_B u_L K6 u_T_8 v_L_9 v_N_10 w1 w2 w3 w4 w5) else (tx_ck w5 12 <| tx_let (up2 u_T_8 13 w5.toNatClampNeg (1 : Int32)) fun (u_T_13 : S32) => tx_ck w5 12 <| tx_let (if w4 < (u_B 8 w5.toNatClampNeg) then (u_B 8 w5.toNatClampNeg) else w4) fun (y_15 : Int32) => f_X10_dueAt_J71 fu u_B u_L K6 u_T_13 v_L_9 v_N_10 w1 w2 w3 y_15 w5))))
def f_X10_dueAt_L6 (fu : Nat) (u_B : S32) (u_L : S32) : Nat → S32 → S64 → S64 → Int32 → Int32 → Int32 → Int32 → Int32 → Option (Int32 × S32 × S64 × S64)
  | 0 => fun _ _ _ _ _ _ _ _ => none
  | n + 1 => f_X10_dueAt_J6 fu u_B u_L (f_X10_dueAt_L6 fu u_B u_L n)
def f_X10_dueAt (fu : Nat) (u_B : S32) (u_L : S32) (u_T : S32) (v_L : S64) (v_N : S64) (x1 : Int32) (x2 : Int32) (x3 : Int32) : Option (Int32 × S32 × S64 × S64) := f_X10_dueAt_L6 fu u_B u_L fu u_T v_L v_N x1 x2 x3 (0 : Int32) (0 : Int32)
set_option maxHeartbeats 4000000 in
set_option maxRecDepth 100000 in
theorem c_X10_dueAt {l : Launch} {g : GG} {A : Nat → Prop} {X : va_W} {fu : Nat} {a_T a_B a_L a_N : Nat → Nat} {u_T : S32} {u_B : S32} {u_L : S32} {v_L : S64} {v_N : S64} {x1 : Int32} {x2 : Int32} {x3 : Int32} {r : Int32} {zu_T : S32} {zv_L : S64} {zv_N : S64} (hf : f_X10_dueAt fu u_B u_L u_T v_L v_N x1 x2 x3 = some (r, zu_T, zv_L, zv_N)) : MI l yX10_dueAt cX10_dueAt 6 (some .int) 4 g A (cl_X10 g a_T (a_B 0) (a_N 0) u_T ++ (cl_X0 g a_B (a_L 0) u_B ++ (cl_X5 g a_L u_L v_L ++ (cl_N g a_N v_N ++ X)))) [.ref (a_T 0), .int x1, .int x2, .int x3] r (cl_X10 g a_T (a_B 0) (a_N 0) zu_T ++ (cl_X0 g a_B (a_L 0) u_B ++ (cl_X5 g a_L u_L zv_L ++ (cl_N g a_N zv_N ++ X)))) := by
  refine tx_start (av := [.ref (a_T 0), .int x1, .int x2, .int x3]) (by decide) (Nat.le_of_ble_eq_true rfl) ?_
  intro p e s m below meth c ls S hr hlk hE hw hl
  have S : CallFix p m c cX10_dueAt 6 s (List.toArray [.ref (a_T 0), .int x1, .int x2, .int x3]) (Cond.code yX10_dueAt cX10_dueAt 6 (some .int) :: allW) RX10 := S
  have hx := S.1
  have hb := S.2.1
  have hown := S.2.2.2.1
  have hts : ∀ w ∈ allW, w.before (List.toArray [.ref (a_T 0), .int x1, .int x2, .int x3]) s = true := fun w h => S.2.2.2.2 w (List.mem_cons_of_mem _ h)
  have hl : lv_has ls 6 [(0, .ref (a_T 0)), (1, .int x1), (2, .int x2), (3, .int x3)] := hl
  have J71 : ∀ {K6 : S32 → S64 → S64 → Int32 → Int32 → Int32 → Int32 → Int32 → Option (Int32 × S32 × S64 × S64)} (hK6 : ∀ {u_T : S32} {v_L : S64} {v_N : S64} {w1 : Int32} {w2 : Int32} {w3 : Int32} {w4 : Int32} {w5 : Int32} {H : Heap} {locs : List Loc} {ls : Array Slot}, K6 u_T v_L v_N w1 w2 w3 w4 w5 = some (r, zu_T, zv_L, zv_N) → WD g A s.heap (cl_X10 g a_T (a_B 0) (a_N 0) u_T ++ (cl_X0 g a_B (a_L 0) u_B ++ (cl_X5 g a_L u_L v_L ++ (cl_N g a_N v_N ++ X)))) H locs → lv_has ls 6 [(0, .ref (a_T 0)), (1, .int w1), (2, .int w2), (3, .int w3), (4, .int w4), (5, .int w5)] → W p l e (rmH 4) s m (List.toArray [.ref (a_T 0), .int x1, .int x2, .int x3]) below meth c H locs 0 0 (MQ below (va_Qi (fun r2 (_ : Unit) => r2 = r) (fun _ t => POST g A (cl_X10 g a_T (a_B 0) (a_N 0) zu_T ++ (cl_X0 g a_B (a_L 0) u_B ++ (cl_X5 g a_L u_L zv_L ++ (cl_N g a_N zv_N ++ X)))) t) A) (List.toArray [.ref (a_T 0), .int x1, .int x2, .int x3]) s 0 0 A) (F0 m 6 ls [])), ∀ {u_T : S32} {v_L : S64} {v_N : S64} {w1 : Int32} {w2 : Int32} {w3 : Int32} {w4 : Int32} {w5 : Int32} {H : Heap} {locs : List Loc} {ls : Array Slot}, f_X10_dueAt_J71 fu u_B u_L K6 u_T v_L v_N w1 w2 w3 w4 w5 = some (r, zu_T, zv_L, zv_N) → WD g A s.heap (cl_X10 g a_T (a_B 0) (a_N 0) u_T ++ (cl_X0 g a_B (a_L 0) u_B ++ (cl_X5 g a_L u_L v_L ++ (cl_N g a_N v_N ++ X)))) H locs → lv_has ls 6 [(0, .ref (a_T 0)), (1, .int w1), (2, .int w2), (3, .int w3), (4, .int w4), (5, .int w5)] → W p l e (rmH 4) s m (List.toArray [.ref (a_T 0), .int x1, .int x2, .int x3]) below meth c H locs 0 0 (MQ below (va_Qi (fun r2 (_ : Unit) => r2 = r) (fun _ t => POST g A (cl_X10 g a_T (a_B 0) (a_N 0) zu_T ++ (cl_X0 g a_B (a_L 0) u_B ++ (cl_X5 g a_L u_L zv_L ++ (cl_N g a_N zv_N ++ X)))) t) A) (List.toArray [.ref (a_T 0), .int x1, .int x2, .int x3]) s 0 0 A) (F0 m 71 ls []) := by
    intro K6 hK6 u_T v_L v_N w1 w2 w3 w4 w5 H locs ls hf hw hl
    unfold f_X10_dueAt_J71 at hf
    obtain ⟨y_22, ey_22⟩ : ∃ y : Int32, y = w5 + (1 : Int32) := ⟨_, rfl⟩
    replace hf := tx_let_e hf ey_22
    refine lv_iinc (v := y_22) (lv' := [(5, .int y_22), (0, .ref (a_T 0)), (1, .int w1), (2, .int w2), (3, .int w3), (4, .int w4)]) hx hb dX10_dueAt_71 hl (k := 5) rfl (by rw [ey_22]; rfl) (by decide) rfl (fun ls hl => ?_)
    refine lv_goto (tgt := 6) hx hb dX10_dueAt_74 (by decide) ?_
    exact hK6 hf hw (lv_sub hl [1, 2, 3, 4, 5, 0] rfl)
  have J77 : ∀ {u_T : S32} {v_L : S64} {v_N : S64} {w1 : Int32} {w2 : Int32} {w4 : Int32} {H : Heap} {locs : List Loc} {ls : Array Slot}, f_X10_dueAt_J77 fu u_B u_L u_T v_L v_N w1 w2 w4 = some (r, zu_T, zv_L, zv_N) → WD g A s.heap (cl_X10 g a_T (a_B 0) (a_N 0) u_T ++ (cl_X0 g a_B (a_L 0) u_B ++ (cl_X5 g a_L u_L v_L ++ (cl_N g a_N v_N ++ X)))) H locs → lv_has ls 6 [(0, .ref (a_T 0)), (1, .int w1), (2, .int w2), (4, .int w4)] → W p l e (rmH 4) s m (List.toArray [.ref (a_T 0), .int x1, .int x2, .int x3]) below meth c H locs 0 0 (MQ below (va_Qi (fun r2 (_ : Unit) => r2 = r) (fun _ t => POST g A (cl_X10 g a_T (a_B 0) (a_N 0) zu_T ++ (cl_X0 g a_B (a_L 0) u_B ++ (cl_X5 g a_L u_L zv_L ++ (cl_N g a_N zv_N ++ X)))) t) A) (List.toArray [.ref (a_T 0), .int x1, .int x2, .int x3]) s 0 0 A) (F0 m 77 ls []) := by
    intro u_T v_L v_N w1 w2 w4 H locs ls hf hw hl
    unfold f_X10_dueAt_J77 at hf
    refine lv_iload hx hb dX10_dueAt_77 (lv_at hl 3 rfl) ?_
    refine lv_if_le (tgt := 93) hx hb dX10_dueAt_79 (by decide) (fun h_16 => ?_) (fun h_16 => ?_)
    · replace hf := tx_pos hf h_16
      refine lv_iconst (v := 0) hx hb dX10_dueAt_93 (by decide) ?_
      obtain ⟨e0, e1, e2, e3⟩ := tx_in4 hf
      rw [← e0, ← e1, ← e2, ← e3]
      exact tx_iret S hr hlk hw dX10_dueAt_94
    · replace hf := tx_neg hf h_16
      refine lv_aload_n hx hb dX10_dueAt_82 rfl (lv_at hl 0 rfl) ?_
      refine lv_iload_n hx hb dX10_dueAt_83 rfl (lv_at hl 1 rfl) ?_
      refine lv_iload_n hx hb dX10_dueAt_84 rfl (lv_at hl 2 rfl) ?_
      refine lv_iload hx hb dX10_dueAt_85 (lv_at hl 3 rfl) ?_
      obtain ⟨r_18, u_T_19, v_L_20, v_N_21, h_17, hf⟩ := tx_b4_e hf
      refine tx_ci hw (tx_runV S hE hw (c_X10_dueOf h_17) lk_X10_147 (q0 := 0) rfl rfl rfl hl.1 (rest := []) rfl (Nat.le_of_ble_eq_true rfl) ⟨by decide, by decide⟩ dX10_dueAt_87 ⟨Nat.zero_le _, Nat.zero_le _⟩) (fun H locs hw => ?_)
      refine lv_goto (tgt := 94) hx hb dX10_dueAt_90 (by decide) ?_
      obtain ⟨e0, e1, e2, e3⟩ := tx_in4 hf
      rw [← e0, ← e1, ← e2, ← e3]
      exact tx_iret S hr hlk hw dX10_dueAt_94
  have J6 : ∀ {K6 : S32 → S64 → S64 → Int32 → Int32 → Int32 → Int32 → Int32 → Option (Int32 × S32 × S64 × S64)} (hK6 : ∀ {u_T : S32} {v_L : S64} {v_N : S64} {w1 : Int32} {w2 : Int32} {w3 : Int32} {w4 : Int32} {w5 : Int32} {H : Heap} {locs : List Loc} {ls : Array Slot}, K6 u_T v_L v_N w1 w2 w3 w4 w5 = some (r, zu_T, zv_L, zv_N) → WD g A s.heap (cl_X10 g a_T (a_B 0) (a_N 0) u_T ++ (cl_X0 g a_B (a_L 0) u_B ++ (cl_X5 g a_L u_L v_L ++ (cl_N g a_N v_N ++ X)))) H locs → lv_has ls 6 [(0, .ref (a_T 0)), (1, .int w1), (2, .int w2), (3, .int w3), (4, .int w4), (5, .int w5)] → W p l e (rmH 4) s m (List.toArray [.ref (a_T 0), .int x1, .int x2, .int x3]) below meth c H locs 0 0 (MQ below (va_Qi (fun r2 (_ : Unit) => r2 = r) (fun _ t => POST g A (cl_X10 g a_T (a_B 0) (a_N 0) zu_T ++ (cl_X0 g a_B (a_L 0) u_B ++ (cl_X5 g a_L u_L zv_L ++ (cl_N g a_N zv_N ++ X)))) t) A) (List.toArray [.ref (a_T 0), .int x1, .int x2, .int x3]) s 0 0 A) (F0 m 6 ls [])), ∀ {u_T : S32} {v_L : S64} {v_N : S64} {w1 : Int32} {w2 : Int32} {w3 : Int32} {w4 : Int32} {w5 : Int32} {H : Heap} {locs : List Loc} {ls : Array Slot}, f_X10_dueAt_J6 fu u_B u_L K6 u_T v_L v_N w1 w2 w3 w4 w5 = some (r, zu_T, zv_L, zv_N) → WD g A s.heap (cl_X10 g a_T (a_B 0) (a_N 0) u_T ++ (cl_X0 g a_B (a_L 0) u_B ++ (cl_X5 g a_L u_L v_L ++ (cl_N g a_N v_N ++ X)))) H locs → lv_has ls 6 [(0, .ref (a_T 0)), (1, .int w1), (2, .int w2), (3, .int w3), (4, .int w4), (5, .int w5)] → W p l e (rmH 4) s m (List.toArray [.ref (a_T 0), .int x1, .int x2, .int x3]) below meth c H locs 0 0 (MQ below (va_Qi (fun r2 (_ : Unit) => r2 = r) (fun _ t => POST g A (cl_X10 g a_T (a_B 0) (a_N 0) zu_T ++ (cl_X0 g a_B (a_L 0) u_B ++ (cl_X5 g a_L u_L zv_L ++ (cl_N g a_N zv_N ++ X)))) t) A) (List.toArray [.ref (a_T 0), .int x1, .int x2, .int x3]) s 0 0 A) (F0 m 6 ls []) := by
    intro K6 hK6 u_T v_L v_N w1 w2 w3 w4 w5 H locs ls hf hw hl
    unfold f_X10_dueAt_J6 at hf
    refine lv_iload hx hb dX10_dueAt_6 (lv_at hl 5 rfl) ?_
    refine lv_aload_n hx hb dX10_dueAt_8 rfl (lv_at hl 0 rfl) ?_
    refine gf_X10_49 S hE hw 0 rfl rfl dX10_dueAt_9 ?_
    refine gf_X10_117 S hE hw 12 rfl rfl dX10_dueAt_12 ?_
    refine lv_icmp_ge (tgt := 77) hx hb dX10_dueAt_15 (by decide) (fun h_1 => ?_) (fun h_1 => ?_)
    · replace hf := tx_pos hf h_1
      exact J77 hf hw (lv_sub hl [0, 1, 2, 4] rfl)
    · replace hf := tx_neg hf h_1
      refine lv_iload hx hb dX10_dueAt_18 (lv_at hl 5 rfl) ?_
      refine lv_bipush (v := 12) hx hb dX10_dueAt_20 (by decide) ?_
      refine lv_icmp_ge (tgt := 77) hx hb dX10_dueAt_22 (by decide) (fun h_2 => ?_) (fun h_2 => ?_)
      · replace hf := tx_pos hf h_2
        exact J77 hf hw (lv_sub hl [0, 1, 2, 4] rfl)
      · replace hf := tx_neg hf h_2
        refine lv_aload_n hx hb dX10_dueAt_25 rfl (lv_at hl 0 rfl) ?_
        refine lv_iload hx hb dX10_dueAt_26 (lv_at hl 5 rfl) ?_
        refine lv_iload_n hx hb dX10_dueAt_28 rfl (lv_at hl 1 rfl) ?_
        obtain ⟨r_4, h_3, hf⟩ := tx_b1_e hf
        refine tx_ci hw (tx_runV S hE hw (c_X10_isHeldAt h_3) lk_X10_133 (q0 := 0) rfl rfl rfl hl.1 (rest := []) rfl (Nat.le_of_ble_eq_true rfl) ⟨by decide, by decide⟩ dX10_dueAt_29 ⟨Nat.zero_le _, Nat.zero_le _⟩) (fun H locs hw => ?_)
        refine lv_if_eq (tgt := 71) hx hb dX10_dueAt_32 (by decide) (fun h_5 => ?_) (fun h_5 => ?_)
        · replace hf := tx_pos hf h_5
          exact J71 hK6 hf hw (lv_sub hl [0, 1, 2, 3, 4, 5] rfl)
        · replace hf := tx_neg hf h_5
          refine lv_aload_n hx hb dX10_dueAt_35 rfl (lv_at hl 0 rfl) ?_
          refine lv_iload_n hx hb dX10_dueAt_36 rfl (lv_at hl 2 rfl) ?_
          refine lv_iload hx hb dX10_dueAt_37 (lv_at hl 5 rfl) ?_
          refine lv_iload_n hx hb dX10_dueAt_39 rfl (lv_at hl 3 rfl) ?_
          obtain ⟨r_7, u_T_8, v_L_9, v_N_10, h_6, hf⟩ := tx_b4_e hf
          refine tx_ci hw (tx_runV S hE hw (c_X10_reads h_6) lk_X10_137 (q0 := 0) rfl rfl rfl hl.1 (rest := []) rfl (Nat.le_of_ble_eq_true rfl) ⟨by decide, by decide⟩ dX10_dueAt_40 ⟨Nat.zero_le _, Nat.zero_le _⟩) (fun H locs hw => ?_)
          refine lv_if_eq (tgt := 71) hx hb dX10_dueAt_43 (by decide) (fun h_11 => ?_) (fun h_11 => ?_)
          · replace hf := tx_pos hf h_11
            exact J71 hK6 hf hw (lv_sub hl [0, 1, 2, 3, 4, 5] rfl)
          · replace hf := tx_neg hf h_11
            refine lv_aload_n hx hb dX10_dueAt_46 rfl (lv_at hl 0 rfl) ?_
            refine gf_X10_36 S hE hw 0 rfl rfl dX10_dueAt_47 ?_
            refine lv_iload hx hb dX10_dueAt_50 (lv_at hl 5 rfl) ?_
            refine lv_iconst (v := 1) hx hb dX10_dueAt_52 (by decide) ?_
            obtain ⟨h_12, hf⟩ := tx_ck_e hf
            obtain ⟨u_T_13, eu_T_13⟩ : ∃ z : S32, z = up2 u_T_8 13 w5.toNatClampNeg (1 : Int32) := ⟨_, rfl⟩
            replace hf := tx_let_e hf eu_T_13
            refine tx_iast (ws' := cl_X10 g a_T (a_B 0) (a_N 0) u_T_13 ++ (cl_X0 g a_B (a_L 0) u_B ++ (cl_X5 g a_L u_L v_L_9 ++ (cl_N g a_N v_N_10 ++ X)))) S hE hw 9 rfl h_12 (by rw [eu_T_13]; rfl) dX10_dueAt_53 (fun H locs hw => ?_)
            refine lv_iload hx hb dX10_dueAt_54 (lv_at hl 4 rfl) ?_
            refine lv_aload_n hx hb dX10_dueAt_56 rfl (lv_at hl 0 rfl) ?_
            refine gf_X10_49 S hE hw 0 rfl rfl dX10_dueAt_57 ?_
            refine gf_X10_141 S hE hw 12 rfl rfl dX10_dueAt_60 ?_
            refine lv_iload hx hb dX10_dueAt_63 (lv_at hl 5 rfl) ?_
            obtain ⟨h_14, hf⟩ := tx_ck_e hf
            refine tx_iald S hE hw 17 rfl h_14 dX10_dueAt_65 ?_
            refine tx_mmax S kw_798 hl.1 (by decide) (Nat.le_of_ble_eq_true rfl) ⟨Nat.zero_le _, Nat.zero_le _⟩ dX10_dueAt_66 ?_
            refine lv_topi (fun y_15 ey_15 => ?_)
            replace hf := tx_let_e hf ey_15
            refine lv_istore (lv' := [(4, .int y_15), (0, .ref (a_T 0)), (1, .int w1), (2, .int w2), (3, .int w3), (5, .int w5)]) hx hb dX10_dueAt_69 hl (by decide) rfl (fun ls hl => ?_)
            exact J71 hK6 hf hw (lv_sub hl [1, 2, 3, 4, 0, 5] rfl)
  have L6 : ∀ (n : Nat), ∀ {u_T : S32} {v_L : S64} {v_N : S64} {w1 : Int32} {w2 : Int32} {w3 : Int32} {w4 : Int32} {w5 : Int32} {H : Heap} {locs : List Loc} {ls : Array Slot}, f_X10_dueAt_L6 fu u_B u_L n u_T v_L v_N w1 w2 w3 w4 w5 = some (r, zu_T, zv_L, zv_N) → WD g A s.heap (cl_X10 g a_T (a_B 0) (a_N 0) u_T ++ (cl_X0 g a_B (a_L 0) u_B ++ (cl_X5 g a_L u_L v_L ++ (cl_N g a_N v_N ++ X)))) H locs → lv_has ls 6 [(0, .ref (a_T 0)), (1, .int w1), (2, .int w2), (3, .int w3), (4, .int w4), (5, .int w5)] → W p l e (rmH 4) s m (List.toArray [.ref (a_T 0), .int x1, .int x2, .int x3]) below meth c H locs 0 0 (MQ below (va_Qi (fun r2 (_ : Unit) => r2 = r) (fun _ t => POST g A (cl_X10 g a_T (a_B 0) (a_N 0) zu_T ++ (cl_X0 g a_B (a_L 0) u_B ++ (cl_X5 g a_L u_L zv_L ++ (cl_N g a_N zv_N ++ X)))) t) A) (List.toArray [.ref (a_T 0), .int x1, .int x2, .int x3]) s 0 0 A) (F0 m 6 ls []) := by
    intro  n
    induction n with
    | zero => intro u_T v_L v_N w1 w2 w3 w4 w5 H locs ls hf; exact absurd hf (by intro q; cases q)
    | succ n ih => exact fun hf hw hl => J6 ih hf hw hl
  unfold f_X10_dueAt at hf
  refine lv_iconst (v := 0) hx hb dX10_dueAt_0 (by decide) ?_
  refine lv_istore (lv' := [(4, .int (0 : Int32)), (0, .ref (a_T 0)), (1, .int x1), (2, .int x2), (3, .int x3)]) hx hb dX10_dueAt_1 hl (by decide) rfl (fun ls hl => ?_)
  refine lv_iconst (v := 0) hx hb dX10_dueAt_3 (by decide) ?_
  refine lv_istore (lv' := [(5, .int (0 : Int32)), (4, .int (0 : Int32)), (0, .ref (a_T 0)), (1, .int x1), (2, .int x2), (3, .int x3)]) hx hb dX10_dueAt_4 hl (by decide) rfl (fun ls hl => ?_)
  exact L6 fu hf hw (lv_sub hl [2, 3, 4, 5, 1, 0] rfl)
def f_X10_pay (fu : Nat) (u_B : S32) (u_T : S32) (x1 : Int32) (x2 : Int32) : Option (S32) := tx_b1 (f_X0_isMan fu u_B x1) fun (r_2 : Int32) => if r_2 = (0 : Int32) then (some u_T) else (tx_ck x1 6 <| tx_let (if (u_T 5 x1.toNatClampNeg) < x2 then (u_T 5 x1.toNatClampNeg) else x2) fun (y_5 : Int32) => tx_ck x1 6 <| tx_ck x1 6 <| tx_let (up2 u_T 5 x1.toNatClampNeg ((u_T 5 x1.toNatClampNeg) - y_5)) fun (u_T_8 : S32) => tx_ck x1 6 <| tx_ck x1 6 <| tx_let (up2 u_T_8 7 x1.toNatClampNeg ((u_T_8 7 x1.toNatClampNeg) + y_5)) fun (u_T_11 : S32) => tx_ck x1 6 <| tx_ck x1 6 <| tx_let (up2 u_T_11 8 x1.toNatClampNeg ((u_T_11 8 x1.toNatClampNeg) + (x2 - y_5))) fun (u_T_14 : S32) => some u_T_14)
set_option maxHeartbeats 4000000 in
set_option maxRecDepth 100000 in
theorem c_X10_pay {l : Launch} {g : GG} {A : Nat → Prop} {X : va_W} {fu : Nat} {a_T a_B : Nat → Nat} {p_T_16 p_B_17 : Nat} {u_T : S32} {u_B : S32} {x1 : Int32} {x2 : Int32} {zu_T : S32} (hf : f_X10_pay fu u_B u_T x1 x2 = some zu_T) : MV l yX10_pay cX10_pay 4 none 1 g A (cl_X10 g a_T (a_B 0) p_T_16 u_T ++ (cl_X0 g a_B p_B_17 u_B ++ X)) [.ref (a_T 0), .int x1, .int x2] (cl_X10 g a_T (a_B 0) p_T_16 zu_T ++ (cl_X0 g a_B p_B_17 u_B ++ X)) := by
  refine tx_start (av := [.ref (a_T 0), .int x1, .int x2]) (by decide) (Nat.le_of_ble_eq_true rfl) ?_
  intro p e s m below meth c ls S hr hlk hE hw hl
  have S : CallFix p m c cX10_pay 4 s (List.toArray [.ref (a_T 0), .int x1, .int x2]) (Cond.code yX10_pay cX10_pay 4 none :: allW) RX10 := S
  have hx := S.1
  have hb := S.2.1
  have hown := S.2.2.2.1
  have hts : ∀ w ∈ allW, w.before (List.toArray [.ref (a_T 0), .int x1, .int x2]) s = true := fun w h => S.2.2.2.2 w (List.mem_cons_of_mem _ h)
  have hl : lv_has ls 4 [(0, .ref (a_T 0)), (1, .int x1), (2, .int x2)] := hl
  unfold f_X10_pay at hf
  refine lv_aload_n hx hb dX10_pay_0 rfl (lv_at hl 0 rfl) ?_
  refine gf_X10_49 S hE hw 0 rfl rfl dX10_pay_1 ?_
  refine lv_iload_n hx hb dX10_pay_4 rfl (lv_at hl 1 rfl) ?_
  have hw := hw.u1
  obtain ⟨r_2, h_1, hf⟩ := tx_b1_e hf
  refine tx_ci hw (tx_runN S hE hw (c_X0_isMan h_1) lk_X10_126 (q0 := 0) rfl rfl rfl hl.1 (rest := []) rfl (Nat.le_of_ble_eq_true rfl) ⟨by decide, by decide⟩ dX10_pay_5 ⟨Nat.zero_le _, Nat.zero_le _⟩) (fun H locs hw => ?_)
  refine lv_if_eq (tgt := 54) hx hb dX10_pay_8 (by decide) (fun h_3 => ?_) (fun h_3 => ?_)
  · replace hf := tx_pos hf h_3
    have hw := hw.u1
    obtain e0 := tx_in1 hf
    rw [← e0]
    exact tx_vret S hr hlk hw dX10_pay_54
  · replace hf := tx_neg hf h_3
    refine lv_iload_n hx hb dX10_pay_11 rfl (lv_at hl 2 rfl) ?_
    refine lv_aload_n hx hb dX10_pay_12 rfl (lv_at hl 0 rfl) ?_
    refine gf_X10_9 S hE hw 11 rfl rfl dX10_pay_13 ?_
    refine lv_iload_n hx hb dX10_pay_16 rfl (lv_at hl 1 rfl) ?_
    obtain ⟨h_4, hf⟩ := tx_ck_e hf
    refine tx_iald S hE hw 12 rfl h_4 dX10_pay_17 ?_
    refine tx_mmin S kw_838 hl.1 (by decide) (Nat.le_of_ble_eq_true rfl) ⟨Nat.zero_le _, Nat.zero_le _⟩ dX10_pay_18 ?_
    refine lv_topi (fun y_5 ey_5 => ?_)
    replace hf := tx_let_e hf ey_5
    refine lv_istore_n (lv' := [(3, .int y_5), (0, .ref (a_T 0)), (1, .int x1), (2, .int x2)]) hx hb dX10_pay_21 rfl hl (by decide) rfl (fun ls hl => ?_)
    refine lv_aload_n hx hb dX10_pay_22 rfl (lv_at hl 1 rfl) ?_
    refine gf_X10_9 S hE hw 11 rfl rfl dX10_pay_23 ?_
    refine lv_iload_n hx hb dX10_pay_26 rfl (lv_at hl 2 rfl) ?_
    refine lv_dup2_11 hx hb dX10_pay_27 rfl rfl ?_
    obtain ⟨h_6, hf⟩ := tx_ck_e hf
    refine tx_iald S hE hw 12 rfl h_6 dX10_pay_28 ?_
    refine lv_iload_n hx hb dX10_pay_29 rfl (lv_at hl 0 rfl) ?_
    refine lv_isub hx hb dX10_pay_30 ?_
    obtain ⟨h_7, hf⟩ := tx_ck_e hf
    obtain ⟨u_T_8, eu_T_8⟩ : ∃ z : S32, z = up2 u_T 5 x1.toNatClampNeg ((u_T 5 x1.toNatClampNeg) - y_5) := ⟨_, rfl⟩
    replace hf := tx_let_e hf eu_T_8
    refine tx_iast (ws' := cl_X0 g a_B p_B_17 u_B ++ (cl_X10 g a_T (a_B 0) p_T_16 u_T_8 ++ X)) S hE hw 12 rfl h_7 (by rw [eu_T_8]; rfl) dX10_pay_31 (fun H locs hw => ?_)
    refine lv_aload_n hx hb dX10_pay_32 rfl (lv_at hl 1 rfl) ?_
    refine gf_X10_18 S hE hw 11 rfl rfl dX10_pay_33 ?_
    refine lv_iload_n hx hb dX10_pay_36 rfl (lv_at hl 2 rfl) ?_
    refine lv_dup2_11 hx hb dX10_pay_37 rfl rfl ?_
    obtain ⟨h_9, hf⟩ := tx_ck_e hf
    refine tx_iald S hE hw 14 rfl h_9 dX10_pay_38 ?_
    refine lv_iload_n hx hb dX10_pay_39 rfl (lv_at hl 0 rfl) ?_
    refine lv_iadd hx hb dX10_pay_40 ?_
    obtain ⟨h_10, hf⟩ := tx_ck_e hf
    obtain ⟨u_T_11, eu_T_11⟩ : ∃ z : S32, z = up2 u_T_8 7 x1.toNatClampNeg ((u_T_8 7 x1.toNatClampNeg) + y_5) := ⟨_, rfl⟩
    replace hf := tx_let_e hf eu_T_11
    refine tx_iast (ws' := cl_X0 g a_B p_B_17 u_B ++ (cl_X10 g a_T (a_B 0) p_T_16 u_T_11 ++ X)) S hE hw 14 rfl h_10 (by rw [eu_T_11]; rfl) dX10_pay_41 (fun H locs hw => ?_)
    refine lv_aload_n hx hb dX10_pay_42 rfl (lv_at hl 1 rfl) ?_
    refine gf_X10_21 S hE hw 11 rfl rfl dX10_pay_43 ?_
    refine lv_iload_n hx hb dX10_pay_46 rfl (lv_at hl 2 rfl) ?_
    refine lv_dup2_11 hx hb dX10_pay_47 rfl rfl ?_
    obtain ⟨h_12, hf⟩ := tx_ck_e hf
    refine tx_iald S hE hw 15 rfl h_12 dX10_pay_48 ?_
    refine lv_iload_n hx hb dX10_pay_49 rfl (lv_at hl 3 rfl) ?_
    refine lv_iload_n hx hb dX10_pay_50 rfl (lv_at hl 0 rfl) ?_
    refine lv_isub hx hb dX10_pay_51 ?_
    refine lv_iadd hx hb dX10_pay_52 ?_
    obtain ⟨h_13, hf⟩ := tx_ck_e hf
    obtain ⟨u_T_14, eu_T_14⟩ : ∃ z : S32, z = up2 u_T_11 8 x1.toNatClampNeg ((u_T_11 8 x1.toNatClampNeg) + (x2 - y_5)) := ⟨_, rfl⟩
    replace hf := tx_let_e hf eu_T_14
    refine tx_iast (ws' := cl_X0 g a_B p_B_17 u_B ++ (cl_X10 g a_T (a_B 0) p_T_16 u_T_14 ++ X)) S hE hw 15 rfl h_13 (by rw [eu_T_14]; rfl) dX10_pay_53 (fun H locs hw => ?_)
    have hw := hw.u1
    obtain e0 := tx_in1 hf
    rw [← e0]
    exact tx_vret S hr hlk hw dX10_pay_54
def f_X10_goWeeks_J94 (fu : Nat) (u_B : S32) (u_L : S32) (K2 : S32 → S64 → S64 → Int32 → Int32 → Int32 → Option (S32 × S64 × S64)) (K42 : S32 → S64 → S64 → Int32 → Int32 → Int32 → Int32 → Int32 → Option (S32 × S64 × S64)) (u_T : S32) (v_L : S64) (v_N : S64) (w1 : Int32) (w2 : Int32) (w3 : Int32) (w4 : Int32) (w5 : Int32) : Option (S32 × S64 × S64) := tx_let (w5 + (1 : Int32)) fun (y_26 : Int32) => K42 u_T v_L v_N w1 w2 w3 w4 y_26
def f_X10_goWeeks_J42 (fu : Nat) (u_B : S32) (u_L : S32) (K2 : S32 → S64 → S64 → Int32 → Int32 → Int32 → Option (S32 × S64 × S64)) (K42 : S32 → S64 → S64 → Int32 → Int32 → Int32 → Int32 → Int32 → Option (S32 × S64 × S64)) (u_T : S32) (v_L : S64) (v_N : S64) (w1 : Int32) (w2 : Int32) (w3 : Int32) (w4 : Int32) (w5 : Int32) : Option (S32 × S64 × S64) := if w4 ≤ w5 then (tx_b3 (f_X10_forget fu u_B u_L u_T v_L v_N) fun (u_T_7 : S32) (v_L_8 : S64) (v_N_9 : S64) => tx_let (up2 u_T_7 0 1 ((u_T_7 0 1) + (1 : Int32))) fun (u_T_10 : S32) => tx_let (w3 + (1 : Int32)) fun (y_11 : Int32) => K2 u_T_10 v_L_8 v_N_9 w1 w2 y_11) else (tx_ck w5 6 <| tx_b1 (f_X0_isReader fu u_B (u_T 10 w5.toNatClampNeg)) fun (r_14 : Int32) => if r_14 = (0 : Int32) then (f_X10_goWeeks_J94 fu u_B u_L K2 K42 u_T v_L v_N w1 w2 w3 w4 w5) else (tx_ck w5 6 <| tx_b4 (f_X10_dueAt fu u_B u_L u_T v_L v_N w5 (u_T 10 w5.toNatClampNeg) w2) fun (r_18 : Int32) (u_T_19 : S32) (v_L_20 : S64) (v_N_21 : S64) => tx_b1 (f_X10_pay fu u_B u_T_19 w5 r_18) fun (u_T_23 : S32) => tx_ck w5 6 <| tx_let (up2 u_T_23 9 w5.toNatClampNeg (0 : Int32)) fun (u_T_25 : S32) => f_X10_goWeeks_J94 fu u_B u_L K2 K42 u_T_25 v_L_20 v_N_21 w1 w2 w3 w4 w5))
def f_X10_goWeeks_L42 (fu : Nat) (u_B : S32) (u_L : S32) (K2 : S32 → S64 → S64 → Int32 → Int32 → Int32 → Option (S32 × S64 × S64)) : Nat → S32 → S64 → S64 → Int32 → Int32 → Int32 → Int32 → Int32 → Option (S32 × S64 × S64)
  | 0 => fun _ _ _ _ _ _ _ _ => none
  | n + 1 => f_X10_goWeeks_J42 fu u_B u_L K2 (f_X10_goWeeks_L42 fu u_B u_L K2 n)
def f_X10_goWeeks_J37 (fu : Nat) (u_B : S32) (u_L : S32) (K2 : S32 → S64 → S64 → Int32 → Int32 → Int32 → Option (S32 × S64 × S64)) (u_T : S32) (v_L : S64) (v_N : S64) (w1 : Int32) (w2 : Int32) (w3 : Int32) (t0 : Int32) : Option (S32 × S64 × S64) := f_X10_goWeeks_L42 fu u_B u_L K2 fu u_T v_L v_N w1 w2 w3 t0 (0 : Int32)
def f_X10_goWeeks_J2 (fu : Nat) (u_B : S32) (u_L : S32) (K2 : S32 → S64 → S64 → Int32 → Int32 → Int32 → Option (S32 × S64 × S64)) (u_T : S32) (v_L : S64) (v_N : S64) (w1 : Int32) (w2 : Int32) (w3 : Int32) : Option (S32 × S64 × S64) := if w1 ≤ w3 then (some (u_T, v_L, v_N)) else (tx_b1 (f_X10_think fu u_B u_T) fun (u_T_3 : S32) => if ((u_T_3 0 1) - (u_T_3 0 1) / (4 : Int32) * (4 : Int32)) = (3 : Int32) then (f_X10_goWeeks_J37 fu u_B u_L K2 u_T_3 v_L v_N w1 w2 w3 (if (6 : Int32) < (u_B 0 1) then (6 : Int32) else (u_B 0 1))) else (f_X10_goWeeks_J37 fu u_B u_L K2 u_T_3 v_L v_N w1 w2 w3 (0 : Int32)))
def f_X10_goWeeks_L2 (fu : Nat) (u_B : S32) (u_L : S32) : Nat → S32 → S64 → S64 → Int32 → Int32 → Int32 → Option (S32 × S64 × S64)
  | 0 => fun _ _ _ _ _ _ => none
  | n + 1 => f_X10_goWeeks_J2 fu u_B u_L (f_X10_goWeeks_L2 fu u_B u_L n)
def f_X10_goWeeks (fu : Nat) (u_B : S32) (u_L : S32) (u_T : S32) (v_L : S64) (v_N : S64) (x1 : Int32) (x2 : Int32) : Option (S32 × S64 × S64) := f_X10_goWeeks_L2 fu u_B u_L fu u_T v_L v_N x1 x2 (0 : Int32)
set_option maxHeartbeats 4000000 in
set_option maxRecDepth 100000 in
theorem c_X10_goWeeks {l : Launch} {g : GG} {A : Nat → Prop} {X : va_W} {fu : Nat} {a_T a_B a_L a_N : Nat → Nat} {u_T : S32} {u_B : S32} {u_L : S32} {v_L : S64} {v_N : S64} {x1 : Int32} {x2 : Int32} {zu_T : S32} {zv_L : S64} {zv_N : S64} (hf : f_X10_goWeeks fu u_B u_L u_T v_L v_N x1 x2 = some (zu_T, zv_L, zv_N)) : MV l yX10_goWeeks cX10_goWeeks 6 none 5 g A (cl_X10 g a_T (a_B 0) (a_N 0) u_T ++ (cl_X0 g a_B (a_L 0) u_B ++ (cl_X5 g a_L u_L v_L ++ (cl_N g a_N v_N ++ X)))) [.ref (a_T 0), .int x1, .int x2] (cl_X10 g a_T (a_B 0) (a_N 0) zu_T ++ (cl_X0 g a_B (a_L 0) u_B ++ (cl_X5 g a_L u_L zv_L ++ (cl_N g a_N zv_N ++ X)))) := by
  refine tx_start (av := [.ref (a_T 0), .int x1, .int x2]) (by decide) (Nat.le_of_ble_eq_true rfl) ?_
  intro p e s m below meth c ls S hr hlk hE hw hl
  have S : CallFix p m c cX10_goWeeks 6 s (List.toArray [.ref (a_T 0), .int x1, .int x2]) (Cond.code yX10_goWeeks cX10_goWeeks 6 none :: allW) RX10 := S
  have hx := S.1
  have hb := S.2.1
  have hown := S.2.2.2.1
  have hts : ∀ w ∈ allW, w.before (List.toArray [.ref (a_T 0), .int x1, .int x2]) s = true := fun w h => S.2.2.2.2 w (List.mem_cons_of_mem _ h)
  have hl : lv_has ls 6 [(0, .ref (a_T 0)), (1, .int x1), (2, .int x2)] := hl
  have J94 : ∀ {K2 : S32 → S64 → S64 → Int32 → Int32 → Int32 → Option (S32 × S64 × S64)} (hK2 : ∀ {u_T : S32} {v_L : S64} {v_N : S64} {w1 : Int32} {w2 : Int32} {w3 : Int32} {H : Heap} {locs : List Loc} {ls : Array Slot}, K2 u_T v_L v_N w1 w2 w3 = some (zu_T, zv_L, zv_N) → WD g A s.heap (cl_X10 g a_T (a_B 0) (a_N 0) u_T ++ (cl_X0 g a_B (a_L 0) u_B ++ (cl_X5 g a_L u_L v_L ++ (cl_N g a_N v_N ++ X)))) H locs → lv_has ls 6 [(0, .ref (a_T 0)), (1, .int w1), (2, .int w2), (3, .int w3)] → W p l e (rmH 5) s m (List.toArray [.ref (a_T 0), .int x1, .int x2]) below meth c H locs 0 0 (MQ below (va_Qv (fun (_ : Unit) => True) (fun _ t => POST g A (cl_X10 g a_T (a_B 0) (a_N 0) zu_T ++ (cl_X0 g a_B (a_L 0) u_B ++ (cl_X5 g a_L u_L zv_L ++ (cl_N g a_N zv_N ++ X)))) t) A) (List.toArray [.ref (a_T 0), .int x1, .int x2]) s 0 0 A) (F0 m 2 ls [])) {K42 : S32 → S64 → S64 → Int32 → Int32 → Int32 → Int32 → Int32 → Option (S32 × S64 × S64)} (hK42 : ∀ {u_T : S32} {v_L : S64} {v_N : S64} {w1 : Int32} {w2 : Int32} {w3 : Int32} {w4 : Int32} {w5 : Int32} {H : Heap} {locs : List Loc} {ls : Array Slot}, K42 u_T v_L v_N w1 w2 w3 w4 w5 = some (zu_T, zv_L, zv_N) → WD g A s.heap (cl_X10 g a_T (a_B 0) (a_N 0) u_T ++ (cl_X0 g a_B (a_L 0) u_B ++ (cl_X5 g a_L u_L v_L ++ (cl_N g a_N v_N ++ X)))) H locs → lv_has ls 6 [(0, .ref (a_T 0)), (1, .int w1), (2, .int w2), (3, .int w3), (4, .int w4), (5, .int w5)] → W p l e (rmH 5) s m (List.toArray [.ref (a_T 0), .int x1, .int x2]) below meth c H locs 0 0 (MQ below (va_Qv (fun (_ : Unit) => True) (fun _ t => POST g A (cl_X10 g a_T (a_B 0) (a_N 0) zu_T ++ (cl_X0 g a_B (a_L 0) u_B ++ (cl_X5 g a_L u_L zv_L ++ (cl_N g a_N zv_N ++ X)))) t) A) (List.toArray [.ref (a_T 0), .int x1, .int x2]) s 0 0 A) (F0 m 42 ls [])), ∀ {u_T : S32} {v_L : S64} {v_N : S64} {w1 : Int32} {w2 : Int32} {w3 : Int32} {w4 : Int32} {w5 : Int32} {H : Heap} {locs : List Loc} {ls : Array Slot}, f_X10_goWeeks_J94 fu u_B u_L K2 K42 u_T v_L v_N w1 w2 w3 w4 w5 = some (zu_T, zv_L, zv_N) → WD g A s.heap (cl_X10 g a_T (a_B 0) (a_N 0) u_T ++ (cl_X0 g a_B (a_L 0) u_B ++ (cl_X5 g a_L u_L v_L ++ (cl_N g a_N v_N ++ X)))) H locs → lv_has ls 6 [(0, .ref (a_T 0)), (1, .int w1), (2, .int w2), (3, .int w3), (4, .int w4), (5, .int w5)] → W p l e (rmH 5) s m (List.toArray [.ref (a_T 0), .int x1, .int x2]) below meth c H locs 0 0 (MQ below (va_Qv (fun (_ : Unit) => True) (fun _ t => POST g A (cl_X10 g a_T (a_B 0) (a_N 0) zu_T ++ (cl_X0 g a_B (a_L 0) u_B ++ (cl_X5 g a_L u_L zv_L ++ (cl_N g a_N zv_N ++ X)))) t) A) (List.toArray [.ref (a_T 0), .int x1, .int x2]) s 0 0 A) (F0 m 94 ls []) := by
    intro K2 hK2 K42 hK42 u_T v_L v_N w1 w2 w3 w4 w5 H locs ls hf hw hl
    unfold f_X10_goWeeks_J94 at hf
    obtain ⟨y_26, ey_26⟩ : ∃ y : Int32, y = w5 + (1 : Int32) := ⟨_, rfl⟩
    replace hf := tx_let_e hf ey_26
    refine lv_iinc (v := y_26) (lv' := [(5, .int y_26), (0, .ref (a_T 0)), (1, .int w1), (2, .int w2), (3, .int w3), (4, .int w4)]) hx hb dX10_goWeeks_94 hl (k := 5) rfl (by rw [ey_26]; rfl) (by decide) rfl (fun ls hl => ?_)
    refine lv_goto (tgt := 42) hx hb dX10_goWeeks_97 (by decide) ?_
    exact hK42 hf hw (lv_sub hl [1, 2, 3, 4, 5, 0] rfl)
  have J42 : ∀ {K2 : S32 → S64 → S64 → Int32 → Int32 → Int32 → Option (S32 × S64 × S64)} (hK2 : ∀ {u_T : S32} {v_L : S64} {v_N : S64} {w1 : Int32} {w2 : Int32} {w3 : Int32} {H : Heap} {locs : List Loc} {ls : Array Slot}, K2 u_T v_L v_N w1 w2 w3 = some (zu_T, zv_L, zv_N) → WD g A s.heap (cl_X10 g a_T (a_B 0) (a_N 0) u_T ++ (cl_X0 g a_B (a_L 0) u_B ++ (cl_X5 g a_L u_L v_L ++ (cl_N g a_N v_N ++ X)))) H locs → lv_has ls 6 [(0, .ref (a_T 0)), (1, .int w1), (2, .int w2), (3, .int w3)] → W p l e (rmH 5) s m (List.toArray [.ref (a_T 0), .int x1, .int x2]) below meth c H locs 0 0 (MQ below (va_Qv (fun (_ : Unit) => True) (fun _ t => POST g A (cl_X10 g a_T (a_B 0) (a_N 0) zu_T ++ (cl_X0 g a_B (a_L 0) u_B ++ (cl_X5 g a_L u_L zv_L ++ (cl_N g a_N zv_N ++ X)))) t) A) (List.toArray [.ref (a_T 0), .int x1, .int x2]) s 0 0 A) (F0 m 2 ls [])) {K42 : S32 → S64 → S64 → Int32 → Int32 → Int32 → Int32 → Int32 → Option (S32 × S64 × S64)} (hK42 : ∀ {u_T : S32} {v_L : S64} {v_N : S64} {w1 : Int32} {w2 : Int32} {w3 : Int32} {w4 : Int32} {w5 : Int32} {H : Heap} {locs : List Loc} {ls : Array Slot}, K42 u_T v_L v_N w1 w2 w3 w4 w5 = some (zu_T, zv_L, zv_N) → WD g A s.heap (cl_X10 g a_T (a_B 0) (a_N 0) u_T ++ (cl_X0 g a_B (a_L 0) u_B ++ (cl_X5 g a_L u_L v_L ++ (cl_N g a_N v_N ++ X)))) H locs → lv_has ls 6 [(0, .ref (a_T 0)), (1, .int w1), (2, .int w2), (3, .int w3), (4, .int w4), (5, .int w5)] → W p l e (rmH 5) s m (List.toArray [.ref (a_T 0), .int x1, .int x2]) below meth c H locs 0 0 (MQ below (va_Qv (fun (_ : Unit) => True) (fun _ t => POST g A (cl_X10 g a_T (a_B 0) (a_N 0) zu_T ++ (cl_X0 g a_B (a_L 0) u_B ++ (cl_X5 g a_L u_L zv_L ++ (cl_N g a_N zv_N ++ X)))) t) A) (List.toArray [.ref (a_T 0), .int x1, .int x2]) s 0 0 A) (F0 m 42 ls [])), ∀ {u_T : S32} {v_L : S64} {v_N : S64} {w1 : Int32} {w2 : Int32} {w3 : Int32} {w4 : Int32} {w5 : Int32} {H : Heap} {locs : List Loc} {ls : Array Slot}, f_X10_goWeeks_J42 fu u_B u_L K2 K42 u_T v_L v_N w1 w2 w3 w4 w5 = some (zu_T, zv_L, zv_N) → WD g A s.heap (cl_X10 g a_T (a_B 0) (a_N 0) u_T ++ (cl_X0 g a_B (a_L 0) u_B ++ (cl_X5 g a_L u_L v_L ++ (cl_N g a_N v_N ++ X)))) H locs → lv_has ls 6 [(0, .ref (a_T 0)), (1, .int w1), (2, .int w2), (3, .int w3), (4, .int w4), (5, .int w5)] → W p l e (rmH 5) s m (List.toArray [.ref (a_T 0), .int x1, .int x2]) below meth c H locs 0 0 (MQ below (va_Qv (fun (_ : Unit) => True) (fun _ t => POST g A (cl_X10 g a_T (a_B 0) (a_N 0) zu_T ++ (cl_X0 g a_B (a_L 0) u_B ++ (cl_X5 g a_L u_L zv_L ++ (cl_N g a_N zv_N ++ X)))) t) A) (List.toArray [.ref (a_T 0), .int x1, .int x2]) s 0 0 A) (F0 m 42 ls []) := by
    intro K2 hK2 K42 hK42 u_T v_L v_N w1 w2 w3 w4 w5 H locs ls hf hw hl
    unfold f_X10_goWeeks_J42 at hf
    refine lv_iload hx hb dX10_goWeeks_42 (lv_at hl 5 rfl) ?_
    refine lv_iload hx hb dX10_goWeeks_44 (lv_at hl 4 rfl) ?_
    refine lv_icmp_ge (tgt := 100) hx hb dX10_goWeeks_46 (by decide) (fun h_5 => ?_) (fun h_5 => ?_)
    · replace hf := tx_pos hf h_5
      refine lv_aload_n hx hb dX10_goWeeks_100 rfl (lv_at hl 0 rfl) ?_
      obtain ⟨u_T_7, v_L_8, v_N_9, h_6, hf⟩ := tx_b3_e hf
      refine tx_cv hw (tx_runV S hE hw (c_X10_forget h_6) lk_X10_114 (q0 := 0) rfl rfl rfl hl.1 (rest := []) rfl (Nat.le_of_ble_eq_true rfl) ⟨by decide, by decide⟩ dX10_goWeeks_101 ⟨Nat.zero_le _, Nat.zero_le _⟩) (fun H locs hw => ?_)
      refine lv_aload_n hx hb dX10_goWeeks_104 rfl (lv_at hl 0 rfl) ?_
      refine lv_dup hx hb dX10_goWeeks_105 rfl ?_
      refine gf_X10_53 S hE hw 0 rfl rfl dX10_goWeeks_106 ?_
      refine lv_iconst (v := 1) hx hb dX10_goWeeks_109 (by decide) ?_
      refine lv_iadd hx hb dX10_goWeeks_110 ?_
      obtain ⟨u_T_10, eu_T_10⟩ : ∃ z : S32, z = up2 u_T_7 0 1 ((u_T_7 0 1) + (1 : Int32)) := ⟨_, rfl⟩
      replace hf := tx_let_e hf eu_T_10
      refine pf_X10_53 (ws' := cl_X10 g a_T (a_B 0) (a_N 0) u_T_10 ++ (cl_X0 g a_B (a_L 0) u_B ++ (cl_X5 g a_L u_L v_L_8 ++ (cl_N g a_N v_N_9 ++ X)))) S hE hw rfl rfl 0 rfl (Nat.le_of_ble_eq_true rfl) (by rw [eu_T_10]; rfl) dX10_goWeeks_111 (fun H locs hw => ?_)
      obtain ⟨y_11, ey_11⟩ : ∃ y : Int32, y = w3 + (1 : Int32) := ⟨_, rfl⟩
      replace hf := tx_let_e hf ey_11
      refine lv_iinc (v := y_11) (lv' := [(3, .int y_11), (0, .ref (a_T 0)), (1, .int w1), (2, .int w2), (4, .int w4), (5, .int w5)]) hx hb dX10_goWeeks_114 hl (k := 3) rfl (by rw [ey_11]; rfl) (by decide) rfl (fun ls hl => ?_)
      refine lv_goto (tgt := 2) hx hb dX10_goWeeks_117 (by decide) ?_
      exact hK2 hf hw (lv_sub hl [1, 2, 3, 0] rfl)
    · replace hf := tx_neg hf h_5
      refine lv_aload_n hx hb dX10_goWeeks_49 rfl (lv_at hl 0 rfl) ?_
      refine gf_X10_49 S hE hw 0 rfl rfl dX10_goWeeks_50 ?_
      refine lv_aload_n hx hb dX10_goWeeks_53 rfl (lv_at hl 0 rfl) ?_
      refine gf_X10_27 S hE hw 0 rfl rfl dX10_goWeeks_54 ?_
      refine lv_iload hx hb dX10_goWeeks_57 (lv_at hl 5 rfl) ?_
      obtain ⟨h_12, hf⟩ := tx_ck_e hf
      refine tx_iald S hE hw 6 rfl h_12 dX10_goWeeks_59 ?_
      have hw := hw.u1
      obtain ⟨r_14, h_13, hf⟩ := tx_b1_e hf
      refine tx_ci hw (tx_runN S hE hw (c_X0_isReader h_13) lk_X10_102 (q0 := 0) rfl rfl rfl hl.1 (rest := []) rfl (Nat.le_of_ble_eq_true rfl) ⟨by decide, by decide⟩ dX10_goWeeks_60 ⟨Nat.zero_le _, Nat.zero_le _⟩) (fun H locs hw => ?_)
      refine lv_if_eq (tgt := 94) hx hb dX10_goWeeks_63 (by decide) (fun h_15 => ?_) (fun h_15 => ?_)
      · replace hf := tx_pos hf h_15
        have hw := hw.u3
        have hw := hw.u3
        have hw := hw.u2
        have hw := hw.u3
        exact J94 hK2 hK42 hf hw (lv_sub hl [0, 1, 2, 3, 4, 5] rfl)
      · replace hf := tx_neg hf h_15
        refine lv_aload_n hx hb dX10_goWeeks_66 rfl (lv_at hl 0 rfl) ?_
        refine lv_iload hx hb dX10_goWeeks_67 (lv_at hl 5 rfl) ?_
        refine lv_aload_n hx hb dX10_goWeeks_69 rfl (lv_at hl 0 rfl) ?_
        refine lv_iload hx hb dX10_goWeeks_70 (lv_at hl 5 rfl) ?_
        refine lv_aload_n hx hb dX10_goWeeks_72 rfl (lv_at hl 0 rfl) ?_
        refine gf_X10_27 S hE hw 11 rfl rfl dX10_goWeeks_73 ?_
        refine lv_iload hx hb dX10_goWeeks_76 (lv_at hl 5 rfl) ?_
        obtain ⟨h_16, hf⟩ := tx_ck_e hf
        refine tx_iald S hE hw 17 rfl h_16 dX10_goWeeks_78 ?_
        refine lv_iload_n hx hb dX10_goWeeks_79 rfl (lv_at hl 2 rfl) ?_
        have hw := hw.u3
        have hw := hw.u3
        have hw := hw.u2
        have hw := hw.u3
        obtain ⟨r_18, u_T_19, v_L_20, v_N_21, h_17, hf⟩ := tx_b4_e hf
        refine tx_ci hw (tx_runV S hE hw (c_X10_dueAt h_17) lk_X10_106 (q0 := 0) rfl rfl rfl hl.1 (rest := [.int w5, .ref (a_T 0)]) rfl (Nat.le_of_ble_eq_true rfl) ⟨by decide, by decide⟩ dX10_goWeeks_80 ⟨Nat.zero_le _, Nat.zero_le _⟩) (fun H locs hw => ?_)
        obtain ⟨u_T_23, h_22, hf⟩ := tx_b1_e hf
        refine tx_cv hw (tx_runV S hE hw (c_X10_pay h_22) lk_X10_110 (q0 := 0) rfl rfl rfl hl.1 (rest := []) rfl (Nat.le_of_ble_eq_true rfl) ⟨by decide, by decide⟩ dX10_goWeeks_83 ⟨Nat.zero_le _, Nat.zero_le _⟩) (fun H locs hw => ?_)
        refine lv_aload_n hx hb dX10_goWeeks_86 rfl (lv_at hl 0 rfl) ?_
        refine gf_X10_24 S hE hw 0 rfl rfl dX10_goWeeks_87 ?_
        refine lv_iload hx hb dX10_goWeeks_90 (lv_at hl 5 rfl) ?_
        refine lv_iconst (v := 0) hx hb dX10_goWeeks_92 (by decide) ?_
        obtain ⟨h_24, hf⟩ := tx_ck_e hf
        obtain ⟨u_T_25, eu_T_25⟩ : ∃ z : S32, z = up2 u_T_23 9 w5.toNatClampNeg (0 : Int32) := ⟨_, rfl⟩
        replace hf := tx_let_e hf eu_T_25
        refine tx_iast (ws' := cl_X10 g a_T (a_B 0) (a_N 0) u_T_25 ++ (cl_X0 g a_B (a_L 0) u_B ++ (cl_X5 g a_L u_L v_L_20 ++ (cl_N g a_N v_N_21 ++ X)))) S hE hw 5 rfl h_24 (by rw [eu_T_25]; rfl) dX10_goWeeks_93 (fun H locs hw => ?_)
        exact J94 hK2 hK42 hf hw (lv_sub hl [0, 1, 2, 3, 4, 5] rfl)
  have L42 : ∀ {K2 : S32 → S64 → S64 → Int32 → Int32 → Int32 → Option (S32 × S64 × S64)} (hK2 : ∀ {u_T : S32} {v_L : S64} {v_N : S64} {w1 : Int32} {w2 : Int32} {w3 : Int32} {H : Heap} {locs : List Loc} {ls : Array Slot}, K2 u_T v_L v_N w1 w2 w3 = some (zu_T, zv_L, zv_N) → WD g A s.heap (cl_X10 g a_T (a_B 0) (a_N 0) u_T ++ (cl_X0 g a_B (a_L 0) u_B ++ (cl_X5 g a_L u_L v_L ++ (cl_N g a_N v_N ++ X)))) H locs → lv_has ls 6 [(0, .ref (a_T 0)), (1, .int w1), (2, .int w2), (3, .int w3)] → W p l e (rmH 5) s m (List.toArray [.ref (a_T 0), .int x1, .int x2]) below meth c H locs 0 0 (MQ below (va_Qv (fun (_ : Unit) => True) (fun _ t => POST g A (cl_X10 g a_T (a_B 0) (a_N 0) zu_T ++ (cl_X0 g a_B (a_L 0) u_B ++ (cl_X5 g a_L u_L zv_L ++ (cl_N g a_N zv_N ++ X)))) t) A) (List.toArray [.ref (a_T 0), .int x1, .int x2]) s 0 0 A) (F0 m 2 ls [])), ∀ (n : Nat), ∀ {u_T : S32} {v_L : S64} {v_N : S64} {w1 : Int32} {w2 : Int32} {w3 : Int32} {w4 : Int32} {w5 : Int32} {H : Heap} {locs : List Loc} {ls : Array Slot}, f_X10_goWeeks_L42 fu u_B u_L K2 n u_T v_L v_N w1 w2 w3 w4 w5 = some (zu_T, zv_L, zv_N) → WD g A s.heap (cl_X10 g a_T (a_B 0) (a_N 0) u_T ++ (cl_X0 g a_B (a_L 0) u_B ++ (cl_X5 g a_L u_L v_L ++ (cl_N g a_N v_N ++ X)))) H locs → lv_has ls 6 [(0, .ref (a_T 0)), (1, .int w1), (2, .int w2), (3, .int w3), (4, .int w4), (5, .int w5)] → W p l e (rmH 5) s m (List.toArray [.ref (a_T 0), .int x1, .int x2]) below meth c H locs 0 0 (MQ below (va_Qv (fun (_ : Unit) => True) (fun _ t => POST g A (cl_X10 g a_T (a_B 0) (a_N 0) zu_T ++ (cl_X0 g a_B (a_L 0) u_B ++ (cl_X5 g a_L u_L zv_L ++ (cl_N g a_N zv_N ++ X)))) t) A) (List.toArray [.ref (a_T 0), .int x1, .int x2]) s 0 0 A) (F0 m 42 ls []) := by
    intro K2 hK2 n
    induction n with
    | zero => intro u_T v_L v_N w1 w2 w3 w4 w5 H locs ls hf; exact absurd hf (by intro q; cases q)
    | succ n ih => exact fun hf hw hl => J42 hK2 ih hf hw hl
  have J37 : ∀ {K2 : S32 → S64 → S64 → Int32 → Int32 → Int32 → Option (S32 × S64 × S64)} (hK2 : ∀ {u_T : S32} {v_L : S64} {v_N : S64} {w1 : Int32} {w2 : Int32} {w3 : Int32} {H : Heap} {locs : List Loc} {ls : Array Slot}, K2 u_T v_L v_N w1 w2 w3 = some (zu_T, zv_L, zv_N) → WD g A s.heap (cl_X10 g a_T (a_B 0) (a_N 0) u_T ++ (cl_X0 g a_B (a_L 0) u_B ++ (cl_X5 g a_L u_L v_L ++ (cl_N g a_N v_N ++ X)))) H locs → lv_has ls 6 [(0, .ref (a_T 0)), (1, .int w1), (2, .int w2), (3, .int w3)] → W p l e (rmH 5) s m (List.toArray [.ref (a_T 0), .int x1, .int x2]) below meth c H locs 0 0 (MQ below (va_Qv (fun (_ : Unit) => True) (fun _ t => POST g A (cl_X10 g a_T (a_B 0) (a_N 0) zu_T ++ (cl_X0 g a_B (a_L 0) u_B ++ (cl_X5 g a_L u_L zv_L ++ (cl_N g a_N zv_N ++ X)))) t) A) (List.toArray [.ref (a_T 0), .int x1, .int x2]) s 0 0 A) (F0 m 2 ls [])), ∀ {u_T : S32} {v_L : S64} {v_N : S64} {w1 : Int32} {w2 : Int32} {w3 : Int32} {t0 : Int32} {H : Heap} {locs : List Loc} {ls : Array Slot}, f_X10_goWeeks_J37 fu u_B u_L K2 u_T v_L v_N w1 w2 w3 t0 = some (zu_T, zv_L, zv_N) → WD g A s.heap (cl_X10 g a_T (a_B 0) (a_N 0) u_T ++ (cl_X0 g a_B (a_L 0) u_B ++ (cl_X5 g a_L u_L v_L ++ (cl_N g a_N v_N ++ X)))) H locs → lv_has ls 6 [(0, .ref (a_T 0)), (1, .int w1), (2, .int w2), (3, .int w3)] → W p l e (rmH 5) s m (List.toArray [.ref (a_T 0), .int x1, .int x2]) below meth c H locs 0 0 (MQ below (va_Qv (fun (_ : Unit) => True) (fun _ t => POST g A (cl_X10 g a_T (a_B 0) (a_N 0) zu_T ++ (cl_X0 g a_B (a_L 0) u_B ++ (cl_X5 g a_L u_L zv_L ++ (cl_N g a_N zv_N ++ X)))) t) A) (List.toArray [.ref (a_T 0), .int x1, .int x2]) s 0 0 A) (F0 m 37 ls [.int t0]) := by
    intro K2 hK2 u_T v_L v_N w1 w2 w3 t0 H locs ls hf hw hl
    unfold f_X10_goWeeks_J37 at hf
    refine lv_istore (lv' := [(4, .int t0), (0, .ref (a_T 0)), (1, .int w1), (2, .int w2), (3, .int w3)]) hx hb dX10_goWeeks_37 hl (by decide) rfl (fun ls hl => ?_)
    refine lv_iconst (v := 0) hx hb dX10_goWeeks_39 (by decide) ?_
    refine lv_istore (lv' := [(5, .int (0 : Int32)), (4, .int t0), (0, .ref (a_T 0)), (1, .int w1), (2, .int w2), (3, .int w3)]) hx hb dX10_goWeeks_40 hl (by decide) rfl (fun ls hl => ?_)
    exact L42 hK2 fu hf hw (lv_sub hl [2, 3, 4, 5, 1, 0] rfl)
  have J2 : ∀ {K2 : S32 → S64 → S64 → Int32 → Int32 → Int32 → Option (S32 × S64 × S64)} (hK2 : ∀ {u_T : S32} {v_L : S64} {v_N : S64} {w1 : Int32} {w2 : Int32} {w3 : Int32} {H : Heap} {locs : List Loc} {ls : Array Slot}, K2 u_T v_L v_N w1 w2 w3 = some (zu_T, zv_L, zv_N) → WD g A s.heap (cl_X10 g a_T (a_B 0) (a_N 0) u_T ++ (cl_X0 g a_B (a_L 0) u_B ++ (cl_X5 g a_L u_L v_L ++ (cl_N g a_N v_N ++ X)))) H locs → lv_has ls 6 [(0, .ref (a_T 0)), (1, .int w1), (2, .int w2), (3, .int w3)] → W p l e (rmH 5) s m (List.toArray [.ref (a_T 0), .int x1, .int x2]) below meth c H locs 0 0 (MQ below (va_Qv (fun (_ : Unit) => True) (fun _ t => POST g A (cl_X10 g a_T (a_B 0) (a_N 0) zu_T ++ (cl_X0 g a_B (a_L 0) u_B ++ (cl_X5 g a_L u_L zv_L ++ (cl_N g a_N zv_N ++ X)))) t) A) (List.toArray [.ref (a_T 0), .int x1, .int x2]) s 0 0 A) (F0 m 2 ls [])), ∀ {u_T : S32} {v_L : S64} {v_N : S64} {w1 : Int32} {w2 : Int32} {w3 : Int32} {H : Heap} {locs : List Loc} {ls : Array Slot}, f_X10_goWeeks_J2 fu u_B u_L K2 u_T v_L v_N w1 w2 w3 = some (zu_T, zv_L, zv_N) → WD g A s.heap (cl_X10 g a_T (a_B 0) (a_N 0) u_T ++ (cl_X0 g a_B (a_L 0) u_B ++ (cl_X5 g a_L u_L v_L ++ (cl_N g a_N v_N ++ X)))) H locs → lv_has ls 6 [(0, .ref (a_T 0)), (1, .int w1), (2, .int w2), (3, .int w3)] → W p l e (rmH 5) s m (List.toArray [.ref (a_T 0), .int x1, .int x2]) below meth c H locs 0 0 (MQ below (va_Qv (fun (_ : Unit) => True) (fun _ t => POST g A (cl_X10 g a_T (a_B 0) (a_N 0) zu_T ++ (cl_X0 g a_B (a_L 0) u_B ++ (cl_X5 g a_L u_L zv_L ++ (cl_N g a_N zv_N ++ X)))) t) A) (List.toArray [.ref (a_T 0), .int x1, .int x2]) s 0 0 A) (F0 m 2 ls []) := by
    intro K2 hK2 u_T v_L v_N w1 w2 w3 H locs ls hf hw hl
    unfold f_X10_goWeeks_J2 at hf
    refine lv_iload_n hx hb dX10_goWeeks_2 rfl (lv_at hl 3 rfl) ?_
    refine lv_iload_n hx hb dX10_goWeeks_3 rfl (lv_at hl 1 rfl) ?_
    refine lv_icmp_ge (tgt := 120) hx hb dX10_goWeeks_4 (by decide) (fun h_1 => ?_) (fun h_1 => ?_)
    · replace hf := tx_pos hf h_1
      obtain ⟨e0, e1, e2⟩ := tx_in3 hf
      rw [← e0, ← e1, ← e2]
      exact tx_vret S hr hlk hw dX10_goWeeks_120
    · replace hf := tx_neg hf h_1
      refine lv_aload_n hx hb dX10_goWeeks_7 rfl (lv_at hl 0 rfl) ?_
      obtain ⟨u_T_3, h_2, hf⟩ := tx_b1_e hf
      refine tx_cv hw (tx_runV S hE hw (c_X10_think h_2) lk_X10_90 (q0 := 0) rfl rfl rfl hl.1 (rest := []) rfl (Nat.le_of_ble_eq_true rfl) ⟨by decide, by decide⟩ dX10_goWeeks_8 ⟨Nat.zero_le _, Nat.zero_le _⟩) (fun H locs hw => ?_)
      refine lv_aload_n hx hb dX10_goWeeks_11 rfl (lv_at hl 0 rfl) ?_
      refine gf_X10_53 S hE hw 0 rfl rfl dX10_goWeeks_12 ?_
      refine lv_iconst (v := 4) hx hb dX10_goWeeks_15 (by decide) ?_
      refine lv_irem hx hb dX10_goWeeks_16 (by decide) ?_
      refine lv_iconst (v := 3) hx hb dX10_goWeeks_17 (by decide) ?_
      refine lv_icmp_ne (tgt := 36) hx hb dX10_goWeeks_18 (by decide) (fun h_4 => ?_) (fun h_4 => ?_)
      · replace hf := tx_neg hf h_4
        refine lv_iconst (v := 0) hx hb dX10_goWeeks_36 (by decide) ?_
        exact J37 hK2 hf hw (lv_sub hl [0, 1, 2, 3] rfl)
      · replace hf := tx_pos hf h_4
        refine lv_aload_n hx hb dX10_goWeeks_21 rfl (lv_at hl 0 rfl) ?_
        refine gf_X10_49 S hE hw 0 rfl rfl dX10_goWeeks_22 ?_
        refine gf_X10_93 S hE hw 12 rfl rfl dX10_goWeeks_25 ?_
        refine lv_bipush (v := 6) hx hb dX10_goWeeks_28 (by decide) ?_
        refine tx_mmin S kw_838 hl.1 (by decide) (Nat.le_of_ble_eq_true rfl) ⟨Nat.zero_le _, Nat.zero_le _⟩ dX10_goWeeks_30 ?_
        refine lv_goto (tgt := 37) hx hb dX10_goWeeks_33 (by decide) ?_
        exact J37 hK2 hf hw (lv_sub hl [0, 1, 2, 3] rfl)
  have L2 : ∀ (n : Nat), ∀ {u_T : S32} {v_L : S64} {v_N : S64} {w1 : Int32} {w2 : Int32} {w3 : Int32} {H : Heap} {locs : List Loc} {ls : Array Slot}, f_X10_goWeeks_L2 fu u_B u_L n u_T v_L v_N w1 w2 w3 = some (zu_T, zv_L, zv_N) → WD g A s.heap (cl_X10 g a_T (a_B 0) (a_N 0) u_T ++ (cl_X0 g a_B (a_L 0) u_B ++ (cl_X5 g a_L u_L v_L ++ (cl_N g a_N v_N ++ X)))) H locs → lv_has ls 6 [(0, .ref (a_T 0)), (1, .int w1), (2, .int w2), (3, .int w3)] → W p l e (rmH 5) s m (List.toArray [.ref (a_T 0), .int x1, .int x2]) below meth c H locs 0 0 (MQ below (va_Qv (fun (_ : Unit) => True) (fun _ t => POST g A (cl_X10 g a_T (a_B 0) (a_N 0) zu_T ++ (cl_X0 g a_B (a_L 0) u_B ++ (cl_X5 g a_L u_L zv_L ++ (cl_N g a_N zv_N ++ X)))) t) A) (List.toArray [.ref (a_T 0), .int x1, .int x2]) s 0 0 A) (F0 m 2 ls []) := by
    intro  n
    induction n with
    | zero => intro u_T v_L v_N w1 w2 w3 H locs ls hf; exact absurd hf (by intro q; cases q)
    | succ n ih => exact fun hf hw hl => J2 ih hf hw hl
  unfold f_X10_goWeeks at hf
  refine lv_iconst (v := 0) hx hb dX10_goWeeks_0 (by decide) ?_
  refine lv_istore_n (lv' := [(3, .int (0 : Int32)), (0, .ref (a_T 0)), (1, .int x1), (2, .int x2)]) hx hb dX10_goWeeks_1 rfl hl (by decide) rfl (fun ls hl => ?_)
  exact L2 fu hf hw (lv_sub hl [1, 2, 3, 0] rfl)
def f_X11_weeks (fu : Nat) (u_T : S32) (u_B : S32) (u_L : S32) (u_W : S32) (v_L : S64) (v_N : S64) (u_D : S32) (x1 : Int32) : Option (Int32 × S32 × S64 × S64 × S32) := if x1 < (0 : Int32) then (some ((-1 : Int32), u_W, v_L, v_N, u_D)) else (if (99 : Int32) < x1 then (some ((-1 : Int32), u_W, v_L, v_N, u_D)) else (if ((u_W 0 1) + x1) ≤ (9900 : Int32) then (tx_b3 (f_X10_goWeeks fu u_B u_L u_W v_L v_N x1 (1 : Int32)) fun (u_W_5 : S32) (v_L_6 : S64) (v_N_7 : S64) => if x1 ≤ (0 : Int32) then (some (u_W_5 0 1, u_W_5, v_L_6, v_N_7, u_D)) else (tx_b1 (f_X1_clear fu u_D) fun (u_D_10 : S32) => some (u_W_5 0 1, u_W_5, v_L_6, v_N_7, u_D_10))) else (some ((-1 : Int32), u_W, v_L, v_N, u_D))))
set_option maxHeartbeats 4000000 in
set_option maxRecDepth 100000 in
theorem c_X11_weeks {l : Launch} {g : GG} {A : Nat → Prop} {X : va_W} {fu : Nat} {a_T a_W a_B a_L a_N a_D : Nat → Nat} {p_T_0 p_T_2 p_T_3 p_T_5 p_T_6 p_T_8 p_T_9 : Nat} {u_T : S32} {u_W : S32} {u_B : S32} {u_L : S32} {v_L : S64} {v_N : S64} {u_D : S32} {x1 : Int32} {r : Int32} {zu_W : S32} {zv_L : S64} {zv_N : S64} {zu_D : S32} (hf : f_X11_weeks fu u_T u_B u_L u_W v_L v_N u_D x1 = some (r, zu_W, zv_L, zv_N, zu_D)) : MI l yX11_weeks cX11_weeks 2 (some .int) 6 g A (cl_X11 g a_T p_T_0 (a_B 0) p_T_2 p_T_3 (a_W 0) p_T_5 p_T_6 (a_D 0) p_T_8 p_T_9 u_T ++ (cl_X10 g a_W (a_B 0) (a_N 0) u_W ++ (cl_X0 g a_B (a_L 0) u_B ++ (cl_X5 g a_L u_L v_L ++ (cl_N g a_N v_N ++ (cl_X1 g a_D u_D ++ X)))))) [.ref (a_T 0), .int x1] r (cl_X11 g a_T p_T_0 (a_B 0) p_T_2 p_T_3 (a_W 0) p_T_5 p_T_6 (a_D 0) p_T_8 p_T_9 u_T ++ (cl_X10 g a_W (a_B 0) (a_N 0) zu_W ++ (cl_X0 g a_B (a_L 0) u_B ++ (cl_X5 g a_L u_L zv_L ++ (cl_N g a_N zv_N ++ (cl_X1 g a_D zu_D ++ X)))))) := by
  refine tx_start (av := [.ref (a_T 0), .int x1]) (by decide) (Nat.le_of_ble_eq_true rfl) ?_
  intro p e s m below meth c ls S hr hlk hE hw hl
  have S : CallFix p m c cX11_weeks 2 s (List.toArray [.ref (a_T 0), .int x1]) (Cond.code yX11_weeks cX11_weeks 2 (some .int) :: allW) RX11 := S
  have hx := S.1
  have hb := S.2.1
  have hown := S.2.2.2.1
  have hts : ∀ w ∈ allW, w.before (List.toArray [.ref (a_T 0), .int x1]) s = true := fun w h => S.2.2.2.2 w (List.mem_cons_of_mem _ h)
  have hl : lv_has ls 2 [(0, .ref (a_T 0)), (1, .int x1)] := hl
  unfold f_X11_weeks at hf
  refine lv_iload_n hx hb dX11_weeks_0 rfl (lv_at hl 1 rfl) ?_
  refine lv_if_lt (tgt := 25) hx hb dX11_weeks_1 (by decide) (fun h_1 => ?_) (fun h_1 => ?_)
  · replace hf := tx_pos hf h_1
    refine lv_iconst (v := -1) hx hb dX11_weeks_25 (by decide) ?_
    obtain ⟨e0, e1, e2, e3, e4⟩ := tx_in5 hf
    rw [← e0, ← e1, ← e2, ← e3, ← e4]
    exact tx_iret S hr hlk hw dX11_weeks_26
  · replace hf := tx_neg hf h_1
    refine lv_iload_n hx hb dX11_weeks_4 rfl (lv_at hl 1 rfl) ?_
    refine lv_bipush (v := 99) hx hb dX11_weeks_5 (by decide) ?_
    refine lv_icmp_gt (tgt := 25) hx hb dX11_weeks_7 (by decide) (fun h_2 => ?_) (fun h_2 => ?_)
    · replace hf := tx_pos hf h_2
      refine lv_iconst (v := -1) hx hb dX11_weeks_25 (by decide) ?_
      obtain ⟨e0, e1, e2, e3, e4⟩ := tx_in5 hf
      rw [← e0, ← e1, ← e2, ← e3, ← e4]
      exact tx_iret S hr hlk hw dX11_weeks_26
    · replace hf := tx_neg hf h_2
      refine lv_aload_n hx hb dX11_weeks_10 rfl (lv_at hl 0 rfl) ?_
      refine gf_X11_42 S hE hw 0 rfl rfl dX11_weeks_11 ?_
      refine gf_X11_210 S hE hw 1 rfl rfl dX11_weeks_14 ?_
      refine lv_iload_n hx hb dX11_weeks_17 rfl (lv_at hl 1 rfl) ?_
      refine lv_iadd hx hb dX11_weeks_18 ?_
      refine lv_sipush (v := 9900) hx hb dX11_weeks_19 (by decide) ?_
      refine lv_icmp_le (tgt := 27) hx hb dX11_weeks_22 (by decide) (fun h_3 => ?_) (fun h_3 => ?_)
      · replace hf := tx_pos hf h_3
        refine lv_aload_n hx hb dX11_weeks_27 rfl (lv_at hl 0 rfl) ?_
        refine gf_X11_42 S hE hw 0 rfl rfl dX11_weeks_28 ?_
        refine lv_iload_n hx hb dX11_weeks_31 rfl (lv_at hl 1 rfl) ?_
        refine lv_iconst (v := 1) hx hb dX11_weeks_32 (by decide) ?_
        have hw := hw.u4
        have hw := hw.u4
        have hw := hw.u4
        have hw := hw.u4
        obtain ⟨u_W_5, v_L_6, v_N_7, h_4, hf⟩ := tx_b3_e hf
        refine tx_cv hw (tx_runN S hE hw (c_X10_goWeeks h_4) lk_X11_213 (q0 := 0) rfl rfl rfl hl.1 (rest := []) rfl (Nat.le_of_ble_eq_true rfl) ⟨by decide, by decide⟩ dX11_weeks_33 ⟨Nat.zero_le _, Nat.zero_le _⟩) (fun H locs hw => ?_)
        refine lv_iload_n hx hb dX11_weeks_36 rfl (lv_at hl 1 rfl) ?_
        refine lv_if_le (tgt := 47) hx hb dX11_weeks_37 (by decide) (fun h_8 => ?_) (fun h_8 => ?_)
        · replace hf := tx_pos hf h_8
          refine lv_aload_n hx hb dX11_weeks_47 rfl (lv_at hl 0 rfl) ?_
          refine gf_X11_42 S hE hw 30 rfl rfl dX11_weeks_48 ?_
          refine gf_X11_210 S hE hw 0 rfl rfl dX11_weeks_51 ?_
          have hw := hw.u5
          have hw := hw.u4
          have hw := hw.u4
          have hw := hw.u4
          have hw := hw.u4
          have hw := hw.u5
          obtain ⟨e0, e1, e2, e3, e4⟩ := tx_in5 hf
          rw [← e0, ← e1, ← e2, ← e3, ← e4]
          exact tx_iret S hr hlk hw dX11_weeks_54
        · replace hf := tx_neg hf h_8
          refine lv_aload_n hx hb dX11_weeks_40 rfl (lv_at hl 0 rfl) ?_
          refine gf_X11_59 S hE hw 30 rfl rfl dX11_weeks_41 ?_
          have hw := hw.u5
          obtain ⟨u_D_10, h_9, hf⟩ := tx_b1_e hf
          refine tx_cv hw (tx_runN S hE hw (c_X1_clear h_9) lk_X11_99 (q0 := 0) rfl rfl rfl hl.1 (rest := []) rfl (Nat.le_of_ble_eq_true rfl) ⟨by decide, by decide⟩ dX11_weeks_44 ⟨Nat.zero_le _, Nat.zero_le _⟩) (fun H locs hw => ?_)
          refine lv_aload_n hx hb dX11_weeks_47 rfl (lv_at hl 0 rfl) ?_
          refine gf_X11_42 S hE hw 34 rfl rfl dX11_weeks_48 ?_
          refine gf_X11_210 S hE hw 4 rfl rfl dX11_weeks_51 ?_
          have hw := hw.u4
          have hw := hw.u4
          have hw := hw.u4
          have hw := hw.u4
          have hw := hw.u5
          obtain ⟨e0, e1, e2, e3, e4⟩ := tx_in5 hf
          rw [← e0, ← e1, ← e2, ← e3, ← e4]
          exact tx_iret S hr hlk hw dX11_weeks_54
      · replace hf := tx_neg hf h_3
        refine lv_iconst (v := -1) hx hb dX11_weeks_25 (by decide) ?_
        obtain ⟨e0, e1, e2, e3, e4⟩ := tx_in5 hf
        rw [← e0, ← e1, ← e2, ← e3, ← e4]
        exact tx_iret S hr hlk hw dX11_weeks_26
def f_X10_copy (fu : Nat) (u_Wa : S32) (u_T : S32) : Option (S32) := tx_let (up2 u_T 0 1 (u_Wa 0 1)) fun (u_T_1 : S32) => tx_let (up2 u_T_1 0 2 (u_Wa 0 2)) fun (u_T_2 : S32) => tx_let (up2 u_T_2 0 3 (u_Wa 0 3)) fun (u_T_3 : S32) => tx_let (rw2 u_T_3 5 (va_cpy (u_Wa 5) (u_T_3 5) 0 0 6)) fun (u_T_4 : S32) => tx_let (rw2 u_T_4 6 (va_cpy (u_Wa 6) (u_T_4 6) 0 0 6)) fun (u_T_5 : S32) => tx_let (rw2 u_T_5 7 (va_cpy (u_Wa 7) (u_T_5 7) 0 0 6)) fun (u_T_6 : S32) => tx_let (rw2 u_T_6 8 (va_cpy (u_Wa 8) (u_T_6 8) 0 0 6)) fun (u_T_7 : S32) => tx_let (rw2 u_T_7 9 (va_cpy (u_Wa 9) (u_T_7 9) 0 0 6)) fun (u_T_8 : S32) => tx_let (rw2 u_T_8 10 (va_cpy (u_Wa 10) (u_T_8 10) 0 0 6)) fun (u_T_9 : S32) => tx_let (rw2 u_T_9 11 (va_cpy (u_Wa 11) (u_T_9 11) 0 0 12)) fun (u_T_10 : S32) => tx_let (rw2 u_T_10 12 (va_cpy (u_Wa 12) (u_T_10 12) 0 0 12)) fun (u_T_11 : S32) => tx_let (rw2 u_T_11 13 (va_cpy (u_Wa 13) (u_T_11 13) 0 0 12)) fun (u_T_12 : S32) => tx_let (rw2 u_T_12 14 (va_cpy (u_Wa 14) (u_T_12 14) 0 0 4)) fun (u_T_13 : S32) => tx_let (rw2 u_T_13 15 (va_cpy (u_Wa 15) (u_T_13 15) 0 0 4)) fun (u_T_14 : S32) => some u_T_14
set_option maxHeartbeats 4000000 in
set_option maxRecDepth 100000 in
theorem c_X10_copy {l : Launch} {g : GG} {A : Nat → Prop} {X : va_W} {fu : Nat} {a_T a_Wa : Nat → Nat} {p_T_0 p_T_16 p_Wa_0 p_Wa_16 : Nat} {u_T : S32} {u_Wa : S32} {zu_T : S32} (hf : f_X10_copy fu u_Wa u_T = some zu_T) : MV l yX10_copy cX10_copy 2 none 1 g A (cl_X10 g a_T p_T_0 p_T_16 u_T ++ (cl_X10 g a_Wa p_Wa_0 p_Wa_16 u_Wa ++ X)) [.ref (a_T 0), .ref (a_Wa 0)] (cl_X10 g a_T p_Wa_0 p_T_16 zu_T ++ (cl_X10 g a_Wa p_Wa_0 p_Wa_16 u_Wa ++ X)) := by
  refine tx_start (av := [.ref (a_T 0), .ref (a_Wa 0)]) (by decide) (Nat.le_of_ble_eq_true rfl) ?_
  intro p e s m below meth c ls S hr hlk hE hw hl
  have S : CallFix p m c cX10_copy 2 s (List.toArray [.ref (a_T 0), .ref (a_Wa 0)]) (Cond.code yX10_copy cX10_copy 2 none :: allW) RX10 := S
  have hx := S.1
  have hb := S.2.1
  have hown := S.2.2.2.1
  have hts : ∀ w ∈ allW, w.before (List.toArray [.ref (a_T 0), .ref (a_Wa 0)]) s = true := fun w h => S.2.2.2.2 w (List.mem_cons_of_mem _ h)
  have hl : lv_has ls 2 [(0, .ref (a_T 0)), (1, .ref (a_Wa 0))] := hl
  unfold f_X10_copy at hf
  refine lv_aload_n hx hb dX10_copy_0 rfl (lv_at hl 0 rfl) ?_
  refine lv_aload_n hx hb dX10_copy_1 rfl (lv_at hl 1 rfl) ?_
  refine gf_X10_49 S hE hw 12 rfl rfl dX10_copy_2 ?_
  refine pf_X10_49 (ws' := cl_X10 g a_T p_Wa_0 p_T_16 u_T ++ (cl_X10 g a_Wa p_Wa_0 p_Wa_16 u_Wa ++ X)) S hE hw rfl rfl 0 rfl (Nat.le_of_ble_eq_true rfl) rfl dX10_copy_5 (fun H locs hw => ?_)
  refine lv_aload_n hx hb dX10_copy_8 rfl (lv_at hl 0 rfl) ?_
  refine lv_aload_n hx hb dX10_copy_9 rfl (lv_at hl 1 rfl) ?_
  refine gf_X10_53 S hE hw 12 rfl rfl dX10_copy_10 ?_
  obtain ⟨u_T_1, eu_T_1⟩ : ∃ z : S32, z = up2 u_T 0 1 (u_Wa 0 1) := ⟨_, rfl⟩
  replace hf := tx_let_e hf eu_T_1
  refine pf_X10_53 (ws' := cl_X10 g a_T p_Wa_0 p_T_16 u_T_1 ++ (cl_X10 g a_Wa p_Wa_0 p_Wa_16 u_Wa ++ X)) S hE hw rfl rfl 0 rfl (Nat.le_of_ble_eq_true rfl) (by rw [eu_T_1]; rfl) dX10_copy_13 (fun H locs hw => ?_)
  refine lv_aload_n hx hb dX10_copy_16 rfl (lv_at hl 0 rfl) ?_
  refine lv_aload_n hx hb dX10_copy_17 rfl (lv_at hl 1 rfl) ?_
  refine gf_X10_62 S hE hw 12 rfl rfl dX10_copy_18 ?_
  obtain ⟨u_T_2, eu_T_2⟩ : ∃ z : S32, z = up2 u_T_1 0 2 (u_Wa 0 2) := ⟨_, rfl⟩
  replace hf := tx_let_e hf eu_T_2
  refine pf_X10_62 (ws' := cl_X10 g a_T p_Wa_0 p_T_16 u_T_2 ++ (cl_X10 g a_Wa p_Wa_0 p_Wa_16 u_Wa ++ X)) S hE hw rfl rfl 0 rfl (Nat.le_of_ble_eq_true rfl) (by rw [eu_T_2]; rfl) dX10_copy_21 (fun H locs hw => ?_)
  refine lv_aload_n hx hb dX10_copy_24 rfl (lv_at hl 0 rfl) ?_
  refine lv_aload_n hx hb dX10_copy_25 rfl (lv_at hl 1 rfl) ?_
  refine gf_X10_66 S hE hw 12 rfl rfl dX10_copy_26 ?_
  obtain ⟨u_T_3, eu_T_3⟩ : ∃ z : S32, z = up2 u_T_2 0 3 (u_Wa 0 3) := ⟨_, rfl⟩
  replace hf := tx_let_e hf eu_T_3
  refine pf_X10_66 (ws' := cl_X10 g a_T p_Wa_0 p_T_16 u_T_3 ++ (cl_X10 g a_Wa p_Wa_0 p_Wa_16 u_Wa ++ X)) S hE hw rfl rfl 0 rfl (Nat.le_of_ble_eq_true rfl) (by rw [eu_T_3]; rfl) dX10_copy_29 (fun H locs hw => ?_)
  refine lv_aload_n hx hb dX10_copy_32 rfl (lv_at hl 1 rfl) ?_
  refine gf_X10_9 S hE hw 12 rfl rfl dX10_copy_33 ?_
  refine lv_iconst (v := 0) hx hb dX10_copy_36 (by decide) ?_
  refine lv_aload_n hx hb dX10_copy_37 rfl (lv_at hl 0 rfl) ?_
  refine gf_X10_9 S hE hw 0 rfl rfl dX10_copy_38 ?_
  refine lv_iconst (v := 0) hx hb dX10_copy_41 (by decide) ?_
  refine lv_bipush (v := 6) hx hb dX10_copy_42 (by decide) ?_
  obtain ⟨u_T_4, eu_T_4⟩ : ∃ z : S32, z = rw2 u_T_3 5 (va_cpy (u_Wa 5) (u_T_3 5) 0 0 6) := ⟨_, rfl⟩
  replace hf := tx_let_e hf eu_T_4
  refine tx_copy (ws' := cl_X10 g a_T p_Wa_0 p_T_16 u_T_4 ++ (cl_X10 g a_Wa p_Wa_0 p_Wa_16 u_Wa ++ X)) S hE hw kw_463 13 1 rfl rfl (by decide) (by decide) (by decide) (by decide) (by decide) hl.1 (by decide) (Nat.le_of_ble_eq_true rfl) (by rw [eu_T_4]; rfl) dX10_copy_44 (fun H locs hw => ?_)
  refine lv_aload_n hx hb dX10_copy_47 rfl (lv_at hl 1 rfl) ?_
  refine gf_X10_15 S hE hw 12 rfl rfl dX10_copy_48 ?_
  refine lv_iconst (v := 0) hx hb dX10_copy_51 (by decide) ?_
  refine lv_aload_n hx hb dX10_copy_52 rfl (lv_at hl 0 rfl) ?_
  refine gf_X10_15 S hE hw 0 rfl rfl dX10_copy_53 ?_
  refine lv_iconst (v := 0) hx hb dX10_copy_56 (by decide) ?_
  refine lv_bipush (v := 6) hx hb dX10_copy_57 (by decide) ?_
  obtain ⟨u_T_5, eu_T_5⟩ : ∃ z : S32, z = rw2 u_T_4 6 (va_cpy (u_Wa 6) (u_T_4 6) 0 0 6) := ⟨_, rfl⟩
  replace hf := tx_let_e hf eu_T_5
  refine tx_copy (ws' := cl_X10 g a_T p_Wa_0 p_T_16 u_T_5 ++ (cl_X10 g a_Wa p_Wa_0 p_Wa_16 u_Wa ++ X)) S hE hw kw_463 14 2 rfl rfl (by decide) (by decide) (by decide) (by decide) (by decide) hl.1 (by decide) (Nat.le_of_ble_eq_true rfl) (by rw [eu_T_5]; rfl) dX10_copy_59 (fun H locs hw => ?_)
  refine lv_aload_n hx hb dX10_copy_62 rfl (lv_at hl 1 rfl) ?_
  refine gf_X10_18 S hE hw 12 rfl rfl dX10_copy_63 ?_
  refine lv_iconst (v := 0) hx hb dX10_copy_66 (by decide) ?_
  refine lv_aload_n hx hb dX10_copy_67 rfl (lv_at hl 0 rfl) ?_
  refine gf_X10_18 S hE hw 0 rfl rfl dX10_copy_68 ?_
  refine lv_iconst (v := 0) hx hb dX10_copy_71 (by decide) ?_
  refine lv_bipush (v := 6) hx hb dX10_copy_72 (by decide) ?_
  obtain ⟨u_T_6, eu_T_6⟩ : ∃ z : S32, z = rw2 u_T_5 7 (va_cpy (u_Wa 7) (u_T_5 7) 0 0 6) := ⟨_, rfl⟩
  replace hf := tx_let_e hf eu_T_6
  refine tx_copy (ws' := cl_X10 g a_T p_Wa_0 p_T_16 u_T_6 ++ (cl_X10 g a_Wa p_Wa_0 p_Wa_16 u_Wa ++ X)) S hE hw kw_463 15 3 rfl rfl (by decide) (by decide) (by decide) (by decide) (by decide) hl.1 (by decide) (Nat.le_of_ble_eq_true rfl) (by rw [eu_T_6]; rfl) dX10_copy_74 (fun H locs hw => ?_)
  refine lv_aload_n hx hb dX10_copy_77 rfl (lv_at hl 1 rfl) ?_
  refine gf_X10_21 S hE hw 12 rfl rfl dX10_copy_78 ?_
  refine lv_iconst (v := 0) hx hb dX10_copy_81 (by decide) ?_
  refine lv_aload_n hx hb dX10_copy_82 rfl (lv_at hl 0 rfl) ?_
  refine gf_X10_21 S hE hw 0 rfl rfl dX10_copy_83 ?_
  refine lv_iconst (v := 0) hx hb dX10_copy_86 (by decide) ?_
  refine lv_bipush (v := 6) hx hb dX10_copy_87 (by decide) ?_
  obtain ⟨u_T_7, eu_T_7⟩ : ∃ z : S32, z = rw2 u_T_6 8 (va_cpy (u_Wa 8) (u_T_6 8) 0 0 6) := ⟨_, rfl⟩
  replace hf := tx_let_e hf eu_T_7
  refine tx_copy (ws' := cl_X10 g a_T p_Wa_0 p_T_16 u_T_7 ++ (cl_X10 g a_Wa p_Wa_0 p_Wa_16 u_Wa ++ X)) S hE hw kw_463 16 4 rfl rfl (by decide) (by decide) (by decide) (by decide) (by decide) hl.1 (by decide) (Nat.le_of_ble_eq_true rfl) (by rw [eu_T_7]; rfl) dX10_copy_89 (fun H locs hw => ?_)
  refine lv_aload_n hx hb dX10_copy_92 rfl (lv_at hl 1 rfl) ?_
  refine gf_X10_24 S hE hw 12 rfl rfl dX10_copy_93 ?_
  refine lv_iconst (v := 0) hx hb dX10_copy_96 (by decide) ?_
  refine lv_aload_n hx hb dX10_copy_97 rfl (lv_at hl 0 rfl) ?_
  refine gf_X10_24 S hE hw 0 rfl rfl dX10_copy_98 ?_
  refine lv_iconst (v := 0) hx hb dX10_copy_101 (by decide) ?_
  refine lv_bipush (v := 6) hx hb dX10_copy_102 (by decide) ?_
  obtain ⟨u_T_8, eu_T_8⟩ : ∃ z : S32, z = rw2 u_T_7 9 (va_cpy (u_Wa 9) (u_T_7 9) 0 0 6) := ⟨_, rfl⟩
  replace hf := tx_let_e hf eu_T_8
  refine tx_copy (ws' := cl_X10 g a_T p_Wa_0 p_T_16 u_T_8 ++ (cl_X10 g a_Wa p_Wa_0 p_Wa_16 u_Wa ++ X)) S hE hw kw_463 17 5 rfl rfl (by decide) (by decide) (by decide) (by decide) (by decide) hl.1 (by decide) (Nat.le_of_ble_eq_true rfl) (by rw [eu_T_8]; rfl) dX10_copy_104 (fun H locs hw => ?_)
  refine lv_aload_n hx hb dX10_copy_107 rfl (lv_at hl 1 rfl) ?_
  refine gf_X10_27 S hE hw 12 rfl rfl dX10_copy_108 ?_
  refine lv_iconst (v := 0) hx hb dX10_copy_111 (by decide) ?_
  refine lv_aload_n hx hb dX10_copy_112 rfl (lv_at hl 0 rfl) ?_
  refine gf_X10_27 S hE hw 0 rfl rfl dX10_copy_113 ?_
  refine lv_iconst (v := 0) hx hb dX10_copy_116 (by decide) ?_
  refine lv_bipush (v := 6) hx hb dX10_copy_117 (by decide) ?_
  obtain ⟨u_T_9, eu_T_9⟩ : ∃ z : S32, z = rw2 u_T_8 10 (va_cpy (u_Wa 10) (u_T_8 10) 0 0 6) := ⟨_, rfl⟩
  replace hf := tx_let_e hf eu_T_9
  refine tx_copy (ws' := cl_X10 g a_T p_Wa_0 p_T_16 u_T_9 ++ (cl_X10 g a_Wa p_Wa_0 p_Wa_16 u_Wa ++ X)) S hE hw kw_463 18 6 rfl rfl (by decide) (by decide) (by decide) (by decide) (by decide) hl.1 (by decide) (Nat.le_of_ble_eq_true rfl) (by rw [eu_T_9]; rfl) dX10_copy_119 (fun H locs hw => ?_)
  refine lv_aload_n hx hb dX10_copy_122 rfl (lv_at hl 1 rfl) ?_
  refine gf_X10_30 S hE hw 12 rfl rfl dX10_copy_123 ?_
  refine lv_iconst (v := 0) hx hb dX10_copy_126 (by decide) ?_
  refine lv_aload_n hx hb dX10_copy_127 rfl (lv_at hl 0 rfl) ?_
  refine gf_X10_30 S hE hw 0 rfl rfl dX10_copy_128 ?_
  refine lv_iconst (v := 0) hx hb dX10_copy_131 (by decide) ?_
  refine lv_bipush (v := 12) hx hb dX10_copy_132 (by decide) ?_
  obtain ⟨u_T_10, eu_T_10⟩ : ∃ z : S32, z = rw2 u_T_9 11 (va_cpy (u_Wa 11) (u_T_9 11) 0 0 12) := ⟨_, rfl⟩
  replace hf := tx_let_e hf eu_T_10
  refine tx_copy (ws' := cl_X10 g a_T p_Wa_0 p_T_16 u_T_10 ++ (cl_X10 g a_Wa p_Wa_0 p_Wa_16 u_Wa ++ X)) S hE hw kw_463 19 7 rfl rfl (by decide) (by decide) (by decide) (by decide) (by decide) hl.1 (by decide) (Nat.le_of_ble_eq_true rfl) (by rw [eu_T_10]; rfl) dX10_copy_134 (fun H locs hw => ?_)
  refine lv_aload_n hx hb dX10_copy_137 rfl (lv_at hl 1 rfl) ?_
  refine gf_X10_33 S hE hw 12 rfl rfl dX10_copy_138 ?_
  refine lv_iconst (v := 0) hx hb dX10_copy_141 (by decide) ?_
  refine lv_aload_n hx hb dX10_copy_142 rfl (lv_at hl 0 rfl) ?_
  refine gf_X10_33 S hE hw 0 rfl rfl dX10_copy_143 ?_
  refine lv_iconst (v := 0) hx hb dX10_copy_146 (by decide) ?_
  refine lv_bipush (v := 12) hx hb dX10_copy_147 (by decide) ?_
  obtain ⟨u_T_11, eu_T_11⟩ : ∃ z : S32, z = rw2 u_T_10 12 (va_cpy (u_Wa 12) (u_T_10 12) 0 0 12) := ⟨_, rfl⟩
  replace hf := tx_let_e hf eu_T_11
  refine tx_copy (ws' := cl_X10 g a_T p_Wa_0 p_T_16 u_T_11 ++ (cl_X10 g a_Wa p_Wa_0 p_Wa_16 u_Wa ++ X)) S hE hw kw_463 20 8 rfl rfl (by decide) (by decide) (by decide) (by decide) (by decide) hl.1 (by decide) (Nat.le_of_ble_eq_true rfl) (by rw [eu_T_11]; rfl) dX10_copy_149 (fun H locs hw => ?_)
  refine lv_aload_n hx hb dX10_copy_152 rfl (lv_at hl 1 rfl) ?_
  refine gf_X10_36 S hE hw 12 rfl rfl dX10_copy_153 ?_
  refine lv_iconst (v := 0) hx hb dX10_copy_156 (by decide) ?_
  refine lv_aload_n hx hb dX10_copy_157 rfl (lv_at hl 0 rfl) ?_
  refine gf_X10_36 S hE hw 0 rfl rfl dX10_copy_158 ?_
  refine lv_iconst (v := 0) hx hb dX10_copy_161 (by decide) ?_
  refine lv_bipush (v := 12) hx hb dX10_copy_162 (by decide) ?_
  obtain ⟨u_T_12, eu_T_12⟩ : ∃ z : S32, z = rw2 u_T_11 13 (va_cpy (u_Wa 13) (u_T_11 13) 0 0 12) := ⟨_, rfl⟩
  replace hf := tx_let_e hf eu_T_12
  refine tx_copy (ws' := cl_X10 g a_T p_Wa_0 p_T_16 u_T_12 ++ (cl_X10 g a_Wa p_Wa_0 p_Wa_16 u_Wa ++ X)) S hE hw kw_463 21 9 rfl rfl (by decide) (by decide) (by decide) (by decide) (by decide) hl.1 (by decide) (Nat.le_of_ble_eq_true rfl) (by rw [eu_T_12]; rfl) dX10_copy_164 (fun H locs hw => ?_)
  refine lv_aload_n hx hb dX10_copy_167 rfl (lv_at hl 1 rfl) ?_
  refine gf_X10_39 S hE hw 12 rfl rfl dX10_copy_168 ?_
  refine lv_iconst (v := 0) hx hb dX10_copy_171 (by decide) ?_
  refine lv_aload_n hx hb dX10_copy_172 rfl (lv_at hl 0 rfl) ?_
  refine gf_X10_39 S hE hw 0 rfl rfl dX10_copy_173 ?_
  refine lv_iconst (v := 0) hx hb dX10_copy_176 (by decide) ?_
  refine lv_iconst (v := 4) hx hb dX10_copy_177 (by decide) ?_
  obtain ⟨u_T_13, eu_T_13⟩ : ∃ z : S32, z = rw2 u_T_12 14 (va_cpy (u_Wa 14) (u_T_12 14) 0 0 4) := ⟨_, rfl⟩
  replace hf := tx_let_e hf eu_T_13
  refine tx_copy (ws' := cl_X10 g a_T p_Wa_0 p_T_16 u_T_13 ++ (cl_X10 g a_Wa p_Wa_0 p_Wa_16 u_Wa ++ X)) S hE hw kw_463 22 10 rfl rfl (by decide) (by decide) (by decide) (by decide) (by decide) hl.1 (by decide) (Nat.le_of_ble_eq_true rfl) (by rw [eu_T_13]; rfl) dX10_copy_178 (fun H locs hw => ?_)
  refine lv_aload_n hx hb dX10_copy_181 rfl (lv_at hl 1 rfl) ?_
  refine gf_X10_42 S hE hw 12 rfl rfl dX10_copy_182 ?_
  refine lv_iconst (v := 0) hx hb dX10_copy_185 (by decide) ?_
  refine lv_aload_n hx hb dX10_copy_186 rfl (lv_at hl 0 rfl) ?_
  refine gf_X10_42 S hE hw 0 rfl rfl dX10_copy_187 ?_
  refine lv_iconst (v := 0) hx hb dX10_copy_190 (by decide) ?_
  refine lv_iconst (v := 4) hx hb dX10_copy_191 (by decide) ?_
  obtain ⟨u_T_14, eu_T_14⟩ : ∃ z : S32, z = rw2 u_T_13 15 (va_cpy (u_Wa 15) (u_T_13 15) 0 0 4) := ⟨_, rfl⟩
  replace hf := tx_let_e hf eu_T_14
  refine tx_copy (ws' := cl_X10 g a_T p_Wa_0 p_T_16 u_T_14 ++ (cl_X10 g a_Wa p_Wa_0 p_Wa_16 u_Wa ++ X)) S hE hw kw_463 23 11 rfl rfl (by decide) (by decide) (by decide) (by decide) (by decide) hl.1 (by decide) (Nat.le_of_ble_eq_true rfl) (by rw [eu_T_14]; rfl) dX10_copy_192 (fun H locs hw => ?_)
  obtain e0 := tx_in1 hf
  rw [← e0]
  exact tx_vret S hr hlk hw dX10_copy_195
def f_X10_sum_tX10r7_J4 (fu : Nat) (u_T : S32) (u_B : S32) (K4 : Int32 → Int32 → Option (Int32)) (w2 : Int32) (w3 : Int32) : Option (Int32) := if (u_B 0 1) ≤ w3 then (some w2) else (if (6 : Int32) ≤ w3 then (some w2) else (if (6 : Int32) ≤ w3 then (some w2) else (tx_ck w3 6 <| tx_let (w2 + (u_T 7 w3.toNatClampNeg)) fun (y_5 : Int32) => tx_let (w3 + (1 : Int32)) fun (y_6 : Int32) => K4 y_5 y_6)))
def f_X10_sum_tX10r7_L4 (fu : Nat) (u_T : S32) (u_B : S32) : Nat → Int32 → Int32 → Option (Int32)
  | 0 => fun _ _ => none
  | n + 1 => f_X10_sum_tX10r7_J4 fu u_T u_B (f_X10_sum_tX10r7_L4 fu u_T u_B n)
def f_X10_sum_tX10r7 (fu : Nat) (u_T : S32) (u_B : S32) : Option (Int32) := f_X10_sum_tX10r7_L4 fu u_T u_B fu (0 : Int32) (0 : Int32)
set_option maxHeartbeats 4000000 in
set_option maxRecDepth 100000 in
theorem c_X10_sum_tX10r7 {l : Launch} {g : GG} {A : Nat → Prop} {X : va_W} {fu : Nat} {a_T a_B : Nat → Nat} {p_T_16 p_B_17 : Nat} {u_T : S32} {u_B : S32} {r : Int32} (hf : f_X10_sum_tX10r7 fu u_T u_B = some r) : MI l yX10_sum cX10_sum 4 (some .int) 0 g A (cl_X10 g a_T (a_B 0) p_T_16 u_T ++ (cl_X0 g a_B p_B_17 u_B ++ X)) [.ref (a_T 0), .ref (a_T 7)] r (cl_X10 g a_T (a_B 0) p_T_16 u_T ++ (cl_X0 g a_B p_B_17 u_B ++ X)) := by
  refine tx_start (av := [.ref (a_T 0), .ref (a_T 7)]) (by decide) (Nat.le_of_ble_eq_true rfl) ?_
  intro p e s m below meth c ls S hr hlk hE hw hl
  have S : CallFix p m c cX10_sum 4 s (List.toArray [.ref (a_T 0), .ref (a_T 7)]) (Cond.code yX10_sum cX10_sum 4 (some .int) :: allW) RX10 := S
  have hx := S.1
  have hb := S.2.1
  have hown := S.2.2.2.1
  have hts : ∀ w ∈ allW, w.before (List.toArray [.ref (a_T 0), .ref (a_T 7)]) s = true := fun w h => S.2.2.2.2 w (List.mem_cons_of_mem _ h)
  have hl : lv_has ls 4 [(0, .ref (a_T 0)), (1, .ref (a_T 7))] := hl
  have J4 : ∀ {K4 : Int32 → Int32 → Option (Int32)} (hK4 : ∀ {w2 : Int32} {w3 : Int32} {H : Heap} {locs : List Loc} {ls : Array Slot}, K4 w2 w3 = some r → WD g A s.heap (cl_X10 g a_T (a_B 0) p_T_16 u_T ++ (cl_X0 g a_B p_B_17 u_B ++ X)) H locs → lv_has ls 4 [(0, .ref (a_T 0)), (1, .ref (a_T 7)), (2, .int w2), (3, .int w3)] → W p l e (rmH 0) s m (List.toArray [.ref (a_T 0), .ref (a_T 7)]) below meth c H locs 0 0 (MQ below (va_Qi (fun r2 (_ : Unit) => r2 = r) (fun _ t => POST g A (cl_X10 g a_T (a_B 0) p_T_16 u_T ++ (cl_X0 g a_B p_B_17 u_B ++ X)) t) A) (List.toArray [.ref (a_T 0), .ref (a_T 7)]) s 0 0 A) (F0 m 4 ls [])), ∀ {w2 : Int32} {w3 : Int32} {H : Heap} {locs : List Loc} {ls : Array Slot}, f_X10_sum_tX10r7_J4 fu u_T u_B K4 w2 w3 = some r → WD g A s.heap (cl_X10 g a_T (a_B 0) p_T_16 u_T ++ (cl_X0 g a_B p_B_17 u_B ++ X)) H locs → lv_has ls 4 [(0, .ref (a_T 0)), (1, .ref (a_T 7)), (2, .int w2), (3, .int w3)] → W p l e (rmH 0) s m (List.toArray [.ref (a_T 0), .ref (a_T 7)]) below meth c H locs 0 0 (MQ below (va_Qi (fun r2 (_ : Unit) => r2 = r) (fun _ t => POST g A (cl_X10 g a_T (a_B 0) p_T_16 u_T ++ (cl_X0 g a_B p_B_17 u_B ++ X)) t) A) (List.toArray [.ref (a_T 0), .ref (a_T 7)]) s 0 0 A) (F0 m 4 ls []) := by
    intro K4 hK4 w2 w3 H locs ls hf hw hl
    unfold f_X10_sum_tX10r7_J4 at hf
    refine lv_iload_n hx hb dX10_sum_4 rfl (lv_at hl 3 rfl) ?_
    refine lv_aload_n hx hb dX10_sum_5 rfl (lv_at hl 0 rfl) ?_
    refine gf_X10_49 S hE hw 0 rfl rfl dX10_sum_6 ?_
    refine gf_X10_93 S hE hw 12 rfl rfl dX10_sum_9 ?_
    refine lv_icmp_ge (tgt := 39) hx hb dX10_sum_12 (by decide) (fun h_1 => ?_) (fun h_1 => ?_)
    · replace hf := tx_pos hf h_1
      refine lv_iload_n hx hb dX10_sum_39 rfl (lv_at hl 2 rfl) ?_
      obtain e0 := tx_in1 hf
      rw [← e0]
      exact tx_iret S hr hlk hw dX10_sum_40
    · replace hf := tx_neg hf h_1
      refine lv_iload_n hx hb dX10_sum_15 rfl (lv_at hl 3 rfl) ?_
      refine lv_bipush (v := 6) hx hb dX10_sum_16 (by decide) ?_
      refine lv_icmp_ge (tgt := 39) hx hb dX10_sum_18 (by decide) (fun h_2 => ?_) (fun h_2 => ?_)
      · replace hf := tx_pos hf h_2
        refine lv_iload_n hx hb dX10_sum_39 rfl (lv_at hl 2 rfl) ?_
        obtain e0 := tx_in1 hf
        rw [← e0]
        exact tx_iret S hr hlk hw dX10_sum_40
      · replace hf := tx_neg hf h_2
        refine lv_iload_n hx hb dX10_sum_21 rfl (lv_at hl 3 rfl) ?_
        refine lv_aload_n hx hb dX10_sum_22 rfl (lv_at hl 1 rfl) ?_
        refine tx_alen (v := 6) S hE hw 3 1 rfl rfl rfl dX10_sum_23 ?_
        refine lv_icmp_ge (tgt := 39) hx hb dX10_sum_24 (by decide) (fun h_3 => ?_) (fun h_3 => ?_)
        · replace hf := tx_pos hf h_3
          refine lv_iload_n hx hb dX10_sum_39 rfl (lv_at hl 2 rfl) ?_
          obtain e0 := tx_in1 hf
          rw [← e0]
          exact tx_iret S hr hlk hw dX10_sum_40
        · replace hf := tx_neg hf h_3
          refine lv_iload_n hx hb dX10_sum_27 rfl (lv_at hl 2 rfl) ?_
          refine lv_aload_n hx hb dX10_sum_28 rfl (lv_at hl 1 rfl) ?_
          refine lv_iload_n hx hb dX10_sum_29 rfl (lv_at hl 3 rfl) ?_
          obtain ⟨h_4, hf⟩ := tx_ck_e hf
          refine tx_iald S hE hw 3 rfl h_4 dX10_sum_30 ?_
          refine lv_iadd hx hb dX10_sum_31 ?_
          refine lv_topi (fun y_5 ey_5 => ?_)
          replace hf := tx_let_e hf ey_5
          refine lv_istore_n (lv' := [(2, .int y_5), (0, .ref (a_T 0)), (1, .ref (a_T 7)), (3, .int w3)]) hx hb dX10_sum_32 rfl hl (by decide) rfl (fun ls hl => ?_)
          obtain ⟨y_6, ey_6⟩ : ∃ y : Int32, y = w3 + (1 : Int32) := ⟨_, rfl⟩
          replace hf := tx_let_e hf ey_6
          refine lv_iinc (v := y_6) (lv' := [(3, .int y_6), (2, .int y_5), (0, .ref (a_T 0)), (1, .ref (a_T 7))]) hx hb dX10_sum_33 hl (k := 3) rfl (by rw [ey_6]; rfl) (by decide) rfl (fun ls hl => ?_)
          refine lv_goto (tgt := 4) hx hb dX10_sum_36 (by decide) ?_
          exact hK4 hf hw (lv_sub hl [2, 3, 1, 0] rfl)
  have L4 : ∀ (n : Nat), ∀ {w2 : Int32} {w3 : Int32} {H : Heap} {locs : List Loc} {ls : Array Slot}, f_X10_sum_tX10r7_L4 fu u_T u_B n w2 w3 = some r → WD g A s.heap (cl_X10 g a_T (a_B 0) p_T_16 u_T ++ (cl_X0 g a_B p_B_17 u_B ++ X)) H locs → lv_has ls 4 [(0, .ref (a_T 0)), (1, .ref (a_T 7)), (2, .int w2), (3, .int w3)] → W p l e (rmH 0) s m (List.toArray [.ref (a_T 0), .ref (a_T 7)]) below meth c H locs 0 0 (MQ below (va_Qi (fun r2 (_ : Unit) => r2 = r) (fun _ t => POST g A (cl_X10 g a_T (a_B 0) p_T_16 u_T ++ (cl_X0 g a_B p_B_17 u_B ++ X)) t) A) (List.toArray [.ref (a_T 0), .ref (a_T 7)]) s 0 0 A) (F0 m 4 ls []) := by
    intro  n
    induction n with
    | zero => intro w2 w3 H locs ls hf; exact absurd hf (by intro q; cases q)
    | succ n ih => exact fun hf hw hl => J4 ih hf hw hl
  unfold f_X10_sum_tX10r7 at hf
  refine lv_iconst (v := 0) hx hb dX10_sum_0 (by decide) ?_
  refine lv_istore_n (lv' := [(2, .int (0 : Int32)), (0, .ref (a_T 0)), (1, .ref (a_T 7))]) hx hb dX10_sum_1 rfl hl (by decide) rfl (fun ls hl => ?_)
  refine lv_iconst (v := 0) hx hb dX10_sum_2 (by decide) ?_
  refine lv_istore_n (lv' := [(3, .int (0 : Int32)), (2, .int (0 : Int32)), (0, .ref (a_T 0)), (1, .ref (a_T 7))]) hx hb dX10_sum_3 rfl hl (by decide) rfl (fun ls hl => ?_)
  exact L4 fu hf hw (lv_sub hl [2, 3, 1, 0] rfl)
def f_X10_sum_tX10r8_J4 (fu : Nat) (u_T : S32) (u_B : S32) (K4 : Int32 → Int32 → Option (Int32)) (w2 : Int32) (w3 : Int32) : Option (Int32) := if (u_B 0 1) ≤ w3 then (some w2) else (if (6 : Int32) ≤ w3 then (some w2) else (if (6 : Int32) ≤ w3 then (some w2) else (tx_ck w3 6 <| tx_let (w2 + (u_T 8 w3.toNatClampNeg)) fun (y_5 : Int32) => tx_let (w3 + (1 : Int32)) fun (y_6 : Int32) => K4 y_5 y_6)))
def f_X10_sum_tX10r8_L4 (fu : Nat) (u_T : S32) (u_B : S32) : Nat → Int32 → Int32 → Option (Int32)
  | 0 => fun _ _ => none
  | n + 1 => f_X10_sum_tX10r8_J4 fu u_T u_B (f_X10_sum_tX10r8_L4 fu u_T u_B n)
def f_X10_sum_tX10r8 (fu : Nat) (u_T : S32) (u_B : S32) : Option (Int32) := f_X10_sum_tX10r8_L4 fu u_T u_B fu (0 : Int32) (0 : Int32)
set_option maxHeartbeats 4000000 in
set_option maxRecDepth 100000 in
theorem c_X10_sum_tX10r8 {l : Launch} {g : GG} {A : Nat → Prop} {X : va_W} {fu : Nat} {a_T a_B : Nat → Nat} {p_T_16 p_B_17 : Nat} {u_T : S32} {u_B : S32} {r : Int32} (hf : f_X10_sum_tX10r8 fu u_T u_B = some r) : MI l yX10_sum cX10_sum 4 (some .int) 0 g A (cl_X10 g a_T (a_B 0) p_T_16 u_T ++ (cl_X0 g a_B p_B_17 u_B ++ X)) [.ref (a_T 0), .ref (a_T 8)] r (cl_X10 g a_T (a_B 0) p_T_16 u_T ++ (cl_X0 g a_B p_B_17 u_B ++ X)) := by
  refine tx_start (av := [.ref (a_T 0), .ref (a_T 8)]) (by decide) (Nat.le_of_ble_eq_true rfl) ?_
  intro p e s m below meth c ls S hr hlk hE hw hl
  have S : CallFix p m c cX10_sum 4 s (List.toArray [.ref (a_T 0), .ref (a_T 8)]) (Cond.code yX10_sum cX10_sum 4 (some .int) :: allW) RX10 := S
  have hx := S.1
  have hb := S.2.1
  have hown := S.2.2.2.1
  have hts : ∀ w ∈ allW, w.before (List.toArray [.ref (a_T 0), .ref (a_T 8)]) s = true := fun w h => S.2.2.2.2 w (List.mem_cons_of_mem _ h)
  have hl : lv_has ls 4 [(0, .ref (a_T 0)), (1, .ref (a_T 8))] := hl
  have J4 : ∀ {K4 : Int32 → Int32 → Option (Int32)} (hK4 : ∀ {w2 : Int32} {w3 : Int32} {H : Heap} {locs : List Loc} {ls : Array Slot}, K4 w2 w3 = some r → WD g A s.heap (cl_X10 g a_T (a_B 0) p_T_16 u_T ++ (cl_X0 g a_B p_B_17 u_B ++ X)) H locs → lv_has ls 4 [(0, .ref (a_T 0)), (1, .ref (a_T 8)), (2, .int w2), (3, .int w3)] → W p l e (rmH 0) s m (List.toArray [.ref (a_T 0), .ref (a_T 8)]) below meth c H locs 0 0 (MQ below (va_Qi (fun r2 (_ : Unit) => r2 = r) (fun _ t => POST g A (cl_X10 g a_T (a_B 0) p_T_16 u_T ++ (cl_X0 g a_B p_B_17 u_B ++ X)) t) A) (List.toArray [.ref (a_T 0), .ref (a_T 8)]) s 0 0 A) (F0 m 4 ls [])), ∀ {w2 : Int32} {w3 : Int32} {H : Heap} {locs : List Loc} {ls : Array Slot}, f_X10_sum_tX10r8_J4 fu u_T u_B K4 w2 w3 = some r → WD g A s.heap (cl_X10 g a_T (a_B 0) p_T_16 u_T ++ (cl_X0 g a_B p_B_17 u_B ++ X)) H locs → lv_has ls 4 [(0, .ref (a_T 0)), (1, .ref (a_T 8)), (2, .int w2), (3, .int w3)] → W p l e (rmH 0) s m (List.toArray [.ref (a_T 0), .ref (a_T 8)]) below meth c H locs 0 0 (MQ below (va_Qi (fun r2 (_ : Unit) => r2 = r) (fun _ t => POST g A (cl_X10 g a_T (a_B 0) p_T_16 u_T ++ (cl_X0 g a_B p_B_17 u_B ++ X)) t) A) (List.toArray [.ref (a_T 0), .ref (a_T 8)]) s 0 0 A) (F0 m 4 ls []) := by
    intro K4 hK4 w2 w3 H locs ls hf hw hl
    unfold f_X10_sum_tX10r8_J4 at hf
    refine lv_iload_n hx hb dX10_sum_4 rfl (lv_at hl 3 rfl) ?_
    refine lv_aload_n hx hb dX10_sum_5 rfl (lv_at hl 0 rfl) ?_
    refine gf_X10_49 S hE hw 0 rfl rfl dX10_sum_6 ?_
    refine gf_X10_93 S hE hw 12 rfl rfl dX10_sum_9 ?_
    refine lv_icmp_ge (tgt := 39) hx hb dX10_sum_12 (by decide) (fun h_1 => ?_) (fun h_1 => ?_)
    · replace hf := tx_pos hf h_1
      refine lv_iload_n hx hb dX10_sum_39 rfl (lv_at hl 2 rfl) ?_
      obtain e0 := tx_in1 hf
      rw [← e0]
      exact tx_iret S hr hlk hw dX10_sum_40
    · replace hf := tx_neg hf h_1
      refine lv_iload_n hx hb dX10_sum_15 rfl (lv_at hl 3 rfl) ?_
      refine lv_bipush (v := 6) hx hb dX10_sum_16 (by decide) ?_
      refine lv_icmp_ge (tgt := 39) hx hb dX10_sum_18 (by decide) (fun h_2 => ?_) (fun h_2 => ?_)
      · replace hf := tx_pos hf h_2
        refine lv_iload_n hx hb dX10_sum_39 rfl (lv_at hl 2 rfl) ?_
        obtain e0 := tx_in1 hf
        rw [← e0]
        exact tx_iret S hr hlk hw dX10_sum_40
      · replace hf := tx_neg hf h_2
        refine lv_iload_n hx hb dX10_sum_21 rfl (lv_at hl 3 rfl) ?_
        refine lv_aload_n hx hb dX10_sum_22 rfl (lv_at hl 1 rfl) ?_
        refine tx_alen (v := 6) S hE hw 4 1 rfl rfl rfl dX10_sum_23 ?_
        refine lv_icmp_ge (tgt := 39) hx hb dX10_sum_24 (by decide) (fun h_3 => ?_) (fun h_3 => ?_)
        · replace hf := tx_pos hf h_3
          refine lv_iload_n hx hb dX10_sum_39 rfl (lv_at hl 2 rfl) ?_
          obtain e0 := tx_in1 hf
          rw [← e0]
          exact tx_iret S hr hlk hw dX10_sum_40
        · replace hf := tx_neg hf h_3
          refine lv_iload_n hx hb dX10_sum_27 rfl (lv_at hl 2 rfl) ?_
          refine lv_aload_n hx hb dX10_sum_28 rfl (lv_at hl 1 rfl) ?_
          refine lv_iload_n hx hb dX10_sum_29 rfl (lv_at hl 3 rfl) ?_
          obtain ⟨h_4, hf⟩ := tx_ck_e hf
          refine tx_iald S hE hw 4 rfl h_4 dX10_sum_30 ?_
          refine lv_iadd hx hb dX10_sum_31 ?_
          refine lv_topi (fun y_5 ey_5 => ?_)
          replace hf := tx_let_e hf ey_5
          refine lv_istore_n (lv' := [(2, .int y_5), (0, .ref (a_T 0)), (1, .ref (a_T 8)), (3, .int w3)]) hx hb dX10_sum_32 rfl hl (by decide) rfl (fun ls hl => ?_)
          obtain ⟨y_6, ey_6⟩ : ∃ y : Int32, y = w3 + (1 : Int32) := ⟨_, rfl⟩
          replace hf := tx_let_e hf ey_6
          refine lv_iinc (v := y_6) (lv' := [(3, .int y_6), (2, .int y_5), (0, .ref (a_T 0)), (1, .ref (a_T 8))]) hx hb dX10_sum_33 hl (k := 3) rfl (by rw [ey_6]; rfl) (by decide) rfl (fun ls hl => ?_)
          refine lv_goto (tgt := 4) hx hb dX10_sum_36 (by decide) ?_
          exact hK4 hf hw (lv_sub hl [2, 3, 1, 0] rfl)
  have L4 : ∀ (n : Nat), ∀ {w2 : Int32} {w3 : Int32} {H : Heap} {locs : List Loc} {ls : Array Slot}, f_X10_sum_tX10r8_L4 fu u_T u_B n w2 w3 = some r → WD g A s.heap (cl_X10 g a_T (a_B 0) p_T_16 u_T ++ (cl_X0 g a_B p_B_17 u_B ++ X)) H locs → lv_has ls 4 [(0, .ref (a_T 0)), (1, .ref (a_T 8)), (2, .int w2), (3, .int w3)] → W p l e (rmH 0) s m (List.toArray [.ref (a_T 0), .ref (a_T 8)]) below meth c H locs 0 0 (MQ below (va_Qi (fun r2 (_ : Unit) => r2 = r) (fun _ t => POST g A (cl_X10 g a_T (a_B 0) p_T_16 u_T ++ (cl_X0 g a_B p_B_17 u_B ++ X)) t) A) (List.toArray [.ref (a_T 0), .ref (a_T 8)]) s 0 0 A) (F0 m 4 ls []) := by
    intro  n
    induction n with
    | zero => intro w2 w3 H locs ls hf; exact absurd hf (by intro q; cases q)
    | succ n ih => exact fun hf hw hl => J4 ih hf hw hl
  unfold f_X10_sum_tX10r8 at hf
  refine lv_iconst (v := 0) hx hb dX10_sum_0 (by decide) ?_
  refine lv_istore_n (lv' := [(2, .int (0 : Int32)), (0, .ref (a_T 0)), (1, .ref (a_T 8))]) hx hb dX10_sum_1 rfl hl (by decide) rfl (fun ls hl => ?_)
  refine lv_iconst (v := 0) hx hb dX10_sum_2 (by decide) ?_
  refine lv_istore_n (lv' := [(3, .int (0 : Int32)), (2, .int (0 : Int32)), (0, .ref (a_T 0)), (1, .ref (a_T 8))]) hx hb dX10_sum_3 rfl hl (by decide) rfl (fun ls hl => ?_)
  exact L4 fu hf hw (lv_sub hl [2, 3, 1, 0] rfl)
def f_X10_countOf_J37 (fu : Nat) (u_T : S32) (u_B : S32) (K4 : Int32 → Int32 → Int32 → Option (Int32)) (w1 : Int32) (w3 : Int32) (t0 : Int32) (t1 : Int32) : Option (Int32) := tx_let (t0 + t1) fun (y_5 : Int32) => tx_let (w3 + (1 : Int32)) fun (y_6 : Int32) => K4 w1 y_5 y_6
def f_X10_countOf_J4 (fu : Nat) (u_T : S32) (u_B : S32) (K4 : Int32 → Int32 → Int32 → Option (Int32)) (w1 : Int32) (w2 : Int32) (w3 : Int32) : Option (Int32) := if (u_B 0 5) ≤ w3 then (some w2) else (if (12 : Int32) ≤ w3 then (some w2) else (tx_ck w3 12 <| if (u_T 11 w3.toNatClampNeg) = w1 then (f_X10_countOf_J37 fu u_T u_B K4 w1 w3 w2 (1 : Int32)) else (f_X10_countOf_J37 fu u_T u_B K4 w1 w3 w2 (0 : Int32))))
def f_X10_countOf_L4 (fu : Nat) (u_T : S32) (u_B : S32) : Nat → Int32 → Int32 → Int32 → Option (Int32)
  | 0 => fun _ _ _ => none
  | n + 1 => f_X10_countOf_J4 fu u_T u_B (f_X10_countOf_L4 fu u_T u_B n)
def f_X10_countOf (fu : Nat) (u_T : S32) (u_B : S32) (x1 : Int32) : Option (Int32) := f_X10_countOf_L4 fu u_T u_B fu x1 (0 : Int32) (0 : Int32)
set_option maxHeartbeats 4000000 in
set_option maxRecDepth 100000 in
theorem c_X10_countOf {l : Launch} {g : GG} {A : Nat → Prop} {X : va_W} {fu : Nat} {a_T a_B : Nat → Nat} {p_T_16 p_B_17 : Nat} {u_T : S32} {u_B : S32} {x1 : Int32} {r : Int32} (hf : f_X10_countOf fu u_T u_B x1 = some r) : MI l yX10_countOf cX10_countOf 4 (some .int) 0 g A (cl_X10 g a_T (a_B 0) p_T_16 u_T ++ (cl_X0 g a_B p_B_17 u_B ++ X)) [.ref (a_T 0), .int x1] r (cl_X10 g a_T (a_B 0) p_T_16 u_T ++ (cl_X0 g a_B p_B_17 u_B ++ X)) := by
  refine tx_start (av := [.ref (a_T 0), .int x1]) (by decide) (Nat.le_of_ble_eq_true rfl) ?_
  intro p e s m below meth c ls S hr hlk hE hw hl
  have S : CallFix p m c cX10_countOf 4 s (List.toArray [.ref (a_T 0), .int x1]) (Cond.code yX10_countOf cX10_countOf 4 (some .int) :: allW) RX10 := S
  have hx := S.1
  have hb := S.2.1
  have hown := S.2.2.2.1
  have hts : ∀ w ∈ allW, w.before (List.toArray [.ref (a_T 0), .int x1]) s = true := fun w h => S.2.2.2.2 w (List.mem_cons_of_mem _ h)
  have hl : lv_has ls 4 [(0, .ref (a_T 0)), (1, .int x1)] := hl
  have J37 : ∀ {K4 : Int32 → Int32 → Int32 → Option (Int32)} (hK4 : ∀ {w1 : Int32} {w2 : Int32} {w3 : Int32} {H : Heap} {locs : List Loc} {ls : Array Slot}, K4 w1 w2 w3 = some r → WD g A s.heap (cl_X10 g a_T (a_B 0) p_T_16 u_T ++ (cl_X0 g a_B p_B_17 u_B ++ X)) H locs → lv_has ls 4 [(0, .ref (a_T 0)), (1, .int w1), (2, .int w2), (3, .int w3)] → W p l e (rmH 0) s m (List.toArray [.ref (a_T 0), .int x1]) below meth c H locs 0 0 (MQ below (va_Qi (fun r2 (_ : Unit) => r2 = r) (fun _ t => POST g A (cl_X10 g a_T (a_B 0) p_T_16 u_T ++ (cl_X0 g a_B p_B_17 u_B ++ X)) t) A) (List.toArray [.ref (a_T 0), .int x1]) s 0 0 A) (F0 m 4 ls [])), ∀ {w1 : Int32} {w3 : Int32} {t0 : Int32} {t1 : Int32} {H : Heap} {locs : List Loc} {ls : Array Slot}, f_X10_countOf_J37 fu u_T u_B K4 w1 w3 t0 t1 = some r → WD g A s.heap (cl_X10 g a_T (a_B 0) p_T_16 u_T ++ (cl_X0 g a_B p_B_17 u_B ++ X)) H locs → lv_has ls 4 [(0, .ref (a_T 0)), (1, .int w1), (3, .int w3)] → W p l e (rmH 0) s m (List.toArray [.ref (a_T 0), .int x1]) below meth c H locs 0 0 (MQ below (va_Qi (fun r2 (_ : Unit) => r2 = r) (fun _ t => POST g A (cl_X10 g a_T (a_B 0) p_T_16 u_T ++ (cl_X0 g a_B p_B_17 u_B ++ X)) t) A) (List.toArray [.ref (a_T 0), .int x1]) s 0 0 A) (F0 m 37 ls [.int t1, .int t0]) := by
    intro K4 hK4 w1 w3 t0 t1 H locs ls hf hw hl
    unfold f_X10_countOf_J37 at hf
    refine lv_iadd hx hb dX10_countOf_37 ?_
    refine lv_topi (fun y_5 ey_5 => ?_)
    replace hf := tx_let_e hf ey_5
    refine lv_istore_n (lv' := [(2, .int y_5), (0, .ref (a_T 0)), (1, .int w1), (3, .int w3)]) hx hb dX10_countOf_38 rfl hl (by decide) rfl (fun ls hl => ?_)
    obtain ⟨y_6, ey_6⟩ : ∃ y : Int32, y = w3 + (1 : Int32) := ⟨_, rfl⟩
    replace hf := tx_let_e hf ey_6
    refine lv_iinc (v := y_6) (lv' := [(3, .int y_6), (2, .int y_5), (0, .ref (a_T 0)), (1, .int w1)]) hx hb dX10_countOf_39 hl (k := 3) rfl (by rw [ey_6]; rfl) (by decide) rfl (fun ls hl => ?_)
    refine lv_goto (tgt := 4) hx hb dX10_countOf_42 (by decide) ?_
    exact hK4 hf hw (lv_sub hl [2, 3, 1, 0] rfl)
  have J4 : ∀ {K4 : Int32 → Int32 → Int32 → Option (Int32)} (hK4 : ∀ {w1 : Int32} {w2 : Int32} {w3 : Int32} {H : Heap} {locs : List Loc} {ls : Array Slot}, K4 w1 w2 w3 = some r → WD g A s.heap (cl_X10 g a_T (a_B 0) p_T_16 u_T ++ (cl_X0 g a_B p_B_17 u_B ++ X)) H locs → lv_has ls 4 [(0, .ref (a_T 0)), (1, .int w1), (2, .int w2), (3, .int w3)] → W p l e (rmH 0) s m (List.toArray [.ref (a_T 0), .int x1]) below meth c H locs 0 0 (MQ below (va_Qi (fun r2 (_ : Unit) => r2 = r) (fun _ t => POST g A (cl_X10 g a_T (a_B 0) p_T_16 u_T ++ (cl_X0 g a_B p_B_17 u_B ++ X)) t) A) (List.toArray [.ref (a_T 0), .int x1]) s 0 0 A) (F0 m 4 ls [])), ∀ {w1 : Int32} {w2 : Int32} {w3 : Int32} {H : Heap} {locs : List Loc} {ls : Array Slot}, f_X10_countOf_J4 fu u_T u_B K4 w1 w2 w3 = some r → WD g A s.heap (cl_X10 g a_T (a_B 0) p_T_16 u_T ++ (cl_X0 g a_B p_B_17 u_B ++ X)) H locs → lv_has ls 4 [(0, .ref (a_T 0)), (1, .int w1), (2, .int w2), (3, .int w3)] → W p l e (rmH 0) s m (List.toArray [.ref (a_T 0), .int x1]) below meth c H locs 0 0 (MQ below (va_Qi (fun r2 (_ : Unit) => r2 = r) (fun _ t => POST g A (cl_X10 g a_T (a_B 0) p_T_16 u_T ++ (cl_X0 g a_B p_B_17 u_B ++ X)) t) A) (List.toArray [.ref (a_T 0), .int x1]) s 0 0 A) (F0 m 4 ls []) := by
    intro K4 hK4 w1 w2 w3 H locs ls hf hw hl
    unfold f_X10_countOf_J4 at hf
    refine lv_iload_n hx hb dX10_countOf_4 rfl (lv_at hl 3 rfl) ?_
    refine lv_aload_n hx hb dX10_countOf_5 rfl (lv_at hl 0 rfl) ?_
    refine gf_X10_49 S hE hw 0 rfl rfl dX10_countOf_6 ?_
    refine gf_X10_117 S hE hw 12 rfl rfl dX10_countOf_9 ?_
    refine lv_icmp_ge (tgt := 45) hx hb dX10_countOf_12 (by decide) (fun h_1 => ?_) (fun h_1 => ?_)
    · replace hf := tx_pos hf h_1
      refine lv_iload_n hx hb dX10_countOf_45 rfl (lv_at hl 2 rfl) ?_
      obtain e0 := tx_in1 hf
      rw [← e0]
      exact tx_iret S hr hlk hw dX10_countOf_46
    · replace hf := tx_neg hf h_1
      refine lv_iload_n hx hb dX10_countOf_15 rfl (lv_at hl 3 rfl) ?_
      refine lv_bipush (v := 12) hx hb dX10_countOf_16 (by decide) ?_
      refine lv_icmp_ge (tgt := 45) hx hb dX10_countOf_18 (by decide) (fun h_2 => ?_) (fun h_2 => ?_)
      · replace hf := tx_pos hf h_2
        refine lv_iload_n hx hb dX10_countOf_45 rfl (lv_at hl 2 rfl) ?_
        obtain e0 := tx_in1 hf
        rw [← e0]
        exact tx_iret S hr hlk hw dX10_countOf_46
      · replace hf := tx_neg hf h_2
        refine lv_iload_n hx hb dX10_countOf_21 rfl (lv_at hl 2 rfl) ?_
        refine lv_aload_n hx hb dX10_countOf_22 rfl (lv_at hl 0 rfl) ?_
        refine gf_X10_30 S hE hw 0 rfl rfl dX10_countOf_23 ?_
        refine lv_iload_n hx hb dX10_countOf_26 rfl (lv_at hl 3 rfl) ?_
        obtain ⟨h_3, hf⟩ := tx_ck_e hf
        refine tx_iald S hE hw 7 rfl h_3 dX10_countOf_27 ?_
        refine lv_iload_n hx hb dX10_countOf_28 rfl (lv_at hl 1 rfl) ?_
        refine lv_icmp_ne (tgt := 36) hx hb dX10_countOf_29 (by decide) (fun h_4 => ?_) (fun h_4 => ?_)
        · replace hf := tx_neg hf h_4
          refine lv_iconst (v := 0) hx hb dX10_countOf_36 (by decide) ?_
          exact J37 hK4 hf hw (lv_sub hl [0, 1, 3] rfl)
        · replace hf := tx_pos hf h_4
          refine lv_iconst (v := 1) hx hb dX10_countOf_32 (by decide) ?_
          refine lv_goto (tgt := 37) hx hb dX10_countOf_33 (by decide) ?_
          exact J37 hK4 hf hw (lv_sub hl [0, 1, 3] rfl)
  have L4 : ∀ (n : Nat), ∀ {w1 : Int32} {w2 : Int32} {w3 : Int32} {H : Heap} {locs : List Loc} {ls : Array Slot}, f_X10_countOf_L4 fu u_T u_B n w1 w2 w3 = some r → WD g A s.heap (cl_X10 g a_T (a_B 0) p_T_16 u_T ++ (cl_X0 g a_B p_B_17 u_B ++ X)) H locs → lv_has ls 4 [(0, .ref (a_T 0)), (1, .int w1), (2, .int w2), (3, .int w3)] → W p l e (rmH 0) s m (List.toArray [.ref (a_T 0), .int x1]) below meth c H locs 0 0 (MQ below (va_Qi (fun r2 (_ : Unit) => r2 = r) (fun _ t => POST g A (cl_X10 g a_T (a_B 0) p_T_16 u_T ++ (cl_X0 g a_B p_B_17 u_B ++ X)) t) A) (List.toArray [.ref (a_T 0), .int x1]) s 0 0 A) (F0 m 4 ls []) := by
    intro  n
    induction n with
    | zero => intro w1 w2 w3 H locs ls hf; exact absurd hf (by intro q; cases q)
    | succ n ih => exact fun hf hw hl => J4 ih hf hw hl
  unfold f_X10_countOf at hf
  refine lv_iconst (v := 0) hx hb dX10_countOf_0 (by decide) ?_
  refine lv_istore_n (lv' := [(2, .int (0 : Int32)), (0, .ref (a_T 0)), (1, .int x1)]) hx hb dX10_countOf_1 rfl hl (by decide) rfl (fun ls hl => ?_)
  refine lv_iconst (v := 0) hx hb dX10_countOf_2 (by decide) ?_
  refine lv_istore_n (lv' := [(3, .int (0 : Int32)), (2, .int (0 : Int32)), (0, .ref (a_T 0)), (1, .int x1)]) hx hb dX10_countOf_3 rfl hl (by decide) rfl (fun ls hl => ?_)
  exact L4 fu hf hw (lv_sub hl [2, 3, 1, 0] rfl)
def f_X9_comes (fu : Nat) (u_T : S32) (u_Wa : S32) (u_B : S32) (u_L : S32) (u_W : S32) (v_L : S64) (v_N : S64) (x2 : Int32) (x3 : Int32) : Option (Int32 × S32 × S64 × S64) := tx_b1 (f_X10_copy fu u_Wa u_W) fun (u_W_2 : S32) => tx_b3 (f_X10_goWeeks fu u_B u_L u_W_2 v_L v_N x2 (0 : Int32)) fun (u_W_4 : S32) (v_L_5 : S64) (v_N_6 : S64) => if x3 = (0 : Int32) then (tx_b1 (f_X10_sum_tX10r7 fu u_W_4 u_B) fun (r_9 : Int32) => tx_b1 (f_X10_sum_tX10r7 fu u_Wa u_B) fun (r_11 : Int32) => some (r_9 - r_11, u_W_4, v_L_5, v_N_6)) else if x3 = (1 : Int32) then (tx_b1 (f_X10_sum_tX10r8 fu u_W_4 u_B) fun (r_14 : Int32) => tx_b1 (f_X10_sum_tX10r8 fu u_Wa u_B) fun (r_16 : Int32) => some (r_14 - r_16, u_W_4, v_L_5, v_N_6)) else if x3 = (2 : Int32) then (tx_b1 (f_X10_countOf fu u_W_4 u_B (2 : Int32)) fun (r_19 : Int32) => tx_b1 (f_X10_countOf fu u_Wa u_B (2 : Int32)) fun (r_21 : Int32) => some (r_19 - r_21, u_W_4, v_L_5, v_N_6)) else (tx_b1 (f_X10_countOf fu u_W_4 u_B (1 : Int32)) fun (r_23 : Int32) => some (r_23, u_W_4, v_L_5, v_N_6))
set_option maxHeartbeats 4000000 in
set_option maxRecDepth 100000 in
theorem c_X9_comes {l : Launch} {g : GG} {A : Nat → Prop} {X : va_W} {fu : Nat} {a_T a_Wa a_W a_B a_L a_N : Nat → Nat} {p_Wa_16 p_W_0 : Nat} {u_T : S32} {u_Wa : S32} {u_W : S32} {u_B : S32} {u_L : S32} {v_L : S64} {v_N : S64} {x2 : Int32} {x3 : Int32} {r : Int32} {zu_W : S32} {zv_L : S64} {zv_N : S64} (hf : f_X9_comes fu u_T u_Wa u_B u_L u_W v_L v_N x2 x3 = some (r, zu_W, zv_L, zv_N)) : MI l yX9_comes cX9_comes 4 (some .int) 6 g A (cl_X9 g a_T (a_W 0) u_T ++ (cl_X10 g a_Wa (a_B 0) p_Wa_16 u_Wa ++ (cl_X10 g a_W p_W_0 (a_N 0) u_W ++ (cl_X0 g a_B (a_L 0) u_B ++ (cl_X5 g a_L u_L v_L ++ (cl_N g a_N v_N ++ X)))))) [.ref (a_T 0), .ref (a_Wa 0), .int x2, .int x3] r (cl_X9 g a_T (a_W 0) u_T ++ (cl_X10 g a_Wa (a_B 0) p_Wa_16 u_Wa ++ (cl_X10 g a_W (a_B 0) (a_N 0) zu_W ++ (cl_X0 g a_B (a_L 0) u_B ++ (cl_X5 g a_L u_L zv_L ++ (cl_N g a_N zv_N ++ X)))))) := by
  refine tx_start (av := [.ref (a_T 0), .ref (a_Wa 0), .int x2, .int x3]) (by decide) (Nat.le_of_ble_eq_true rfl) ?_
  intro p e s m below meth c ls S hr hlk hE hw hl
  have S : CallFix p m c cX9_comes 4 s (List.toArray [.ref (a_T 0), .ref (a_Wa 0), .int x2, .int x3]) (Cond.code yX9_comes cX9_comes 4 (some .int) :: allW) RX9 := S
  have hx := S.1
  have hb := S.2.1
  have hown := S.2.2.2.1
  have hts : ∀ w ∈ allW, w.before (List.toArray [.ref (a_T 0), .ref (a_Wa 0), .int x2, .int x3]) s = true := fun w h => S.2.2.2.2 w (List.mem_cons_of_mem _ h)
  have hl : lv_has ls 4 [(0, .ref (a_T 0)), (1, .ref (a_Wa 0)), (2, .int x2), (3, .int x3)] := hl
  unfold f_X9_comes at hf
  refine lv_aload_n hx hb dX9_comes_0 rfl (lv_at hl 0 rfl) ?_
  refine gf_X9_20 S hE hw 0 rfl rfl dX9_comes_1 ?_
  refine lv_aload_n hx hb dX9_comes_4 rfl (lv_at hl 1 rfl) ?_
  have hw := hw.u1
  have hw := hw.u2
  obtain ⟨u_W_2, h_1, hf⟩ := tx_b1_e hf
  refine tx_cv hw (tx_runN S hE hw (c_X10_copy h_1) lk_X9_24 (q0 := 0) rfl rfl rfl hl.1 (rest := []) rfl (Nat.le_of_ble_eq_true rfl) ⟨by decide, by decide⟩ dX9_comes_5 ⟨Nat.zero_le _, Nat.zero_le _⟩) (fun H locs hw => ?_)
  refine lv_aload_n hx hb dX9_comes_8 rfl (lv_at hl 0 rfl) ?_
  refine gf_X9_20 S hE hw 24 rfl rfl dX9_comes_9 ?_
  refine lv_iload_n hx hb dX9_comes_12 rfl (lv_at hl 2 rfl) ?_
  refine lv_iconst (v := 0) hx hb dX9_comes_13 (by decide) ?_
  have hw := hw.u5
  have hw := hw.u5
  have hw := hw.u5
  have hw := hw.u3
  obtain ⟨u_W_4, v_L_5, v_N_6, h_3, hf⟩ := tx_b3_e hf
  refine tx_cv hw (tx_runN S hE hw (c_X10_goWeeks h_3) lk_X9_28 (q0 := 0) rfl rfl rfl hl.1 (rest := []) rfl (Nat.le_of_ble_eq_true rfl) ⟨by decide, by decide⟩ dX9_comes_14 ⟨Nat.zero_le _, Nat.zero_le _⟩) (fun H locs hw => ?_)
  refine lv_iload_n hx hb dX9_comes_17 rfl (lv_at hl 3 rfl) ?_
  by_cases h_7 : x3 = (0 : Int32)
  · replace hf := tx_pos hf h_7
    refine lv_tableIn (off := 26) (tgt := 44) hx hb dX9_comes_18 (by rw [h_7]; decide) (by rw [h_7]; decide) (by rw [h_7]; rfl) (by decide) ?_
    refine lv_aload_n hx hb dX9_comes_44 rfl (lv_at hl 0 rfl) ?_
    refine gf_X9_20 S hE hw 42 rfl rfl dX9_comes_45 ?_
    refine lv_aload_n hx hb dX9_comes_48 rfl (lv_at hl 0 rfl) ?_
    refine gf_X9_20 S hE hw 42 rfl rfl dX9_comes_49 ?_
    refine gf_X9_32 S hE hw 0 rfl rfl dX9_comes_52 ?_
    obtain ⟨r_9, h_8, hf⟩ := tx_b1_e hf
    refine tx_ci hw (tx_runN S hE hw (c_X10_sum_tX10r7 h_8) lk_X9_35 (q0 := 0) rfl rfl rfl hl.1 (rest := []) rfl (Nat.le_of_ble_eq_true rfl) ⟨by decide, by decide⟩ dX9_comes_55 ⟨Nat.zero_le _, Nat.zero_le _⟩) (fun H locs hw => ?_)
    refine lv_aload_n hx hb dX9_comes_58 rfl (lv_at hl 1 rfl) ?_
    refine lv_aload_n hx hb dX9_comes_59 rfl (lv_at hl 1 rfl) ?_
    refine gf_X9_32 S hE hw 30 rfl rfl dX9_comes_60 ?_
    have hw := hw.u1
    have hw := hw.u4
    obtain ⟨r_11, h_10, hf⟩ := tx_b1_e hf
    refine tx_ci hw (tx_runN S hE hw (c_X10_sum_tX10r7 h_10) lk_X9_35 (q0 := 0) rfl rfl rfl hl.1 (rest := [.int r_9]) rfl (Nat.le_of_ble_eq_true rfl) ⟨by decide, by decide⟩ dX9_comes_63 ⟨Nat.zero_le _, Nat.zero_le _⟩) (fun H locs hw => ?_)
    refine lv_isub hx hb dX9_comes_66 ?_
    have hw := hw.u4
    have hw := hw.u4
    have hw := hw.u3
    have hw := hw.u4
    have hw := hw.u4
    have hw := hw.u5
    obtain ⟨e0, e1, e2, e3⟩ := tx_in4 hf
    rw [← e0, ← e1, ← e2, ← e3]
    exact tx_iret S hr hlk hw dX9_comes_67
  replace hf := tx_neg hf h_7
  by_cases h_12 : x3 = (1 : Int32)
  · replace hf := tx_pos hf h_12
    refine lv_tableIn (off := 50) (tgt := 68) hx hb dX9_comes_18 (by rw [h_12]; decide) (by rw [h_12]; decide) (by rw [h_12]; rfl) (by decide) ?_
    refine lv_aload_n hx hb dX9_comes_68 rfl (lv_at hl 0 rfl) ?_
    refine gf_X9_20 S hE hw 42 rfl rfl dX9_comes_69 ?_
    refine lv_aload_n hx hb dX9_comes_72 rfl (lv_at hl 0 rfl) ?_
    refine gf_X9_20 S hE hw 42 rfl rfl dX9_comes_73 ?_
    refine gf_X9_39 S hE hw 0 rfl rfl dX9_comes_76 ?_
    obtain ⟨r_14, h_13, hf⟩ := tx_b1_e hf
    refine tx_ci hw (tx_runN S hE hw (c_X10_sum_tX10r8 h_13) lk_X9_35 (q0 := 0) rfl rfl rfl hl.1 (rest := []) rfl (Nat.le_of_ble_eq_true rfl) ⟨by decide, by decide⟩ dX9_comes_79 ⟨Nat.zero_le _, Nat.zero_le _⟩) (fun H locs hw => ?_)
    refine lv_aload_n hx hb dX9_comes_82 rfl (lv_at hl 1 rfl) ?_
    refine lv_aload_n hx hb dX9_comes_83 rfl (lv_at hl 1 rfl) ?_
    refine gf_X9_39 S hE hw 30 rfl rfl dX9_comes_84 ?_
    have hw := hw.u1
    have hw := hw.u4
    obtain ⟨r_16, h_15, hf⟩ := tx_b1_e hf
    refine tx_ci hw (tx_runN S hE hw (c_X10_sum_tX10r8 h_15) lk_X9_35 (q0 := 0) rfl rfl rfl hl.1 (rest := [.int r_14]) rfl (Nat.le_of_ble_eq_true rfl) ⟨by decide, by decide⟩ dX9_comes_87 ⟨Nat.zero_le _, Nat.zero_le _⟩) (fun H locs hw => ?_)
    refine lv_isub hx hb dX9_comes_90 ?_
    have hw := hw.u4
    have hw := hw.u4
    have hw := hw.u3
    have hw := hw.u4
    have hw := hw.u4
    have hw := hw.u5
    obtain ⟨e0, e1, e2, e3⟩ := tx_in4 hf
    rw [← e0, ← e1, ← e2, ← e3]
    exact tx_iret S hr hlk hw dX9_comes_91
  replace hf := tx_neg hf h_12
  by_cases h_17 : x3 = (2 : Int32)
  · replace hf := tx_pos hf h_17
    refine lv_tableIn (off := 74) (tgt := 92) hx hb dX9_comes_18 (by rw [h_17]; decide) (by rw [h_17]; decide) (by rw [h_17]; rfl) (by decide) ?_
    refine lv_aload_n hx hb dX9_comes_92 rfl (lv_at hl 0 rfl) ?_
    refine gf_X9_20 S hE hw 42 rfl rfl dX9_comes_93 ?_
    refine lv_iconst (v := 2) hx hb dX9_comes_96 (by decide) ?_
    obtain ⟨r_19, h_18, hf⟩ := tx_b1_e hf
    refine tx_ci hw (tx_runN S hE hw (c_X10_countOf h_18) lk_X9_42 (q0 := 0) rfl rfl rfl hl.1 (rest := []) rfl (Nat.le_of_ble_eq_true rfl) ⟨by decide, by decide⟩ dX9_comes_97 ⟨Nat.zero_le _, Nat.zero_le _⟩) (fun H locs hw => ?_)
    refine lv_aload_n hx hb dX9_comes_100 rfl (lv_at hl 1 rfl) ?_
    refine lv_iconst (v := 2) hx hb dX9_comes_101 (by decide) ?_
    have hw := hw.u1
    have hw := hw.u4
    obtain ⟨r_21, h_20, hf⟩ := tx_b1_e hf
    refine tx_ci hw (tx_runN S hE hw (c_X10_countOf h_20) lk_X9_42 (q0 := 0) rfl rfl rfl hl.1 (rest := [.int r_19]) rfl (Nat.le_of_ble_eq_true rfl) ⟨by decide, by decide⟩ dX9_comes_102 ⟨Nat.zero_le _, Nat.zero_le _⟩) (fun H locs hw => ?_)
    refine lv_isub hx hb dX9_comes_105 ?_
    have hw := hw.u4
    have hw := hw.u4
    have hw := hw.u3
    have hw := hw.u4
    have hw := hw.u4
    have hw := hw.u5
    obtain ⟨e0, e1, e2, e3⟩ := tx_in4 hf
    rw [← e0, ← e1, ← e2, ← e3]
    exact tx_iret S hr hlk hw dX9_comes_106
  replace hf := tx_neg hf h_17
  have eh_7 : x3.toInt ≠ 0 := tx_ne h_7
  have eh_12 : x3.toInt ≠ 1 := tx_ne h_12
  have eh_17 : x3.toInt ≠ 2 := tx_ne h_17
  refine lv_tableOut (tgt := 107) hx hb dX9_comes_18 (by omega) (by decide) ?_
  refine lv_aload_n hx hb dX9_comes_107 rfl (lv_at hl 0 rfl) ?_
  refine gf_X9_20 S hE hw 42 rfl rfl dX9_comes_108 ?_
  refine lv_iconst (v := 1) hx hb dX9_comes_111 (by decide) ?_
  obtain ⟨r_23, h_22, hf⟩ := tx_b1_e hf
  refine tx_ci hw (tx_runN S hE hw (c_X10_countOf h_22) lk_X9_42 (q0 := 0) rfl rfl rfl hl.1 (rest := []) rfl (Nat.le_of_ble_eq_true rfl) ⟨by decide, by decide⟩ dX9_comes_112 ⟨Nat.zero_le _, Nat.zero_le _⟩) (fun H locs hw => ?_)
  have hw := hw.u3
  have hw := hw.u3
  have hw := hw.u3
  have hw := hw.u3
  have hw := hw.u4
  have hw := hw.u5
  obtain ⟨e0, e1, e2, e3⟩ := tx_in4 hf
  rw [← e0, ← e1, ← e2, ← e3]
  exact tx_iret S hr hlk hw dX9_comes_115
