def f_X10_taxOf (fu : Nat) (u_T : S32) (u_B : S32) (x1 : Int32) : Option (Int32) := tx_b1 (f_X0_isMan fu u_B x1) fun (r_2 : Int32) => if r_2 = (0 : Int32) then (some (0 : Int32)) else (tx_ck x1 6 <| tx_ck x1 6 <| some ((u_T 7 x1.toNatClampNeg) + (u_T 8 x1.toNatClampNeg)))
set_option maxHeartbeats 4000000 in
set_option maxRecDepth 100000 in
theorem c_X10_taxOf {l : Launch} {g : GG} {A : Nat → Prop} {X : va_W} {fu : Nat} {a_T a_B : Nat → Nat} {p_T_16 p_B_17 : Nat} {u_T : S32} {u_B : S32} {x1 : Int32} {r : Int32} (hf : f_X10_taxOf fu u_T u_B x1 = some r) : MI l yX10_taxOf cX10_taxOf 2 (some .int) 1 g A (cl_X10 g a_T (a_B 0) p_T_16 u_T ++ (cl_X0 g a_B p_B_17 u_B ++ X)) [.ref (a_T 0), .int x1] r (cl_X10 g a_T (a_B 0) p_T_16 u_T ++ (cl_X0 g a_B p_B_17 u_B ++ X)) := by
  refine tx_start (av := [.ref (a_T 0), .int x1]) (by decide) (Nat.le_of_ble_eq_true rfl) ?_
  intro p e s m below meth c ls S hr hlk hE hw hl
  have S : CallFix p m c cX10_taxOf 2 s (List.toArray [.ref (a_T 0), .int x1]) (Cond.code yX10_taxOf cX10_taxOf 2 (some .int) :: allW) RX10 := S
  have hx := S.1
  have hb := S.2.1
  have hown := S.2.2.2.1
  have hts : ∀ w ∈ allW, w.before (List.toArray [.ref (a_T 0), .int x1]) s = true := fun w h => S.2.2.2.2 w (List.mem_cons_of_mem _ h)
  have hl : lv_has ls 2 [(0, .ref (a_T 0)), (1, .int x1)] := hl
  unfold f_X10_taxOf at hf
  refine lv_aload_n hx hb dX10_taxOf_0 rfl (lv_at hl 0 rfl) ?_
  refine gf_X10_49 S hE hw 0 rfl rfl dX10_taxOf_1 ?_
  refine lv_iload_n hx hb dX10_taxOf_4 rfl (lv_at hl 1 rfl) ?_
  have hw := hw.u1
  obtain ⟨r_2, h_1, hf⟩ := tx_b1_e hf
  refine tx_ci hw (tx_runN S hE hw (c_X0_isMan h_1) lk_X10_126 (q0 := 0) rfl rfl rfl hl.1 (rest := []) rfl (Nat.le_of_ble_eq_true rfl) ⟨by decide, by decide⟩ dX10_taxOf_5 ⟨Nat.zero_le _, Nat.zero_le _⟩) (fun H locs hw => ?_)
  refine lv_if_eq (tgt := 27) hx hb dX10_taxOf_8 (by decide) (fun h_3 => ?_) (fun h_3 => ?_)
  · replace hf := tx_pos hf h_3
    refine lv_iconst (v := 0) hx hb dX10_taxOf_27 (by decide) ?_
    have hw := hw.u1
    obtain e0 := tx_in1 hf
    rw [← e0]
    exact tx_iret S hr hlk hw dX10_taxOf_28
  · replace hf := tx_neg hf h_3
    refine lv_aload_n hx hb dX10_taxOf_11 rfl (lv_at hl 0 rfl) ?_
    refine gf_X10_18 S hE hw 11 rfl rfl dX10_taxOf_12 ?_
    refine lv_iload_n hx hb dX10_taxOf_15 rfl (lv_at hl 1 rfl) ?_
    obtain ⟨h_4, hf⟩ := tx_ck_e hf
    refine tx_iald S hE hw 14 rfl h_4 dX10_taxOf_16 ?_
    refine lv_aload_n hx hb dX10_taxOf_17 rfl (lv_at hl 0 rfl) ?_
    refine gf_X10_21 S hE hw 11 rfl rfl dX10_taxOf_18 ?_
    refine lv_iload_n hx hb dX10_taxOf_21 rfl (lv_at hl 1 rfl) ?_
    obtain ⟨h_5, hf⟩ := tx_ck_e hf
    refine tx_iald S hE hw 15 rfl h_5 dX10_taxOf_22 ?_
    refine lv_iadd hx hb dX10_taxOf_23 ?_
    refine lv_goto (tgt := 28) hx hb dX10_taxOf_24 (by decide) ?_
    have hw := hw.u1
    obtain e0 := tx_in1 hf
    rw [← e0]
    exact tx_iret S hr hlk hw dX10_taxOf_28
def f_X9_noteTaxes_J2 (fu : Nat) (u_W : S32) (u_B : S32) (K2 : S32 → Int32 → Option (S32)) (u_T : S32) (w1 : Int32) : Option (S32) := if (u_B 0 1) ≤ w1 then (some u_T) else (if (6 : Int32) ≤ w1 then (some u_T) else (tx_b1 (f_X10_taxOf fu u_W u_B w1) fun (r_4 : Int32) => tx_ck w1 6 <| tx_let (up2 u_T 2 w1.toNatClampNeg r_4) fun (u_T_6 : S32) => tx_let (w1 + (1 : Int32)) fun (y_7 : Int32) => K2 u_T_6 y_7))
def f_X9_noteTaxes_L2 (fu : Nat) (u_W : S32) (u_B : S32) : Nat → S32 → Int32 → Option (S32)
  | 0 => fun _ _ => none
  | n + 1 => f_X9_noteTaxes_J2 fu u_W u_B (f_X9_noteTaxes_L2 fu u_W u_B n)
def f_X9_noteTaxes (fu : Nat) (u_W : S32) (u_B : S32) (u_T : S32) : Option (S32) := f_X9_noteTaxes_L2 fu u_W u_B fu u_T (0 : Int32)
set_option maxHeartbeats 4000000 in
set_option maxRecDepth 100000 in
theorem c_X9_noteTaxes {l : Launch} {g : GG} {A : Nat → Prop} {X : va_W} {fu : Nat} {a_T a_W a_B : Nat → Nat} {p_W_16 p_B_17 : Nat} {u_T : S32} {u_W : S32} {u_B : S32} {zu_T : S32} (hf : f_X9_noteTaxes fu u_W u_B u_T = some zu_T) : MV l yX9_noteTaxes cX9_noteTaxes 2 none 2 g A (cl_X9 g a_T (a_W 0) u_T ++ (cl_X10 g a_W (a_B 0) p_W_16 u_W ++ (cl_X0 g a_B p_B_17 u_B ++ X))) [.ref (a_T 0)] (cl_X9 g a_T (a_W 0) zu_T ++ (cl_X10 g a_W (a_B 0) p_W_16 u_W ++ (cl_X0 g a_B p_B_17 u_B ++ X))) := by
  refine tx_start (av := [.ref (a_T 0)]) (by decide) (Nat.le_of_ble_eq_true rfl) ?_
  intro p e s m below meth c ls S hr hlk hE hw hl
  have S : CallFix p m c cX9_noteTaxes 2 s (List.toArray [.ref (a_T 0)]) (Cond.code yX9_noteTaxes cX9_noteTaxes 2 none :: allW) RX9 := S
  have hx := S.1
  have hb := S.2.1
  have hown := S.2.2.2.1
  have hts : ∀ w ∈ allW, w.before (List.toArray [.ref (a_T 0)]) s = true := fun w h => S.2.2.2.2 w (List.mem_cons_of_mem _ h)
  have hl : lv_has ls 2 [(0, .ref (a_T 0))] := hl
  have J2 : ∀ {K2 : S32 → Int32 → Option (S32)} (hK2 : ∀ {u_T : S32} {w1 : Int32} {H : Heap} {locs : List Loc} {ls : Array Slot}, K2 u_T w1 = some zu_T → WD g A s.heap (cl_X9 g a_T (a_W 0) u_T ++ (cl_X10 g a_W (a_B 0) p_W_16 u_W ++ (cl_X0 g a_B p_B_17 u_B ++ X))) H locs → lv_has ls 2 [(0, .ref (a_T 0)), (1, .int w1)] → W p l e (rmH 2) s m (List.toArray [.ref (a_T 0)]) below meth c H locs 0 0 (MQ below (va_Qv (fun (_ : Unit) => True) (fun _ t => POST g A (cl_X9 g a_T (a_W 0) zu_T ++ (cl_X10 g a_W (a_B 0) p_W_16 u_W ++ (cl_X0 g a_B p_B_17 u_B ++ X))) t) A) (List.toArray [.ref (a_T 0)]) s 0 0 A) (F0 m 2 ls [])), ∀ {u_T : S32} {w1 : Int32} {H : Heap} {locs : List Loc} {ls : Array Slot}, f_X9_noteTaxes_J2 fu u_W u_B K2 u_T w1 = some zu_T → WD g A s.heap (cl_X9 g a_T (a_W 0) u_T ++ (cl_X10 g a_W (a_B 0) p_W_16 u_W ++ (cl_X0 g a_B p_B_17 u_B ++ X))) H locs → lv_has ls 2 [(0, .ref (a_T 0)), (1, .int w1)] → W p l e (rmH 2) s m (List.toArray [.ref (a_T 0)]) below meth c H locs 0 0 (MQ below (va_Qv (fun (_ : Unit) => True) (fun _ t => POST g A (cl_X9 g a_T (a_W 0) zu_T ++ (cl_X10 g a_W (a_B 0) p_W_16 u_W ++ (cl_X0 g a_B p_B_17 u_B ++ X))) t) A) (List.toArray [.ref (a_T 0)]) s 0 0 A) (F0 m 2 ls []) := by
    intro K2 hK2 u_T w1 H locs ls hf hw hl
    unfold f_X9_noteTaxes_J2 at hf
    refine lv_iload_n hx hb dX9_noteTaxes_2 rfl (lv_at hl 1 rfl) ?_
    refine lv_aload_n hx hb dX9_noteTaxes_3 rfl (lv_at hl 0 rfl) ?_
    refine gf_X9_20 S hE hw 0 rfl rfl dX9_noteTaxes_4 ?_
    refine gf_X9_49 S hE hw 2 rfl rfl dX9_noteTaxes_7 ?_
    refine gf_X9_53 S hE hw 14 rfl rfl dX9_noteTaxes_10 ?_
    refine lv_icmp_ge (tgt := 42) hx hb dX9_noteTaxes_13 (by decide) (fun h_1 => ?_) (fun h_1 => ?_)
    · replace hf := tx_pos hf h_1
      obtain e0 := tx_in1 hf
      rw [← e0]
      exact tx_vret S hr hlk hw dX9_noteTaxes_42
    · replace hf := tx_neg hf h_1
      refine lv_iload_n hx hb dX9_noteTaxes_16 rfl (lv_at hl 1 rfl) ?_
      refine lv_bipush (v := 6) hx hb dX9_noteTaxes_17 (by decide) ?_
      refine lv_icmp_ge (tgt := 42) hx hb dX9_noteTaxes_19 (by decide) (fun h_2 => ?_) (fun h_2 => ?_)
      · replace hf := tx_pos hf h_2
        obtain e0 := tx_in1 hf
        rw [← e0]
        exact tx_vret S hr hlk hw dX9_noteTaxes_42
      · replace hf := tx_neg hf h_2
        refine lv_aload_n hx hb dX9_noteTaxes_22 rfl (lv_at hl 0 rfl) ?_
        refine gf_X9_9 S hE hw 0 rfl rfl dX9_noteTaxes_23 ?_
        refine lv_iload_n hx hb dX9_noteTaxes_26 rfl (lv_at hl 1 rfl) ?_
        refine lv_aload_n hx hb dX9_noteTaxes_27 rfl (lv_at hl 0 rfl) ?_
        refine gf_X9_20 S hE hw 0 rfl rfl dX9_noteTaxes_28 ?_
        refine lv_iload_n hx hb dX9_noteTaxes_31 rfl (lv_at hl 1 rfl) ?_
        have hw := hw.u2
        have hw := hw.u2
        obtain ⟨r_4, h_3, hf⟩ := tx_b1_e hf
        refine tx_ci hw (tx_runN S hE hw (c_X10_taxOf h_3) lk_X9_105 (q0 := 0) rfl rfl rfl hl.1 (rest := [.int w1, .ref (a_T 2)]) rfl (Nat.le_of_ble_eq_true rfl) ⟨by decide, by decide⟩ dX9_noteTaxes_32 ⟨Nat.zero_le _, Nat.zero_le _⟩) (fun H locs hw => ?_)
        obtain ⟨h_5, hf⟩ := tx_ck_e hf
        obtain ⟨u_T_6, eu_T_6⟩ : ∃ z : S32, z = up2 u_T 2 w1.toNatClampNeg r_4 := ⟨_, rfl⟩
        replace hf := tx_let_e hf eu_T_6
        refine tx_iast (ws' := cl_X10 g a_W (a_B 0) p_W_16 u_W ++ (cl_X0 g a_B p_B_17 u_B ++ (cl_X9 g a_T (a_W 0) u_T_6 ++ X))) S hE hw 24 rfl h_5 (by rw [eu_T_6]; rfl) dX9_noteTaxes_35 (fun H locs hw => ?_)
        obtain ⟨y_7, ey_7⟩ : ∃ y : Int32, y = w1 + (1 : Int32) := ⟨_, rfl⟩
        replace hf := tx_let_e hf ey_7
        refine lv_iinc (v := y_7) (lv' := [(1, .int y_7), (0, .ref (a_T 0))]) hx hb dX9_noteTaxes_36 hl (k := 1) rfl (by rw [ey_7]; rfl) (by decide) rfl (fun ls hl => ?_)
        refine lv_goto (tgt := 2) hx hb dX9_noteTaxes_39 (by decide) ?_
        have hw := hw.u1
        have hw := hw.u1
        have hw := hw.u2
        exact hK2 hf hw (lv_sub hl [1, 0] rfl)
  have L2 : ∀ (n : Nat), ∀ {u_T : S32} {w1 : Int32} {H : Heap} {locs : List Loc} {ls : Array Slot}, f_X9_noteTaxes_L2 fu u_W u_B n u_T w1 = some zu_T → WD g A s.heap (cl_X9 g a_T (a_W 0) u_T ++ (cl_X10 g a_W (a_B 0) p_W_16 u_W ++ (cl_X0 g a_B p_B_17 u_B ++ X))) H locs → lv_has ls 2 [(0, .ref (a_T 0)), (1, .int w1)] → W p l e (rmH 2) s m (List.toArray [.ref (a_T 0)]) below meth c H locs 0 0 (MQ below (va_Qv (fun (_ : Unit) => True) (fun _ t => POST g A (cl_X9 g a_T (a_W 0) zu_T ++ (cl_X10 g a_W (a_B 0) p_W_16 u_W ++ (cl_X0 g a_B p_B_17 u_B ++ X))) t) A) (List.toArray [.ref (a_T 0)]) s 0 0 A) (F0 m 2 ls []) := by
    intro  n
    induction n with
    | zero => intro u_T w1 H locs ls hf; exact absurd hf (by intro q; cases q)
    | succ n ih => exact fun hf hw hl => J2 ih hf hw hl
  unfold f_X9_noteTaxes at hf
  refine lv_iconst (v := 0) hx hb dX9_noteTaxes_0 (by decide) ?_
  refine lv_istore_n (lv' := [(1, .int (0 : Int32)), (0, .ref (a_T 0))]) hx hb dX9_noteTaxes_1 rfl hl (by decide) rfl (fun ls hl => ?_)
  exact L2 fu hf hw (lv_sub hl [1, 0] rfl)
def f_X9_dearThoughts_J132 (fu : Nat) (u_Wa : S32) (u_B : S32) (u_L : S32) (K26 : S32 → S32 → S64 → S64 → Int32 → Int32 → Option (Int32 × S32 × S32 × S64 × S64)) (u_T : S32) (u_W : S32) (v_L : S64) (v_N : S64) (w2 : Int32) (w3 : Int32) : Option (Int32 × S32 × S32 × S64 × S64) := tx_let (w3 + (1 : Int32)) fun (y_31 : Int32) => K26 u_T u_W v_L v_N w2 y_31
def f_X9_dearThoughts_J130 (fu : Nat) (u_Wa : S32) (u_B : S32) (u_L : S32) (K26 : S32 → S32 → S64 → S64 → Int32 → Int32 → Option (Int32 × S32 × S32 × S64 × S64)) (u_T : S32) (u_W : S32) (v_L : S64) (v_N : S64) (w3 : Int32) (t0 : Int32) (t1 : Int32) : Option (Int32 × S32 × S32 × S64 × S64) := tx_let (t0 ||| t1) fun (y_30 : Int32) => f_X9_dearThoughts_J132 fu u_Wa u_B u_L K26 u_T u_W v_L v_N y_30 w3
def f_X9_dearThoughts_J26 (fu : Nat) (u_Wa : S32) (u_B : S32) (u_L : S32) (K26 : S32 → S32 → S64 → S64 → Int32 → Int32 → Option (Int32 × S32 × S32 × S64 × S64)) (u_T : S32) (u_W : S32) (v_L : S64) (v_N : S64) (w2 : Int32) (w3 : Int32) : Option (Int32 × S32 × S32 × S64 × S64) := if (u_B 0 5) ≤ w3 then (some (w2, u_T, u_W, v_L, v_N)) else (if (12 : Int32) ≤ w3 then (some (w2, u_T, u_W, v_L, v_N)) else (tx_ck w3 12 <| tx_let (u_B 7 w3.toNatClampNeg) fun (y_12 : Int32) => tx_ck w3 12 <| if (u_Wa 11 w3.toNatClampNeg) = (0 : Int32) then (tx_b1 (f_X0_isMan fu u_B y_12) fun (r_16 : Int32) => if r_16 = (0 : Int32) then (f_X9_dearThoughts_J132 fu u_Wa u_B u_L K26 u_T u_W v_L v_N w2 w3) else (tx_b1 (f_X10_copy fu u_Wa u_W) fun (u_W_19 : S32) => tx_ck w3 12 <| tx_let (up2 u_W_19 11 w3.toNatClampNeg (2 : Int32)) fun (u_W_21 : S32) => tx_b3 (f_X10_goWeeks fu u_B u_L u_W_21 v_L v_N (20 : Int32) (0 : Int32)) fun (u_W_23 : S32) (v_L_24 : S64) (v_N_25 : S64) => tx_b1 (f_X10_taxOf fu u_W_23 u_B y_12) fun (r_27 : Int32) => tx_ck y_12 6 <| if (u_T 2 y_12.toNatClampNeg) ≤ r_27 then (f_X9_dearThoughts_J130 fu u_Wa u_B u_L K26 u_T u_W_23 v_L_24 v_N_25 w3 w2 (0 : Int32)) else (f_X9_dearThoughts_J130 fu u_Wa u_B u_L K26 u_T u_W_23 v_L_24 v_N_25 w3 w2 ((1 : Int32) <<< (w3 &&& 31))))) else (f_X9_dearThoughts_J132 fu u_Wa u_B u_L K26 u_T u_W v_L v_N w2 w3)))
def f_X9_dearThoughts_L26 (fu : Nat) (u_Wa : S32) (u_B : S32) (u_L : S32) : Nat → S32 → S32 → S64 → S64 → Int32 → Int32 → Option (Int32 × S32 × S32 × S64 × S64)
  | 0 => fun _ _ _ _ _ _ => none
  | n + 1 => f_X9_dearThoughts_J26 fu u_Wa u_B u_L (f_X9_dearThoughts_L26 fu u_Wa u_B u_L n)
def f_X9_dearThoughts (fu : Nat) (u_Wa : S32) (u_B : S32) (u_L : S32) (u_T : S32) (u_W : S32) (v_L : S64) (v_N : S64) : Option (Int32 × S32 × S32 × S64 × S64) := tx_b1 (f_X10_copy fu u_Wa u_W) fun (u_W_2 : S32) => tx_b3 (f_X10_goWeeks fu u_B u_L u_W_2 v_L v_N (20 : Int32) (0 : Int32)) fun (u_W_4 : S32) (v_L_5 : S64) (v_N_6 : S64) => tx_b1 (f_X9_noteTaxes fu u_W_4 u_B u_T) fun (u_T_8 : S32) => f_X9_dearThoughts_L26 fu u_Wa u_B u_L fu u_T_8 u_W_4 v_L_5 v_N_6 (0 : Int32) (0 : Int32)
set_option maxHeartbeats 4000000 in
set_option maxRecDepth 100000 in
theorem c_X9_dearThoughts {l : Launch} {g : GG} {A : Nat → Prop} {X : va_W} {fu : Nat} {a_T a_Wa a_W a_B a_L a_N : Nat → Nat} {p_Wa_16 p_W_0 : Nat} {u_T : S32} {u_Wa : S32} {u_W : S32} {u_B : S32} {u_L : S32} {v_L : S64} {v_N : S64} {r : Int32} {zu_T : S32} {zu_W : S32} {zv_L : S64} {zv_N : S64} (hf : f_X9_dearThoughts fu u_Wa u_B u_L u_T u_W v_L v_N = some (r, zu_T, zu_W, zv_L, zv_N)) : MI l yX9_dearThoughts cX9_dearThoughts 5 (some .int) 6 g A (cl_X9 g a_T (a_W 0) u_T ++ (cl_X10 g a_Wa (a_B 0) p_Wa_16 u_Wa ++ (cl_X10 g a_W p_W_0 (a_N 0) u_W ++ (cl_X0 g a_B (a_L 0) u_B ++ (cl_X5 g a_L u_L v_L ++ (cl_N g a_N v_N ++ X)))))) [.ref (a_T 0), .ref (a_Wa 0)] r (cl_X9 g a_T (a_W 0) zu_T ++ (cl_X10 g a_Wa (a_B 0) p_Wa_16 u_Wa ++ (cl_X10 g a_W (a_B 0) (a_N 0) zu_W ++ (cl_X0 g a_B (a_L 0) u_B ++ (cl_X5 g a_L u_L zv_L ++ (cl_N g a_N zv_N ++ X)))))) := by
  refine tx_start (av := [.ref (a_T 0), .ref (a_Wa 0)]) (by decide) (Nat.le_of_ble_eq_true rfl) ?_
  intro p e s m below meth c ls S hr hlk hE hw hl
  have S : CallFix p m c cX9_dearThoughts 5 s (List.toArray [.ref (a_T 0), .ref (a_Wa 0)]) (Cond.code yX9_dearThoughts cX9_dearThoughts 5 (some .int) :: allW) RX9 := S
  have hx := S.1
  have hb := S.2.1
  have hown := S.2.2.2.1
  have hts : ∀ w ∈ allW, w.before (List.toArray [.ref (a_T 0), .ref (a_Wa 0)]) s = true := fun w h => S.2.2.2.2 w (List.mem_cons_of_mem _ h)
  have hl : lv_has ls 5 [(0, .ref (a_T 0)), (1, .ref (a_Wa 0))] := hl
  have J132 : ∀ {K26 : S32 → S32 → S64 → S64 → Int32 → Int32 → Option (Int32 × S32 × S32 × S64 × S64)} (hK26 : ∀ {u_T : S32} {u_W : S32} {v_L : S64} {v_N : S64} {w2 : Int32} {w3 : Int32} {H : Heap} {locs : List Loc} {ls : Array Slot}, K26 u_T u_W v_L v_N w2 w3 = some (r, zu_T, zu_W, zv_L, zv_N) → WD g A s.heap (cl_X9 g a_T (a_W 0) u_T ++ (cl_X10 g a_Wa (a_B 0) p_Wa_16 u_Wa ++ (cl_X10 g a_W (a_B 0) (a_N 0) u_W ++ (cl_X0 g a_B (a_L 0) u_B ++ (cl_X5 g a_L u_L v_L ++ (cl_N g a_N v_N ++ X)))))) H locs → lv_has ls 5 [(0, .ref (a_T 0)), (1, .ref (a_Wa 0)), (2, .int w2), (3, .int w3)] → W p l e (rmH 6) s m (List.toArray [.ref (a_T 0), .ref (a_Wa 0)]) below meth c H locs 0 0 (MQ below (va_Qi (fun r2 (_ : Unit) => r2 = r) (fun _ t => POST g A (cl_X9 g a_T (a_W 0) zu_T ++ (cl_X10 g a_Wa (a_B 0) p_Wa_16 u_Wa ++ (cl_X10 g a_W (a_B 0) (a_N 0) zu_W ++ (cl_X0 g a_B (a_L 0) u_B ++ (cl_X5 g a_L u_L zv_L ++ (cl_N g a_N zv_N ++ X)))))) t) A) (List.toArray [.ref (a_T 0), .ref (a_Wa 0)]) s 0 0 A) (F0 m 26 ls [])), ∀ {u_T : S32} {u_W : S32} {v_L : S64} {v_N : S64} {w2 : Int32} {w3 : Int32} {H : Heap} {locs : List Loc} {ls : Array Slot}, f_X9_dearThoughts_J132 fu u_Wa u_B u_L K26 u_T u_W v_L v_N w2 w3 = some (r, zu_T, zu_W, zv_L, zv_N) → WD g A s.heap (cl_X9 g a_T (a_W 0) u_T ++ (cl_X10 g a_Wa (a_B 0) p_Wa_16 u_Wa ++ (cl_X10 g a_W (a_B 0) (a_N 0) u_W ++ (cl_X0 g a_B (a_L 0) u_B ++ (cl_X5 g a_L u_L v_L ++ (cl_N g a_N v_N ++ X)))))) H locs → lv_has ls 5 [(0, .ref (a_T 0)), (1, .ref (a_Wa 0)), (2, .int w2), (3, .int w3)] → W p l e (rmH 6) s m (List.toArray [.ref (a_T 0), .ref (a_Wa 0)]) below meth c H locs 0 0 (MQ below (va_Qi (fun r2 (_ : Unit) => r2 = r) (fun _ t => POST g A (cl_X9 g a_T (a_W 0) zu_T ++ (cl_X10 g a_Wa (a_B 0) p_Wa_16 u_Wa ++ (cl_X10 g a_W (a_B 0) (a_N 0) zu_W ++ (cl_X0 g a_B (a_L 0) u_B ++ (cl_X5 g a_L u_L zv_L ++ (cl_N g a_N zv_N ++ X)))))) t) A) (List.toArray [.ref (a_T 0), .ref (a_Wa 0)]) s 0 0 A) (F0 m 132 ls []) := by
    intro K26 hK26 u_T u_W v_L v_N w2 w3 H locs ls hf hw hl
    unfold f_X9_dearThoughts_J132 at hf
    obtain ⟨y_31, ey_31⟩ : ∃ y : Int32, y = w3 + (1 : Int32) := ⟨_, rfl⟩
    replace hf := tx_let_e hf ey_31
    refine lv_iinc (v := y_31) (lv' := [(3, .int y_31), (0, .ref (a_T 0)), (1, .ref (a_Wa 0)), (2, .int w2)]) hx hb dX9_dearThoughts_132 hl (k := 3) rfl (by rw [ey_31]; rfl) (by decide) rfl (fun ls hl => ?_)
    refine lv_goto (tgt := 26) hx hb dX9_dearThoughts_135 (by decide) ?_
    exact hK26 hf hw (lv_sub hl [1, 2, 3, 0] rfl)
  have J130 : ∀ {K26 : S32 → S32 → S64 → S64 → Int32 → Int32 → Option (Int32 × S32 × S32 × S64 × S64)} (hK26 : ∀ {u_T : S32} {u_W : S32} {v_L : S64} {v_N : S64} {w2 : Int32} {w3 : Int32} {H : Heap} {locs : List Loc} {ls : Array Slot}, K26 u_T u_W v_L v_N w2 w3 = some (r, zu_T, zu_W, zv_L, zv_N) → WD g A s.heap (cl_X9 g a_T (a_W 0) u_T ++ (cl_X10 g a_Wa (a_B 0) p_Wa_16 u_Wa ++ (cl_X10 g a_W (a_B 0) (a_N 0) u_W ++ (cl_X0 g a_B (a_L 0) u_B ++ (cl_X5 g a_L u_L v_L ++ (cl_N g a_N v_N ++ X)))))) H locs → lv_has ls 5 [(0, .ref (a_T 0)), (1, .ref (a_Wa 0)), (2, .int w2), (3, .int w3)] → W p l e (rmH 6) s m (List.toArray [.ref (a_T 0), .ref (a_Wa 0)]) below meth c H locs 0 0 (MQ below (va_Qi (fun r2 (_ : Unit) => r2 = r) (fun _ t => POST g A (cl_X9 g a_T (a_W 0) zu_T ++ (cl_X10 g a_Wa (a_B 0) p_Wa_16 u_Wa ++ (cl_X10 g a_W (a_B 0) (a_N 0) zu_W ++ (cl_X0 g a_B (a_L 0) u_B ++ (cl_X5 g a_L u_L zv_L ++ (cl_N g a_N zv_N ++ X)))))) t) A) (List.toArray [.ref (a_T 0), .ref (a_Wa 0)]) s 0 0 A) (F0 m 26 ls [])), ∀ {u_T : S32} {u_W : S32} {v_L : S64} {v_N : S64} {w3 : Int32} {t0 : Int32} {t1 : Int32} {H : Heap} {locs : List Loc} {ls : Array Slot}, f_X9_dearThoughts_J130 fu u_Wa u_B u_L K26 u_T u_W v_L v_N w3 t0 t1 = some (r, zu_T, zu_W, zv_L, zv_N) → WD g A s.heap (cl_X9 g a_T (a_W 0) u_T ++ (cl_X10 g a_Wa (a_B 0) p_Wa_16 u_Wa ++ (cl_X10 g a_W (a_B 0) (a_N 0) u_W ++ (cl_X0 g a_B (a_L 0) u_B ++ (cl_X5 g a_L u_L v_L ++ (cl_N g a_N v_N ++ X)))))) H locs → lv_has ls 5 [(0, .ref (a_T 0)), (1, .ref (a_Wa 0)), (3, .int w3)] → W p l e (rmH 6) s m (List.toArray [.ref (a_T 0), .ref (a_Wa 0)]) below meth c H locs 0 0 (MQ below (va_Qi (fun r2 (_ : Unit) => r2 = r) (fun _ t => POST g A (cl_X9 g a_T (a_W 0) zu_T ++ (cl_X10 g a_Wa (a_B 0) p_Wa_16 u_Wa ++ (cl_X10 g a_W (a_B 0) (a_N 0) zu_W ++ (cl_X0 g a_B (a_L 0) u_B ++ (cl_X5 g a_L u_L zv_L ++ (cl_N g a_N zv_N ++ X)))))) t) A) (List.toArray [.ref (a_T 0), .ref (a_Wa 0)]) s 0 0 A) (F0 m 130 ls [.int t1, .int t0]) := by
    intro K26 hK26 u_T u_W v_L v_N w3 t0 t1 H locs ls hf hw hl
    unfold f_X9_dearThoughts_J130 at hf
    refine lv_ior hx hb dX9_dearThoughts_130 ?_
    refine lv_topi (fun y_30 ey_30 => ?_)
    replace hf := tx_let_e hf ey_30
    refine lv_istore_n (lv' := [(2, .int y_30), (0, .ref (a_T 0)), (1, .ref (a_Wa 0)), (3, .int w3)]) hx hb dX9_dearThoughts_131 rfl hl (by decide) rfl (fun ls hl => ?_)
    exact J132 hK26 hf hw (lv_sub hl [1, 2, 0, 3] rfl)
  have J26 : ∀ {K26 : S32 → S32 → S64 → S64 → Int32 → Int32 → Option (Int32 × S32 × S32 × S64 × S64)} (hK26 : ∀ {u_T : S32} {u_W : S32} {v_L : S64} {v_N : S64} {w2 : Int32} {w3 : Int32} {H : Heap} {locs : List Loc} {ls : Array Slot}, K26 u_T u_W v_L v_N w2 w3 = some (r, zu_T, zu_W, zv_L, zv_N) → WD g A s.heap (cl_X9 g a_T (a_W 0) u_T ++ (cl_X10 g a_Wa (a_B 0) p_Wa_16 u_Wa ++ (cl_X10 g a_W (a_B 0) (a_N 0) u_W ++ (cl_X0 g a_B (a_L 0) u_B ++ (cl_X5 g a_L u_L v_L ++ (cl_N g a_N v_N ++ X)))))) H locs → lv_has ls 5 [(0, .ref (a_T 0)), (1, .ref (a_Wa 0)), (2, .int w2), (3, .int w3)] → W p l e (rmH 6) s m (List.toArray [.ref (a_T 0), .ref (a_Wa 0)]) below meth c H locs 0 0 (MQ below (va_Qi (fun r2 (_ : Unit) => r2 = r) (fun _ t => POST g A (cl_X9 g a_T (a_W 0) zu_T ++ (cl_X10 g a_Wa (a_B 0) p_Wa_16 u_Wa ++ (cl_X10 g a_W (a_B 0) (a_N 0) zu_W ++ (cl_X0 g a_B (a_L 0) u_B ++ (cl_X5 g a_L u_L zv_L ++ (cl_N g a_N zv_N ++ X)))))) t) A) (List.toArray [.ref (a_T 0), .ref (a_Wa 0)]) s 0 0 A) (F0 m 26 ls [])), ∀ {u_T : S32} {u_W : S32} {v_L : S64} {v_N : S64} {w2 : Int32} {w3 : Int32} {H : Heap} {locs : List Loc} {ls : Array Slot}, f_X9_dearThoughts_J26 fu u_Wa u_B u_L K26 u_T u_W v_L v_N w2 w3 = some (r, zu_T, zu_W, zv_L, zv_N) → WD g A s.heap (cl_X9 g a_T (a_W 0) u_T ++ (cl_X10 g a_Wa (a_B 0) p_Wa_16 u_Wa ++ (cl_X10 g a_W (a_B 0) (a_N 0) u_W ++ (cl_X0 g a_B (a_L 0) u_B ++ (cl_X5 g a_L u_L v_L ++ (cl_N g a_N v_N ++ X)))))) H locs → lv_has ls 5 [(0, .ref (a_T 0)), (1, .ref (a_Wa 0)), (2, .int w2), (3, .int w3)] → W p l e (rmH 6) s m (List.toArray [.ref (a_T 0), .ref (a_Wa 0)]) below meth c H locs 0 0 (MQ below (va_Qi (fun r2 (_ : Unit) => r2 = r) (fun _ t => POST g A (cl_X9 g a_T (a_W 0) zu_T ++ (cl_X10 g a_Wa (a_B 0) p_Wa_16 u_Wa ++ (cl_X10 g a_W (a_B 0) (a_N 0) zu_W ++ (cl_X0 g a_B (a_L 0) u_B ++ (cl_X5 g a_L u_L zv_L ++ (cl_N g a_N zv_N ++ X)))))) t) A) (List.toArray [.ref (a_T 0), .ref (a_Wa 0)]) s 0 0 A) (F0 m 26 ls []) := by
    intro K26 hK26 u_T u_W v_L v_N w2 w3 H locs ls hf hw hl
    unfold f_X9_dearThoughts_J26 at hf
    refine lv_iload_n hx hb dX9_dearThoughts_26 rfl (lv_at hl 3 rfl) ?_
    refine lv_aload_n hx hb dX9_dearThoughts_27 rfl (lv_at hl 1 rfl) ?_
    refine gf_X9_49 S hE hw 2 rfl rfl dX9_dearThoughts_28 ?_
    refine gf_X9_93 S hE hw 26 rfl rfl dX9_dearThoughts_31 ?_
    refine lv_icmp_ge (tgt := 138) hx hb dX9_dearThoughts_34 (by decide) (fun h_9 => ?_) (fun h_9 => ?_)
    · replace hf := tx_pos hf h_9
      refine lv_iload_n hx hb dX9_dearThoughts_138 rfl (lv_at hl 2 rfl) ?_
      obtain ⟨e0, e1, e2, e3, e4⟩ := tx_in5 hf
      rw [← e0, ← e1, ← e2, ← e3, ← e4]
      exact tx_iret S hr hlk hw dX9_dearThoughts_139
    · replace hf := tx_neg hf h_9
      refine lv_iload_n hx hb dX9_dearThoughts_37 rfl (lv_at hl 3 rfl) ?_
      refine lv_bipush (v := 12) hx hb dX9_dearThoughts_38 (by decide) ?_
      refine lv_icmp_ge (tgt := 138) hx hb dX9_dearThoughts_40 (by decide) (fun h_10 => ?_) (fun h_10 => ?_)
      · replace hf := tx_pos hf h_10
        refine lv_iload_n hx hb dX9_dearThoughts_138 rfl (lv_at hl 2 rfl) ?_
        obtain ⟨e0, e1, e2, e3, e4⟩ := tx_in5 hf
        rw [← e0, ← e1, ← e2, ← e3, ← e4]
        exact tx_iret S hr hlk hw dX9_dearThoughts_139
      · replace hf := tx_neg hf h_10
        refine lv_aload_n hx hb dX9_dearThoughts_43 rfl (lv_at hl 1 rfl) ?_
        refine gf_X9_49 S hE hw 2 rfl rfl dX9_dearThoughts_44 ?_
        refine gf_X9_96 S hE hw 26 rfl rfl dX9_dearThoughts_47 ?_
        refine lv_iload_n hx hb dX9_dearThoughts_50 rfl (lv_at hl 3 rfl) ?_
        obtain ⟨h_11, hf⟩ := tx_ck_e hf
        refine tx_iald S hE hw 30 rfl h_11 dX9_dearThoughts_51 ?_
        refine lv_topi (fun y_12 ey_12 => ?_)
        replace hf := tx_let_e hf ey_12
        refine lv_istore (lv' := [(4, .int y_12), (0, .ref (a_T 0)), (1, .ref (a_Wa 0)), (2, .int w2), (3, .int w3)]) hx hb dX9_dearThoughts_52 hl (by decide) rfl (fun ls hl => ?_)
        refine lv_aload_n hx hb dX9_dearThoughts_54 rfl (lv_at hl 2 rfl) ?_
        refine gf_X9_99 S hE hw 2 rfl rfl dX9_dearThoughts_55 ?_
        refine lv_iload_n hx hb dX9_dearThoughts_58 rfl (lv_at hl 4 rfl) ?_
        obtain ⟨h_13, hf⟩ := tx_ck_e hf
        refine tx_iald S hE hw 9 rfl h_13 dX9_dearThoughts_59 ?_
        refine lv_if_ne (tgt := 132) hx hb dX9_dearThoughts_60 (by decide) (fun h_14 => ?_) (fun h_14 => ?_)
        · replace hf := tx_neg hf h_14
          exact J132 hK26 hf hw (lv_sub hl [1, 2, 3, 4] rfl)
        · replace hf := tx_pos hf h_14
          refine lv_aload_n hx hb dX9_dearThoughts_63 rfl (lv_at hl 2 rfl) ?_
          refine gf_X9_49 S hE hw 2 rfl rfl dX9_dearThoughts_64 ?_
          refine lv_iload hx hb dX9_dearThoughts_67 (lv_at hl 0 rfl) ?_
          have hw := hw.u3
          obtain ⟨r_16, h_15, hf⟩ := tx_b1_e hf
          refine tx_ci hw (tx_runN S hE hw (c_X0_isMan h_15) lk_X9_102 (q0 := 0) rfl rfl rfl hl.1 (rest := []) rfl (Nat.le_of_ble_eq_true rfl) ⟨by decide, by decide⟩ dX9_dearThoughts_69 ⟨Nat.zero_le _, Nat.zero_le _⟩) (fun H locs hw => ?_)
          refine lv_if_eq (tgt := 132) hx hb dX9_dearThoughts_72 (by decide) (fun h_17 => ?_) (fun h_17 => ?_)
          · replace hf := tx_pos hf h_17
            have hw := hw.u5
            have hw := hw.u5
            have hw := hw.u2
            have hw := hw.u5
            have hw := hw.u5
            have hw := hw.u5
            exact J132 hK26 hf hw (lv_sub hl [1, 2, 3, 4] rfl)
          · replace hf := tx_neg hf h_17
            refine lv_aload_n hx hb dX9_dearThoughts_75 rfl (lv_at hl 1 rfl) ?_
            refine gf_X9_20 S hE hw 11 rfl rfl dX9_dearThoughts_76 ?_
            refine lv_aload_n hx hb dX9_dearThoughts_79 rfl (lv_at hl 2 rfl) ?_
            have hw := hw.u2
            have hw := hw.u3
            obtain ⟨u_W_19, h_18, hf⟩ := tx_b1_e hf
            refine tx_cv hw (tx_runN S hE hw (c_X10_copy h_18) lk_X9_24 (q0 := 0) rfl rfl rfl hl.1 (rest := []) rfl (Nat.le_of_ble_eq_true rfl) ⟨by decide, by decide⟩ dX9_dearThoughts_80 ⟨Nat.zero_le _, Nat.zero_le _⟩) (fun H locs hw => ?_)
            refine lv_aload_n hx hb dX9_dearThoughts_83 rfl (lv_at hl 1 rfl) ?_
            refine gf_X9_20 S hE hw 35 rfl rfl dX9_dearThoughts_84 ?_
            refine gf_X9_99 S hE hw 0 rfl rfl dX9_dearThoughts_87 ?_
            refine lv_iload_n hx hb dX9_dearThoughts_90 rfl (lv_at hl 4 rfl) ?_
            refine lv_iconst (v := 2) hx hb dX9_dearThoughts_91 (by decide) ?_
            obtain ⟨h_20, hf⟩ := tx_ck_e hf
            obtain ⟨u_W_21, eu_W_21⟩ : ∃ z : S32, z = up2 u_W_19 11 w3.toNatClampNeg (2 : Int32) := ⟨_, rfl⟩
            replace hf := tx_let_e hf eu_W_21
            refine tx_iast (ws' := cl_X10 g a_W (a_B 0) (a_N 0) u_W_21 ++ (cl_X10 g a_Wa (a_B 0) p_Wa_16 u_Wa ++ (cl_X0 g a_B (a_L 0) u_B ++ (cl_X9 g a_T (a_W 0) u_T ++ (cl_X5 g a_L u_L v_L ++ (cl_N g a_N v_N ++ X)))))) S hE hw 7 rfl h_20 (by rw [eu_W_21]; rfl) dX9_dearThoughts_92 (fun H locs hw => ?_)
            refine lv_aload_n hx hb dX9_dearThoughts_93 rfl (lv_at hl 1 rfl) ?_
            refine gf_X9_20 S hE hw 35 rfl rfl dX9_dearThoughts_94 ?_
            refine lv_bipush (v := 20) hx hb dX9_dearThoughts_97 (by decide) ?_
            refine lv_iconst (v := 0) hx hb dX9_dearThoughts_99 (by decide) ?_
            have hw := hw.u5
            have hw := hw.u5
            have hw := hw.u4
            have hw := hw.u3
            obtain ⟨u_W_23, v_L_24, v_N_25, h_22, hf⟩ := tx_b3_e hf
            refine tx_cv hw (tx_runN S hE hw (c_X10_goWeeks h_22) lk_X9_28 (q0 := 0) rfl rfl rfl hl.1 (rest := []) rfl (Nat.le_of_ble_eq_true rfl) ⟨by decide, by decide⟩ dX9_dearThoughts_100 ⟨Nat.zero_le _, Nat.zero_le _⟩) (fun H locs hw => ?_)
            refine lv_iload_n hx hb dX9_dearThoughts_103 rfl (lv_at hl 3 rfl) ?_
            refine lv_aload_n hx hb dX9_dearThoughts_104 rfl (lv_at hl 1 rfl) ?_
            refine gf_X9_20 S hE hw 42 rfl rfl dX9_dearThoughts_105 ?_
            refine lv_iload hx hb dX9_dearThoughts_108 (lv_at hl 0 rfl) ?_
            obtain ⟨r_27, h_26, hf⟩ := tx_b1_e hf
            refine tx_ci hw (tx_runN S hE hw (c_X10_taxOf h_26) lk_X9_105 (q0 := 0) rfl rfl rfl hl.1 (rest := [.int w2]) rfl (Nat.le_of_ble_eq_true rfl) ⟨by decide, by decide⟩ dX9_dearThoughts_110 ⟨Nat.zero_le _, Nat.zero_le _⟩) (fun H locs hw => ?_)
            refine lv_aload_n hx hb dX9_dearThoughts_113 rfl (lv_at hl 1 rfl) ?_
            refine gf_X9_9 S hE hw 42 rfl rfl dX9_dearThoughts_114 ?_
            refine lv_iload hx hb dX9_dearThoughts_117 (lv_at hl 0 rfl) ?_
            obtain ⟨h_28, hf⟩ := tx_ck_e hf
            refine tx_iald S hE hw 43 rfl h_28 dX9_dearThoughts_119 ?_
            refine lv_icmp_ge (tgt := 129) hx hb dX9_dearThoughts_120 (by decide) (fun h_29 => ?_) (fun h_29 => ?_)
            · replace hf := tx_pos hf h_29
              refine lv_iconst (v := 0) hx hb dX9_dearThoughts_129 (by decide) ?_
              have hw := hw.u3
              have hw := hw.u3
              have hw := hw.u3
              have hw := hw.u3
              have hw := hw.u4
              have hw := hw.u5
              exact J130 hK26 hf hw (lv_sub hl [1, 2, 4] rfl)
            · replace hf := tx_neg hf h_29
              refine lv_iconst (v := 1) hx hb dX9_dearThoughts_123 (by decide) ?_
              refine lv_iload_n hx hb dX9_dearThoughts_124 rfl (lv_at hl 4 rfl) ?_
              refine lv_ishl hx hb dX9_dearThoughts_125 ?_
              refine lv_goto (tgt := 130) hx hb dX9_dearThoughts_126 (by decide) ?_
              have hw := hw.u3
              have hw := hw.u3
              have hw := hw.u3
              have hw := hw.u3
              have hw := hw.u4
              have hw := hw.u5
              exact J130 hK26 hf hw (lv_sub hl [1, 2, 4] rfl)
  have L26 : ∀ (n : Nat), ∀ {u_T : S32} {u_W : S32} {v_L : S64} {v_N : S64} {w2 : Int32} {w3 : Int32} {H : Heap} {locs : List Loc} {ls : Array Slot}, f_X9_dearThoughts_L26 fu u_Wa u_B u_L n u_T u_W v_L v_N w2 w3 = some (r, zu_T, zu_W, zv_L, zv_N) → WD g A s.heap (cl_X9 g a_T (a_W 0) u_T ++ (cl_X10 g a_Wa (a_B 0) p_Wa_16 u_Wa ++ (cl_X10 g a_W (a_B 0) (a_N 0) u_W ++ (cl_X0 g a_B (a_L 0) u_B ++ (cl_X5 g a_L u_L v_L ++ (cl_N g a_N v_N ++ X)))))) H locs → lv_has ls 5 [(0, .ref (a_T 0)), (1, .ref (a_Wa 0)), (2, .int w2), (3, .int w3)] → W p l e (rmH 6) s m (List.toArray [.ref (a_T 0), .ref (a_Wa 0)]) below meth c H locs 0 0 (MQ below (va_Qi (fun r2 (_ : Unit) => r2 = r) (fun _ t => POST g A (cl_X9 g a_T (a_W 0) zu_T ++ (cl_X10 g a_Wa (a_B 0) p_Wa_16 u_Wa ++ (cl_X10 g a_W (a_B 0) (a_N 0) zu_W ++ (cl_X0 g a_B (a_L 0) u_B ++ (cl_X5 g a_L u_L zv_L ++ (cl_N g a_N zv_N ++ X)))))) t) A) (List.toArray [.ref (a_T 0), .ref (a_Wa 0)]) s 0 0 A) (F0 m 26 ls []) := by
    intro  n
    induction n with
    | zero => intro u_T u_W v_L v_N w2 w3 H locs ls hf; exact absurd hf (by intro q; cases q)
    | succ n ih => exact fun hf hw hl => J26 ih hf hw hl
  unfold f_X9_dearThoughts at hf
  refine lv_aload_n hx hb dX9_dearThoughts_0 rfl (lv_at hl 0 rfl) ?_
  refine gf_X9_20 S hE hw 0 rfl rfl dX9_dearThoughts_1 ?_
  refine lv_aload_n hx hb dX9_dearThoughts_4 rfl (lv_at hl 1 rfl) ?_
  have hw := hw.u1
  have hw := hw.u2
  obtain ⟨u_W_2, h_1, hf⟩ := tx_b1_e hf
  refine tx_cv hw (tx_runN S hE hw (c_X10_copy h_1) lk_X9_24 (q0 := 0) rfl rfl rfl hl.1 (rest := []) rfl (Nat.le_of_ble_eq_true rfl) ⟨by decide, by decide⟩ dX9_dearThoughts_5 ⟨Nat.zero_le _, Nat.zero_le _⟩) (fun H locs hw => ?_)
  refine lv_aload_n hx hb dX9_dearThoughts_8 rfl (lv_at hl 0 rfl) ?_
  refine gf_X9_20 S hE hw 24 rfl rfl dX9_dearThoughts_9 ?_
  refine lv_bipush (v := 20) hx hb dX9_dearThoughts_12 (by decide) ?_
  refine lv_iconst (v := 0) hx hb dX9_dearThoughts_14 (by decide) ?_
  have hw := hw.u5
  have hw := hw.u5
  have hw := hw.u5
  have hw := hw.u3
  obtain ⟨u_W_4, v_L_5, v_N_6, h_3, hf⟩ := tx_b3_e hf
  refine tx_cv hw (tx_runN S hE hw (c_X10_goWeeks h_3) lk_X9_28 (q0 := 0) rfl rfl rfl hl.1 (rest := []) rfl (Nat.le_of_ble_eq_true rfl) ⟨by decide, by decide⟩ dX9_dearThoughts_15 ⟨Nat.zero_le _, Nat.zero_le _⟩) (fun H locs hw => ?_)
  refine lv_aload_n hx hb dX9_dearThoughts_18 rfl (lv_at hl 0 rfl) ?_
  have hw := hw.u1
  have hw := hw.u1
  have hw := hw.u5
  obtain ⟨u_T_8, h_7, hf⟩ := tx_b1_e hf
  refine tx_cv hw (tx_runV S hE hw (c_X9_noteTaxes h_7) lk_X9_90 (q0 := 0) rfl rfl rfl hl.1 (rest := []) rfl (Nat.le_of_ble_eq_true rfl) ⟨by decide, by decide⟩ dX9_dearThoughts_19 ⟨Nat.zero_le _, Nat.zero_le _⟩) (fun H locs hw => ?_)
  refine lv_iconst (v := 0) hx hb dX9_dearThoughts_22 (by decide) ?_
  refine lv_istore_n (lv' := [(2, .int (0 : Int32)), (0, .ref (a_T 0)), (1, .ref (a_Wa 0))]) hx hb dX9_dearThoughts_23 rfl hl (by decide) rfl (fun ls hl => ?_)
  refine lv_iconst (v := 0) hx hb dX9_dearThoughts_24 (by decide) ?_
  refine lv_istore_n (lv' := [(3, .int (0 : Int32)), (2, .int (0 : Int32)), (0, .ref (a_T 0)), (1, .ref (a_Wa 0))]) hx hb dX9_dearThoughts_25 rfl hl (by decide) rfl (fun ls hl => ?_)
  have hw := hw.u4
  have hw := hw.u4
  have hw := hw.u4
  have hw := hw.u4
  have hw := hw.u5
  have hw := hw.u5
  exact L26 fu hf hw (lv_sub hl [2, 3, 1, 0] rfl)
def f_X11_worthless (fu : Nat) (u_T : S32) (u_W : S32) (u_B : S32) (u_L : S32) (u_Y : S32) (u_W2 : S32) (v_L : S64) (v_N : S64) : Option (Int32 × S32 × S32 × S64 × S64) := tx_b5 (f_X9_dearThoughts fu u_W u_B u_L u_Y u_W2 v_L v_N) fun (r_2 : Int32) (u_Y_3 : S32) (u_W2_4 : S32) (v_L_5 : S64) (v_N_6 : S64) => some (r_2, u_Y_3, u_W2_4, v_L_5, v_N_6)
set_option maxHeartbeats 4000000 in
set_option maxRecDepth 100000 in
theorem c_X11_worthless {l : Launch} {g : GG} {A : Nat → Prop} {X : va_W} {fu : Nat} {a_T a_Y a_W a_W2 a_B a_L a_N : Nat → Nat} {p_T_0 p_T_2 p_T_3 p_T_5 p_T_7 p_T_8 p_T_9 p_W_16 p_W2_0 : Nat} {u_T : S32} {u_Y : S32} {u_W : S32} {u_W2 : S32} {u_B : S32} {u_L : S32} {v_L : S64} {v_N : S64} {r : Int32} {zu_Y : S32} {zu_W2 : S32} {zv_L : S64} {zv_N : S64} (hf : f_X11_worthless fu u_T u_W u_B u_L u_Y u_W2 v_L v_N = some (r, zu_Y, zu_W2, zv_L, zv_N)) : MI l yX11_worthless cX11_worthless 1 (some .int) 7 g A (cl_X11 g a_T p_T_0 (a_B 0) p_T_2 p_T_3 (a_W 0) p_T_5 (a_Y 0) p_T_7 p_T_8 p_T_9 u_T ++ (cl_X9 g a_Y (a_W2 0) u_Y ++ (cl_X10 g a_W (a_B 0) p_W_16 u_W ++ (cl_X10 g a_W2 p_W2_0 (a_N 0) u_W2 ++ (cl_X0 g a_B (a_L 0) u_B ++ (cl_X5 g a_L u_L v_L ++ (cl_N g a_N v_N ++ X))))))) [.ref (a_T 0)] r (cl_X11 g a_T p_T_0 (a_B 0) p_T_2 p_T_3 (a_W 0) p_T_5 (a_Y 0) p_T_7 p_T_8 p_T_9 u_T ++ (cl_X9 g a_Y (a_W2 0) zu_Y ++ (cl_X10 g a_W (a_B 0) p_W_16 u_W ++ (cl_X10 g a_W2 (a_B 0) (a_N 0) zu_W2 ++ (cl_X0 g a_B (a_L 0) u_B ++ (cl_X5 g a_L u_L zv_L ++ (cl_N g a_N zv_N ++ X))))))) := by
  refine tx_start (av := [.ref (a_T 0)]) (by decide) (Nat.le_of_ble_eq_true rfl) ?_
  intro p e s m below meth c ls S hr hlk hE hw hl
  have S : CallFix p m c cX11_worthless 1 s (List.toArray [.ref (a_T 0)]) (Cond.code yX11_worthless cX11_worthless 1 (some .int) :: allW) RX11 := S
  have hx := S.1
  have hb := S.2.1
  have hown := S.2.2.2.1
  have hts : ∀ w ∈ allW, w.before (List.toArray [.ref (a_T 0)]) s = true := fun w h => S.2.2.2.2 w (List.mem_cons_of_mem _ h)
  have hl : lv_has ls 1 [(0, .ref (a_T 0))] := hl
  unfold f_X11_worthless at hf
  refine lv_aload_n hx hb dX11_worthless_0 rfl (lv_at hl 0 rfl) ?_
  refine gf_X11_52 S hE hw 0 rfl rfl dX11_worthless_1 ?_
  refine lv_aload_n hx hb dX11_worthless_4 rfl (lv_at hl 0 rfl) ?_
  refine gf_X11_42 S hE hw 0 rfl rfl dX11_worthless_5 ?_
  have hw := hw.u6
  have hw := hw.u6
  have hw := hw.u6
  have hw := hw.u6
  have hw := hw.u6
  have hw := hw.u6
  obtain ⟨r_2, u_Y_3, u_W2_4, v_L_5, v_N_6, h_1, hf⟩ := tx_b5_e hf
  refine tx_ci hw (tx_runN S hE hw (c_X9_dearThoughts h_1) lk_X11_248 (q0 := 0) rfl rfl rfl hl.1 (rest := []) rfl (Nat.le_of_ble_eq_true rfl) ⟨by decide, by decide⟩ dX11_worthless_8 ⟨Nat.zero_le _, Nat.zero_le _⟩) (fun H locs hw => ?_)
  have hw := hw.u5
  have hw := hw.u5
  have hw := hw.u5
  have hw := hw.u5
  have hw := hw.u5
  have hw := hw.u5
  have hw := hw.u6
  obtain ⟨e0, e1, e2, e3, e4⟩ := tx_in5 hf
  rw [← e0, ← e1, ← e2, ← e3, ← e4]
  exact tx_iret S hr hlk hw dX11_worthless_11
def f_X0_shareOf_J76 (fu : Nat) (u_T : S32) (w4 : Int32) (w5 : Int32) (t0 : Int32) : Option (Int32) := if w4 = (0 : Int32) then (some t0) else (some (w5 - t0))
def f_X0_shareOf (fu : Nat) (u_T : S32) (x1 : Int32) (x2 : Int32) (x3 : Int32) (x4 : Int32) : Option (Int32) := tx_b1 (f_X0_isThought fu u_T x1) fun (r_2 : Int32) => if r_2 = (0 : Int32) then (some (-1 : Int32)) else (tx_b1 (f_X0_isThought fu u_T x2) fun (r_5 : Int32) => if r_5 = (0 : Int32) then (some (-1 : Int32)) else (tx_ck x1 12 <| tx_ck x2 12 <| tx_let (((if (u_T 8 x1.toNatClampNeg) < (u_T 8 x2.toNatClampNeg) then (u_T 8 x2.toNatClampNeg) else (u_T 8 x1.toNatClampNeg)) * x3) / (100 : Int32)) fun (y_9 : Int32) => tx_ck x1 12 <| tx_ck x2 12 <| tx_let ((u_T 8 x1.toNatClampNeg) + (u_T 8 x2.toNatClampNeg)) fun (y_12 : Int32) => if y_12 ≤ (0 : Int32) then (f_X0_shareOf_J76 fu u_T x4 y_9 (0 : Int32)) else (tx_ck x1 12 <| tx_nz y_12 <| f_X0_shareOf_J76 fu u_T x4 y_9 ((y_9 * (u_T 8 x1.toNatClampNeg)) / y_12))))
set_option maxHeartbeats 4000000 in
set_option maxRecDepth 100000 in
theorem c_X0_shareOf {l : Launch} {g : GG} {A : Nat → Prop} {X : va_W} {fu : Nat} {a_T : Nat → Nat} {p_T_17 : Nat} {u_T : S32} {x1 : Int32} {x2 : Int32} {x3 : Int32} {x4 : Int32} {r : Int32} (hf : f_X0_shareOf fu u_T x1 x2 x3 x4 = some r) : MI l yX0_shareOf cX0_shareOf 8 (some .int) 1 g A (cl_X0 g a_T p_T_17 u_T ++ X) [.ref (a_T 0), .int x1, .int x2, .int x3, .int x4] r (cl_X0 g a_T p_T_17 u_T ++ X) := by
  refine tx_start (av := [.ref (a_T 0), .int x1, .int x2, .int x3, .int x4]) (by decide) (Nat.le_of_ble_eq_true rfl) ?_
  intro p e s m below meth c ls S hr hlk hE hw hl
  have S : CallFix p m c cX0_shareOf 8 s (List.toArray [.ref (a_T 0), .int x1, .int x2, .int x3, .int x4]) (Cond.code yX0_shareOf cX0_shareOf 8 (some .int) :: allW) RX0 := S
  have hx := S.1
  have hb := S.2.1
  have hown := S.2.2.2.1
  have hts : ∀ w ∈ allW, w.before (List.toArray [.ref (a_T 0), .int x1, .int x2, .int x3, .int x4]) s = true := fun w h => S.2.2.2.2 w (List.mem_cons_of_mem _ h)
  have hl : lv_has ls 8 [(0, .ref (a_T 0)), (1, .int x1), (2, .int x2), (3, .int x3), (4, .int x4)] := hl
  have J76 : ∀ {w4 : Int32} {w5 : Int32} {t0 : Int32} {H : Heap} {locs : List Loc} {ls : Array Slot}, f_X0_shareOf_J76 fu u_T w4 w5 t0 = some r → WD g A s.heap (cl_X0 g a_T p_T_17 u_T ++ X) H locs → lv_has ls 8 [(4, .int w4), (5, .int w5)] → W p l e (rmH 1) s m (List.toArray [.ref (a_T 0), .int x1, .int x2, .int x3, .int x4]) below meth c H locs 0 0 (MQ below (va_Qi (fun r2 (_ : Unit) => r2 = r) (fun _ t => POST g A (cl_X0 g a_T p_T_17 u_T ++ X) t) A) (List.toArray [.ref (a_T 0), .int x1, .int x2, .int x3, .int x4]) s 0 0 A) (F0 m 76 ls [.int t0]) := by
    intro w4 w5 t0 H locs ls hf hw hl
    unfold f_X0_shareOf_J76 at hf
    refine lv_istore (lv' := [(7, .int t0), (4, .int w4), (5, .int w5)]) hx hb dX0_shareOf_76 hl (by decide) rfl (fun ls hl => ?_)
    refine lv_iload hx hb dX0_shareOf_78 (lv_at hl 1 rfl) ?_
    refine lv_if_ne (tgt := 88) hx hb dX0_shareOf_80 (by decide) (fun h_16 => ?_) (fun h_16 => ?_)
    · replace hf := tx_neg hf h_16
      refine lv_iload hx hb dX0_shareOf_88 (lv_at hl 2 rfl) ?_
      refine lv_iload hx hb dX0_shareOf_90 (lv_at hl 0 rfl) ?_
      refine lv_isub hx hb dX0_shareOf_92 ?_
      obtain e0 := tx_in1 hf
      rw [← e0]
      exact tx_iret S hr hlk hw dX0_shareOf_93
    · replace hf := tx_pos hf h_16
      refine lv_iload hx hb dX0_shareOf_83 (lv_at hl 0 rfl) ?_
      refine lv_goto (tgt := 93) hx hb dX0_shareOf_85 (by decide) ?_
      obtain e0 := tx_in1 hf
      rw [← e0]
      exact tx_iret S hr hlk hw dX0_shareOf_93
  unfold f_X0_shareOf at hf
  refine lv_aload_n hx hb dX0_shareOf_0 rfl (lv_at hl 0 rfl) ?_
  refine lv_iload_n hx hb dX0_shareOf_1 rfl (lv_at hl 1 rfl) ?_
  obtain ⟨r_2, h_1, hf⟩ := tx_b1_e hf
  refine tx_ci hw (tx_runV S hE hw (c_X0_isThought h_1) lk_X0_78 (q0 := 0) rfl rfl rfl hl.1 (rest := []) rfl (Nat.le_of_ble_eq_true rfl) ⟨by decide, by decide⟩ dX0_shareOf_2 ⟨Nat.zero_le _, Nat.zero_le _⟩) (fun H locs hw => ?_)
  refine lv_if_eq (tgt := 16) hx hb dX0_shareOf_5 (by decide) (fun h_3 => ?_) (fun h_3 => ?_)
  · replace hf := tx_pos hf h_3
    refine lv_iconst (v := -1) hx hb dX0_shareOf_16 (by decide) ?_
    obtain e0 := tx_in1 hf
    rw [← e0]
    exact tx_iret S hr hlk hw dX0_shareOf_17
  · replace hf := tx_neg hf h_3
    refine lv_aload_n hx hb dX0_shareOf_8 rfl (lv_at hl 0 rfl) ?_
    refine lv_iload_n hx hb dX0_shareOf_9 rfl (lv_at hl 2 rfl) ?_
    obtain ⟨r_5, h_4, hf⟩ := tx_b1_e hf
    refine tx_ci hw (tx_runV S hE hw (c_X0_isThought h_4) lk_X0_78 (q0 := 0) rfl rfl rfl hl.1 (rest := []) rfl (Nat.le_of_ble_eq_true rfl) ⟨by decide, by decide⟩ dX0_shareOf_10 ⟨Nat.zero_le _, Nat.zero_le _⟩) (fun H locs hw => ?_)
    refine lv_if_ne (tgt := 18) hx hb dX0_shareOf_13 (by decide) (fun h_6 => ?_) (fun h_6 => ?_)
    · replace hf := tx_neg hf h_6
      refine lv_aload_n hx hb dX0_shareOf_18 rfl (lv_at hl 0 rfl) ?_
      refine gf_X0_24 S hE hw 0 rfl rfl dX0_shareOf_19 ?_
      refine lv_iload_n hx hb dX0_shareOf_22 rfl (lv_at hl 1 rfl) ?_
      obtain ⟨h_7, hf⟩ := tx_ck_e hf
      refine tx_iald S hE hw 5 rfl h_7 dX0_shareOf_23 ?_
      refine lv_aload_n hx hb dX0_shareOf_24 rfl (lv_at hl 0 rfl) ?_
      refine gf_X0_24 S hE hw 0 rfl rfl dX0_shareOf_25 ?_
      refine lv_iload_n hx hb dX0_shareOf_28 rfl (lv_at hl 2 rfl) ?_
      obtain ⟨h_8, hf⟩ := tx_ck_e hf
      refine tx_iald S hE hw 5 rfl h_8 dX0_shareOf_29 ?_
      refine tx_mmax S kw_982 hl.1 (by decide) (Nat.le_of_ble_eq_true rfl) ⟨Nat.zero_le _, Nat.zero_le _⟩ dX0_shareOf_30 ?_
      refine lv_iload_n hx hb dX0_shareOf_33 rfl (lv_at hl 3 rfl) ?_
      refine lv_imul hx hb dX0_shareOf_34 ?_
      refine lv_bipush (v := 100) hx hb dX0_shareOf_35 (by decide) ?_
      refine lv_idiv hx hb dX0_shareOf_37 (by decide) ?_
      refine lv_topi (fun y_9 ey_9 => ?_)
      replace hf := tx_let_e hf ey_9
      refine lv_istore (lv' := [(5, .int y_9), (0, .ref (a_T 0)), (1, .int x1), (2, .int x2), (3, .int x3), (4, .int x4)]) hx hb dX0_shareOf_38 hl (by decide) rfl (fun ls hl => ?_)
      refine lv_aload_n hx hb dX0_shareOf_40 rfl (lv_at hl 1 rfl) ?_
      refine gf_X0_24 S hE hw 0 rfl rfl dX0_shareOf_41 ?_
      refine lv_iload_n hx hb dX0_shareOf_44 rfl (lv_at hl 2 rfl) ?_
      obtain ⟨h_10, hf⟩ := tx_ck_e hf
      refine tx_iald S hE hw 5 rfl h_10 dX0_shareOf_45 ?_
      refine lv_aload_n hx hb dX0_shareOf_46 rfl (lv_at hl 1 rfl) ?_
      refine gf_X0_24 S hE hw 0 rfl rfl dX0_shareOf_47 ?_
      refine lv_iload_n hx hb dX0_shareOf_50 rfl (lv_at hl 3 rfl) ?_
      obtain ⟨h_11, hf⟩ := tx_ck_e hf
      refine tx_iald S hE hw 5 rfl h_11 dX0_shareOf_51 ?_
      refine lv_iadd hx hb dX0_shareOf_52 ?_
      refine lv_topi (fun y_12 ey_12 => ?_)
      replace hf := tx_let_e hf ey_12
      refine lv_istore (lv' := [(6, .int y_12), (5, .int y_9), (0, .ref (a_T 0)), (1, .int x1), (2, .int x2), (3, .int x3), (4, .int x4)]) hx hb dX0_shareOf_53 hl (by decide) rfl (fun ls hl => ?_)
      refine lv_iload hx hb dX0_shareOf_55 (lv_at hl 0 rfl) ?_
      refine lv_if_le (tgt := 75) hx hb dX0_shareOf_57 (by decide) (fun h_13 => ?_) (fun h_13 => ?_)
      · replace hf := tx_pos hf h_13
        refine lv_iconst (v := 0) hx hb dX0_shareOf_75 (by decide) ?_
        exact J76 hf hw (lv_sub hl [6, 1] rfl)
      · replace hf := tx_neg hf h_13
        refine lv_iload hx hb dX0_shareOf_60 (lv_at hl 1 rfl) ?_
        refine lv_aload_n hx hb dX0_shareOf_62 rfl (lv_at hl 2 rfl) ?_
        refine gf_X0_24 S hE hw 0 rfl rfl dX0_shareOf_63 ?_
        refine lv_iload_n hx hb dX0_shareOf_66 rfl (lv_at hl 3 rfl) ?_
        obtain ⟨h_14, hf⟩ := tx_ck_e hf
        refine tx_iald S hE hw 5 rfl h_14 dX0_shareOf_67 ?_
        refine lv_imul hx hb dX0_shareOf_68 ?_
        refine lv_iload hx hb dX0_shareOf_69 (lv_at hl 0 rfl) ?_
        obtain ⟨h_15, hf⟩ := tx_nz_e hf
        refine lv_idiv hx hb dX0_shareOf_71 h_15 ?_
        refine lv_goto (tgt := 76) hx hb dX0_shareOf_72 (by decide) ?_
        exact J76 hf hw (lv_sub hl [6, 1] rfl)
    · replace hf := tx_pos hf h_6
      refine lv_iconst (v := -1) hx hb dX0_shareOf_16 (by decide) ?_
      obtain e0 := tx_in1 hf
      rw [← e0]
      exact tx_iret S hr hlk hw dX0_shareOf_17
def f_X11_share (fu : Nat) (u_T : S32) (u_B : S32) (u_W : S32) (x1 : Int32) (x2 : Int32) (x3 : Int32) : Option (Int32) := tx_b1 (f_X0_isThought fu u_B x1) fun (r_2 : Int32) => if r_2 = (0 : Int32) then (some (-1 : Int32)) else (tx_b1 (f_X0_isThought fu u_B x2) fun (r_5 : Int32) => if r_5 = (0 : Int32) then (some (-1 : Int32)) else (if x3 < (0 : Int32) then (some (-1 : Int32)) else (if x3 ≤ (1 : Int32) then (tx_ck x1 12 <| tx_ck x2 12 <| if (u_B 7 x1.toNatClampNeg) = (u_B 7 x2.toNatClampNeg) then (some (-1 : Int32)) else (tx_b1 (f_X0_shareOf fu u_B x1 x2 (u_W 0 2) x3) fun (r_13 : Int32) => some r_13)) else (some (-1 : Int32)))))
set_option maxHeartbeats 4000000 in
set_option maxRecDepth 100000 in
theorem c_X11_share {l : Launch} {g : GG} {A : Nat → Prop} {X : va_W} {fu : Nat} {a_T a_B a_W : Nat → Nat} {p_T_0 p_T_2 p_T_3 p_T_5 p_T_6 p_T_7 p_T_8 p_T_9 p_B_17 p_W_16 : Nat} {u_T : S32} {u_B : S32} {u_W : S32} {x1 : Int32} {x2 : Int32} {x3 : Int32} {r : Int32} (hf : f_X11_share fu u_T u_B u_W x1 x2 x3 = some r) : MI l yX11_share cX11_share 4 (some .int) 2 g A (cl_X11 g a_T p_T_0 (a_B 0) p_T_2 p_T_3 (a_W 0) p_T_5 p_T_6 p_T_7 p_T_8 p_T_9 u_T ++ (cl_X0 g a_B p_B_17 u_B ++ (cl_X10 g a_W (a_B 0) p_W_16 u_W ++ X))) [.ref (a_T 0), .int x1, .int x2, .int x3] r (cl_X11 g a_T p_T_0 (a_B 0) p_T_2 p_T_3 (a_W 0) p_T_5 p_T_6 p_T_7 p_T_8 p_T_9 u_T ++ (cl_X0 g a_B p_B_17 u_B ++ (cl_X10 g a_W (a_B 0) p_W_16 u_W ++ X))) := by
  refine tx_start (av := [.ref (a_T 0), .int x1, .int x2, .int x3]) (by decide) (Nat.le_of_ble_eq_true rfl) ?_
  intro p e s m below meth c ls S hr hlk hE hw hl
  have S : CallFix p m c cX11_share 4 s (List.toArray [.ref (a_T 0), .int x1, .int x2, .int x3]) (Cond.code yX11_share cX11_share 4 (some .int) :: allW) RX11 := S
  have hx := S.1
  have hb := S.2.1
  have hown := S.2.2.2.1
  have hts : ∀ w ∈ allW, w.before (List.toArray [.ref (a_T 0), .int x1, .int x2, .int x3]) s = true := fun w h => S.2.2.2.2 w (List.mem_cons_of_mem _ h)
  have hl : lv_has ls 4 [(0, .ref (a_T 0)), (1, .int x1), (2, .int x2), (3, .int x3)] := hl
  unfold f_X11_share at hf
  refine lv_aload_n hx hb dX11_share_0 rfl (lv_at hl 0 rfl) ?_
  refine gf_X11_21 S hE hw 0 rfl rfl dX11_share_1 ?_
  refine lv_iload_n hx hb dX11_share_4 rfl (lv_at hl 1 rfl) ?_
  have hw := hw.u1
  obtain ⟨r_2, h_1, hf⟩ := tx_b1_e hf
  refine tx_ci hw (tx_runN S hE hw (c_X0_isThought h_1) lk_X11_120 (q0 := 0) rfl rfl rfl hl.1 (rest := []) rfl (Nat.le_of_ble_eq_true rfl) ⟨by decide, by decide⟩ dX11_share_5 ⟨Nat.zero_le _, Nat.zero_le _⟩) (fun H locs hw => ?_)
  refine lv_if_eq (tgt := 31) hx hb dX11_share_8 (by decide) (fun h_3 => ?_) (fun h_3 => ?_)
  · replace hf := tx_pos hf h_3
    refine lv_iconst (v := -1) hx hb dX11_share_31 (by decide) ?_
    have hw := hw.u2
    have hw := hw.u1
    have hw := hw.u2
    obtain e0 := tx_in1 hf
    rw [← e0]
    exact tx_iret S hr hlk hw dX11_share_32
  · replace hf := tx_neg hf h_3
    refine lv_aload_n hx hb dX11_share_11 rfl (lv_at hl 0 rfl) ?_
    refine gf_X11_21 S hE hw 11 rfl rfl dX11_share_12 ?_
    refine lv_iload_n hx hb dX11_share_15 rfl (lv_at hl 2 rfl) ?_
    obtain ⟨r_5, h_4, hf⟩ := tx_b1_e hf
    refine tx_ci hw (tx_runN S hE hw (c_X0_isThought h_4) lk_X11_120 (q0 := 0) rfl rfl rfl hl.1 (rest := []) rfl (Nat.le_of_ble_eq_true rfl) ⟨by decide, by decide⟩ dX11_share_16 ⟨Nat.zero_le _, Nat.zero_le _⟩) (fun H locs hw => ?_)
    refine lv_if_eq (tgt := 31) hx hb dX11_share_19 (by decide) (fun h_6 => ?_) (fun h_6 => ?_)
    · replace hf := tx_pos hf h_6
      refine lv_iconst (v := -1) hx hb dX11_share_31 (by decide) ?_
      have hw := hw.u2
      have hw := hw.u1
      have hw := hw.u2
      obtain e0 := tx_in1 hf
      rw [← e0]
      exact tx_iret S hr hlk hw dX11_share_32
    · replace hf := tx_neg hf h_6
      refine lv_iload_n hx hb dX11_share_22 rfl (lv_at hl 3 rfl) ?_
      refine lv_if_lt (tgt := 31) hx hb dX11_share_23 (by decide) (fun h_7 => ?_) (fun h_7 => ?_)
      · replace hf := tx_pos hf h_7
        refine lv_iconst (v := -1) hx hb dX11_share_31 (by decide) ?_
        have hw := hw.u2
        have hw := hw.u1
        have hw := hw.u2
        obtain e0 := tx_in1 hf
        rw [← e0]
        exact tx_iret S hr hlk hw dX11_share_32
      · replace hf := tx_neg hf h_7
        refine lv_iload_n hx hb dX11_share_26 rfl (lv_at hl 3 rfl) ?_
        refine lv_iconst (v := 1) hx hb dX11_share_27 (by decide) ?_
        refine lv_icmp_le (tgt := 33) hx hb dX11_share_28 (by decide) (fun h_8 => ?_) (fun h_8 => ?_)
        · replace hf := tx_pos hf h_8
          refine lv_aload_n hx hb dX11_share_33 rfl (lv_at hl 0 rfl) ?_
          refine gf_X11_21 S hE hw 11 rfl rfl dX11_share_34 ?_
          refine gf_X11_130 S hE hw 0 rfl rfl dX11_share_37 ?_
          refine lv_iload_n hx hb dX11_share_40 rfl (lv_at hl 1 rfl) ?_
          obtain ⟨h_9, hf⟩ := tx_ck_e hf
          refine tx_iald S hE hw 4 rfl h_9 dX11_share_41 ?_
          refine lv_aload_n hx hb dX11_share_42 rfl (lv_at hl 0 rfl) ?_
          refine gf_X11_21 S hE hw 11 rfl rfl dX11_share_43 ?_
          refine gf_X11_130 S hE hw 0 rfl rfl dX11_share_46 ?_
          refine lv_iload_n hx hb dX11_share_49 rfl (lv_at hl 2 rfl) ?_
          obtain ⟨h_10, hf⟩ := tx_ck_e hf
          refine tx_iald S hE hw 4 rfl h_10 dX11_share_50 ?_
          refine lv_icmp_ne (tgt := 56) hx hb dX11_share_51 (by decide) (fun h_11 => ?_) (fun h_11 => ?_)
          · replace hf := tx_neg hf h_11
            refine lv_aload_n hx hb dX11_share_56 rfl (lv_at hl 0 rfl) ?_
            refine gf_X11_21 S hE hw 11 rfl rfl dX11_share_57 ?_
            refine lv_iload_n hx hb dX11_share_60 rfl (lv_at hl 1 rfl) ?_
            refine lv_iload_n hx hb dX11_share_61 rfl (lv_at hl 2 rfl) ?_
            refine lv_aload_n hx hb dX11_share_62 rfl (lv_at hl 0 rfl) ?_
            refine gf_X11_42 S hE hw 11 rfl rfl dX11_share_63 ?_
            refine gf_X11_207 S hE hw 12 rfl rfl dX11_share_66 ?_
            refine lv_iload_n hx hb dX11_share_69 rfl (lv_at hl 3 rfl) ?_
            obtain ⟨r_13, h_12, hf⟩ := tx_b1_e hf
            refine tx_ci hw (tx_runN S hE hw (c_X0_shareOf h_12) lk_X11_252 (q0 := 0) rfl rfl rfl hl.1 (rest := []) rfl (Nat.le_of_ble_eq_true rfl) ⟨by decide, by decide⟩ dX11_share_70 ⟨Nat.zero_le _, Nat.zero_le _⟩) (fun H locs hw => ?_)
            have hw := hw.u2
            have hw := hw.u1
            have hw := hw.u2
            obtain e0 := tx_in1 hf
            rw [← e0]
            exact tx_iret S hr hlk hw dX11_share_73
          · replace hf := tx_pos hf h_11
            refine lv_iconst (v := -1) hx hb dX11_share_54 (by decide) ?_
            have hw := hw.u2
            have hw := hw.u1
            have hw := hw.u2
            obtain e0 := tx_in1 hf
            rw [← e0]
            exact tx_iret S hr hlk hw dX11_share_55
        · replace hf := tx_neg hf h_8
          refine lv_iconst (v := -1) hx hb dX11_share_31 (by decide) ?_
          have hw := hw.u2
          have hw := hw.u1
          have hw := hw.u2
          obtain e0 := tx_in1 hf
          rw [← e0]
          exact tx_iret S hr hlk hw dX11_share_32
def f_X10_chainOf_J60 (fu : Nat) (u_T : S32) (u_B : S32) (K5 : Int32 → Int32 → Int32 → Option (Int32)) (K14 : Int32 → Int32 → Int32 → Int32 → Option (Int32)) (w1 : Int32) (w2 : Int32) (w3 : Int32) (w4 : Int32) : Option (Int32) := tx_let (w4 + (1 : Int32)) fun (y_9 : Int32) => K14 w1 w2 w3 y_9
def f_X10_chainOf_J66 (fu : Nat) (u_T : S32) (u_B : S32) (K5 : Int32 → Int32 → Int32 → Option (Int32)) (w1 : Int32) (w2 : Int32) (w3 : Int32) : Option (Int32) := tx_let (w3 + (1 : Int32)) fun (y_8 : Int32) => K5 w1 w2 y_8
def f_X10_chainOf_J14 (fu : Nat) (u_T : S32) (u_B : S32) (K5 : Int32 → Int32 → Int32 → Option (Int32)) (K14 : Int32 → Int32 → Int32 → Int32 → Option (Int32)) (w1 : Int32) (w2 : Int32) (w3 : Int32) (w4 : Int32) : Option (Int32) := if (u_B 0 10) ≤ w4 then (f_X10_chainOf_J66 fu u_T u_B K5 w1 w2 w3) else (if (4 : Int32) ≤ w4 then (f_X10_chainOf_J66 fu u_T u_B K5 w1 w2 w3) else (if ((w1 >>> (w4 &&& 31)) &&& (1 : Int32)) = (1 : Int32) then (tx_ck w4 4 <| if (u_T 14 w4.toNatClampNeg) = w3 then (tx_let ((w2 * w3) / (10 : Int32)) fun (y_7 : Int32) => f_X10_chainOf_J60 fu u_T u_B K5 K14 w1 y_7 w3 w4) else (f_X10_chainOf_J60 fu u_T u_B K5 K14 w1 w2 w3 w4)) else (f_X10_chainOf_J60 fu u_T u_B K5 K14 w1 w2 w3 w4)))
def f_X10_chainOf_L14 (fu : Nat) (u_T : S32) (u_B : S32) (K5 : Int32 → Int32 → Int32 → Option (Int32)) : Nat → Int32 → Int32 → Int32 → Int32 → Option (Int32)
  | 0 => fun _ _ _ _ => none
  | n + 1 => f_X10_chainOf_J14 fu u_T u_B K5 (f_X10_chainOf_L14 fu u_T u_B K5 n)
def f_X10_chainOf_J5 (fu : Nat) (u_T : S32) (u_B : S32) (K5 : Int32 → Int32 → Int32 → Option (Int32)) (w1 : Int32) (w2 : Int32) (w3 : Int32) : Option (Int32) := if (9 : Int32) < w3 then (some w2) else (f_X10_chainOf_L14 fu u_T u_B K5 fu w1 w2 w3 (0 : Int32))
def f_X10_chainOf_L5 (fu : Nat) (u_T : S32) (u_B : S32) : Nat → Int32 → Int32 → Int32 → Option (Int32)
  | 0 => fun _ _ _ => none
  | n + 1 => f_X10_chainOf_J5 fu u_T u_B (f_X10_chainOf_L5 fu u_T u_B n)
def f_X10_chainOf (fu : Nat) (u_T : S32) (u_B : S32) (x1 : Int32) : Option (Int32) := f_X10_chainOf_L5 fu u_T u_B fu x1 (100 : Int32) (0 : Int32)
set_option maxHeartbeats 4000000 in
set_option maxRecDepth 100000 in
theorem c_X10_chainOf {l : Launch} {g : GG} {A : Nat → Prop} {X : va_W} {fu : Nat} {a_T a_B : Nat → Nat} {p_T_16 p_B_17 : Nat} {u_T : S32} {u_B : S32} {x1 : Int32} {r : Int32} (hf : f_X10_chainOf fu u_T u_B x1 = some r) : MI l yX10_chainOf cX10_chainOf 5 (some .int) 0 g A (cl_X10 g a_T (a_B 0) p_T_16 u_T ++ (cl_X0 g a_B p_B_17 u_B ++ X)) [.ref (a_T 0), .int x1] r (cl_X10 g a_T (a_B 0) p_T_16 u_T ++ (cl_X0 g a_B p_B_17 u_B ++ X)) := by
  refine tx_start (av := [.ref (a_T 0), .int x1]) (by decide) (Nat.le_of_ble_eq_true rfl) ?_
  intro p e s m below meth c ls S hr hlk hE hw hl
  have S : CallFix p m c cX10_chainOf 5 s (List.toArray [.ref (a_T 0), .int x1]) (Cond.code yX10_chainOf cX10_chainOf 5 (some .int) :: allW) RX10 := S
  have hx := S.1
  have hb := S.2.1
  have hown := S.2.2.2.1
  have hts : ∀ w ∈ allW, w.before (List.toArray [.ref (a_T 0), .int x1]) s = true := fun w h => S.2.2.2.2 w (List.mem_cons_of_mem _ h)
  have hl : lv_has ls 5 [(0, .ref (a_T 0)), (1, .int x1)] := hl
  have J60 : ∀ {K5 : Int32 → Int32 → Int32 → Option (Int32)} (hK5 : ∀ {w1 : Int32} {w2 : Int32} {w3 : Int32} {H : Heap} {locs : List Loc} {ls : Array Slot}, K5 w1 w2 w3 = some r → WD g A s.heap (cl_X10 g a_T (a_B 0) p_T_16 u_T ++ (cl_X0 g a_B p_B_17 u_B ++ X)) H locs → lv_has ls 5 [(0, .ref (a_T 0)), (1, .int w1), (2, .int w2), (3, .int w3)] → W p l e (rmH 0) s m (List.toArray [.ref (a_T 0), .int x1]) below meth c H locs 0 0 (MQ below (va_Qi (fun r2 (_ : Unit) => r2 = r) (fun _ t => POST g A (cl_X10 g a_T (a_B 0) p_T_16 u_T ++ (cl_X0 g a_B p_B_17 u_B ++ X)) t) A) (List.toArray [.ref (a_T 0), .int x1]) s 0 0 A) (F0 m 5 ls [])) {K14 : Int32 → Int32 → Int32 → Int32 → Option (Int32)} (hK14 : ∀ {w1 : Int32} {w2 : Int32} {w3 : Int32} {w4 : Int32} {H : Heap} {locs : List Loc} {ls : Array Slot}, K14 w1 w2 w3 w4 = some r → WD g A s.heap (cl_X10 g a_T (a_B 0) p_T_16 u_T ++ (cl_X0 g a_B p_B_17 u_B ++ X)) H locs → lv_has ls 5 [(0, .ref (a_T 0)), (1, .int w1), (2, .int w2), (3, .int w3), (4, .int w4)] → W p l e (rmH 0) s m (List.toArray [.ref (a_T 0), .int x1]) below meth c H locs 0 0 (MQ below (va_Qi (fun r2 (_ : Unit) => r2 = r) (fun _ t => POST g A (cl_X10 g a_T (a_B 0) p_T_16 u_T ++ (cl_X0 g a_B p_B_17 u_B ++ X)) t) A) (List.toArray [.ref (a_T 0), .int x1]) s 0 0 A) (F0 m 14 ls [])), ∀ {w1 : Int32} {w2 : Int32} {w3 : Int32} {w4 : Int32} {H : Heap} {locs : List Loc} {ls : Array Slot}, f_X10_chainOf_J60 fu u_T u_B K5 K14 w1 w2 w3 w4 = some r → WD g A s.heap (cl_X10 g a_T (a_B 0) p_T_16 u_T ++ (cl_X0 g a_B p_B_17 u_B ++ X)) H locs → lv_has ls 5 [(0, .ref (a_T 0)), (1, .int w1), (2, .int w2), (3, .int w3), (4, .int w4)] → W p l e (rmH 0) s m (List.toArray [.ref (a_T 0), .int x1]) below meth c H locs 0 0 (MQ below (va_Qi (fun r2 (_ : Unit) => r2 = r) (fun _ t => POST g A (cl_X10 g a_T (a_B 0) p_T_16 u_T ++ (cl_X0 g a_B p_B_17 u_B ++ X)) t) A) (List.toArray [.ref (a_T 0), .int x1]) s 0 0 A) (F0 m 60 ls []) := by
    intro K5 hK5 K14 hK14 w1 w2 w3 w4 H locs ls hf hw hl
    unfold f_X10_chainOf_J60 at hf
    obtain ⟨y_9, ey_9⟩ : ∃ y : Int32, y = w4 + (1 : Int32) := ⟨_, rfl⟩
    replace hf := tx_let_e hf ey_9
    refine lv_iinc (v := y_9) (lv' := [(4, .int y_9), (0, .ref (a_T 0)), (1, .int w1), (2, .int w2), (3, .int w3)]) hx hb dX10_chainOf_60 hl (k := 4) rfl (by rw [ey_9]; rfl) (by decide) rfl (fun ls hl => ?_)
    refine lv_goto (tgt := 14) hx hb dX10_chainOf_63 (by decide) ?_
    exact hK14 hf hw (lv_sub hl [1, 2, 3, 4, 0] rfl)
  have J66 : ∀ {K5 : Int32 → Int32 → Int32 → Option (Int32)} (hK5 : ∀ {w1 : Int32} {w2 : Int32} {w3 : Int32} {H : Heap} {locs : List Loc} {ls : Array Slot}, K5 w1 w2 w3 = some r → WD g A s.heap (cl_X10 g a_T (a_B 0) p_T_16 u_T ++ (cl_X0 g a_B p_B_17 u_B ++ X)) H locs → lv_has ls 5 [(0, .ref (a_T 0)), (1, .int w1), (2, .int w2), (3, .int w3)] → W p l e (rmH 0) s m (List.toArray [.ref (a_T 0), .int x1]) below meth c H locs 0 0 (MQ below (va_Qi (fun r2 (_ : Unit) => r2 = r) (fun _ t => POST g A (cl_X10 g a_T (a_B 0) p_T_16 u_T ++ (cl_X0 g a_B p_B_17 u_B ++ X)) t) A) (List.toArray [.ref (a_T 0), .int x1]) s 0 0 A) (F0 m 5 ls [])), ∀ {w1 : Int32} {w2 : Int32} {w3 : Int32} {H : Heap} {locs : List Loc} {ls : Array Slot}, f_X10_chainOf_J66 fu u_T u_B K5 w1 w2 w3 = some r → WD g A s.heap (cl_X10 g a_T (a_B 0) p_T_16 u_T ++ (cl_X0 g a_B p_B_17 u_B ++ X)) H locs → lv_has ls 5 [(0, .ref (a_T 0)), (1, .int w1), (2, .int w2), (3, .int w3)] → W p l e (rmH 0) s m (List.toArray [.ref (a_T 0), .int x1]) below meth c H locs 0 0 (MQ below (va_Qi (fun r2 (_ : Unit) => r2 = r) (fun _ t => POST g A (cl_X10 g a_T (a_B 0) p_T_16 u_T ++ (cl_X0 g a_B p_B_17 u_B ++ X)) t) A) (List.toArray [.ref (a_T 0), .int x1]) s 0 0 A) (F0 m 66 ls []) := by
    intro K5 hK5 w1 w2 w3 H locs ls hf hw hl
    unfold f_X10_chainOf_J66 at hf
    obtain ⟨y_8, ey_8⟩ : ∃ y : Int32, y = w3 + (1 : Int32) := ⟨_, rfl⟩
    replace hf := tx_let_e hf ey_8
    refine lv_iinc (v := y_8) (lv' := [(3, .int y_8), (0, .ref (a_T 0)), (1, .int w1), (2, .int w2)]) hx hb dX10_chainOf_66 hl (k := 3) rfl (by rw [ey_8]; rfl) (by decide) rfl (fun ls hl => ?_)
    refine lv_goto (tgt := 5) hx hb dX10_chainOf_69 (by decide) ?_
    exact hK5 hf hw (lv_sub hl [1, 2, 3, 0] rfl)
  have J14 : ∀ {K5 : Int32 → Int32 → Int32 → Option (Int32)} (hK5 : ∀ {w1 : Int32} {w2 : Int32} {w3 : Int32} {H : Heap} {locs : List Loc} {ls : Array Slot}, K5 w1 w2 w3 = some r → WD g A s.heap (cl_X10 g a_T (a_B 0) p_T_16 u_T ++ (cl_X0 g a_B p_B_17 u_B ++ X)) H locs → lv_has ls 5 [(0, .ref (a_T 0)), (1, .int w1), (2, .int w2), (3, .int w3)] → W p l e (rmH 0) s m (List.toArray [.ref (a_T 0), .int x1]) below meth c H locs 0 0 (MQ below (va_Qi (fun r2 (_ : Unit) => r2 = r) (fun _ t => POST g A (cl_X10 g a_T (a_B 0) p_T_16 u_T ++ (cl_X0 g a_B p_B_17 u_B ++ X)) t) A) (List.toArray [.ref (a_T 0), .int x1]) s 0 0 A) (F0 m 5 ls [])) {K14 : Int32 → Int32 → Int32 → Int32 → Option (Int32)} (hK14 : ∀ {w1 : Int32} {w2 : Int32} {w3 : Int32} {w4 : Int32} {H : Heap} {locs : List Loc} {ls : Array Slot}, K14 w1 w2 w3 w4 = some r → WD g A s.heap (cl_X10 g a_T (a_B 0) p_T_16 u_T ++ (cl_X0 g a_B p_B_17 u_B ++ X)) H locs → lv_has ls 5 [(0, .ref (a_T 0)), (1, .int w1), (2, .int w2), (3, .int w3), (4, .int w4)] → W p l e (rmH 0) s m (List.toArray [.ref (a_T 0), .int x1]) below meth c H locs 0 0 (MQ below (va_Qi (fun r2 (_ : Unit) => r2 = r) (fun _ t => POST g A (cl_X10 g a_T (a_B 0) p_T_16 u_T ++ (cl_X0 g a_B p_B_17 u_B ++ X)) t) A) (List.toArray [.ref (a_T 0), .int x1]) s 0 0 A) (F0 m 14 ls [])), ∀ {w1 : Int32} {w2 : Int32} {w3 : Int32} {w4 : Int32} {H : Heap} {locs : List Loc} {ls : Array Slot}, f_X10_chainOf_J14 fu u_T u_B K5 K14 w1 w2 w3 w4 = some r → WD g A s.heap (cl_X10 g a_T (a_B 0) p_T_16 u_T ++ (cl_X0 g a_B p_B_17 u_B ++ X)) H locs → lv_has ls 5 [(0, .ref (a_T 0)), (1, .int w1), (2, .int w2), (3, .int w3), (4, .int w4)] → W p l e (rmH 0) s m (List.toArray [.ref (a_T 0), .int x1]) below meth c H locs 0 0 (MQ below (va_Qi (fun r2 (_ : Unit) => r2 = r) (fun _ t => POST g A (cl_X10 g a_T (a_B 0) p_T_16 u_T ++ (cl_X0 g a_B p_B_17 u_B ++ X)) t) A) (List.toArray [.ref (a_T 0), .int x1]) s 0 0 A) (F0 m 14 ls []) := by
    intro K5 hK5 K14 hK14 w1 w2 w3 w4 H locs ls hf hw hl
    unfold f_X10_chainOf_J14 at hf
    refine lv_iload hx hb dX10_chainOf_14 (lv_at hl 4 rfl) ?_
    refine lv_aload_n hx hb dX10_chainOf_16 rfl (lv_at hl 0 rfl) ?_
    refine gf_X10_49 S hE hw 0 rfl rfl dX10_chainOf_17 ?_
    refine gf_X10_83 S hE hw 12 rfl rfl dX10_chainOf_20 ?_
    refine lv_icmp_ge (tgt := 66) hx hb dX10_chainOf_23 (by decide) (fun h_2 => ?_) (fun h_2 => ?_)
    · replace hf := tx_pos hf h_2
      exact J66 hK5 hf hw (lv_sub hl [0, 1, 2, 3] rfl)
    · replace hf := tx_neg hf h_2
      refine lv_iload hx hb dX10_chainOf_26 (lv_at hl 4 rfl) ?_
      refine lv_iconst (v := 4) hx hb dX10_chainOf_28 (by decide) ?_
      refine lv_icmp_ge (tgt := 66) hx hb dX10_chainOf_29 (by decide) (fun h_3 => ?_) (fun h_3 => ?_)
      · replace hf := tx_pos hf h_3
        exact J66 hK5 hf hw (lv_sub hl [0, 1, 2, 3] rfl)
      · replace hf := tx_neg hf h_3
        refine lv_iload_n hx hb dX10_chainOf_32 rfl (lv_at hl 1 rfl) ?_
        refine lv_iload hx hb dX10_chainOf_33 (lv_at hl 4 rfl) ?_
        refine lv_ishr hx hb dX10_chainOf_35 ?_
        refine lv_iconst (v := 1) hx hb dX10_chainOf_36 (by decide) ?_
        refine lv_iand hx hb dX10_chainOf_37 ?_
        refine lv_iconst (v := 1) hx hb dX10_chainOf_38 (by decide) ?_
        refine lv_icmp_ne (tgt := 60) hx hb dX10_chainOf_39 (by decide) (fun h_4 => ?_) (fun h_4 => ?_)
        · replace hf := tx_neg hf h_4
          exact J60 hK5 hK14 hf hw (lv_sub hl [0, 1, 2, 3, 4] rfl)
        · replace hf := tx_pos hf h_4
          refine lv_aload_n hx hb dX10_chainOf_42 rfl (lv_at hl 0 rfl) ?_
          refine gf_X10_39 S hE hw 0 rfl rfl dX10_chainOf_43 ?_
          refine lv_iload hx hb dX10_chainOf_46 (lv_at hl 4 rfl) ?_
          obtain ⟨h_5, hf⟩ := tx_ck_e hf
          refine tx_iald S hE hw 10 rfl h_5 dX10_chainOf_48 ?_
          refine lv_iload_n hx hb dX10_chainOf_49 rfl (lv_at hl 3 rfl) ?_
          refine lv_icmp_ne (tgt := 60) hx hb dX10_chainOf_50 (by decide) (fun h_6 => ?_) (fun h_6 => ?_)
          · replace hf := tx_neg hf h_6
            exact J60 hK5 hK14 hf hw (lv_sub hl [0, 1, 2, 3, 4] rfl)
          · replace hf := tx_pos hf h_6
            refine lv_iload_n hx hb dX10_chainOf_53 rfl (lv_at hl 2 rfl) ?_
            refine lv_iload_n hx hb dX10_chainOf_54 rfl (lv_at hl 3 rfl) ?_
            refine lv_imul hx hb dX10_chainOf_55 ?_
            refine lv_bipush (v := 10) hx hb dX10_chainOf_56 (by decide) ?_
            refine lv_idiv hx hb dX10_chainOf_58 (by decide) ?_
            refine lv_topi (fun y_7 ey_7 => ?_)
            replace hf := tx_let_e hf ey_7
            refine lv_istore_n (lv' := [(2, .int y_7), (0, .ref (a_T 0)), (1, .int w1), (3, .int w3), (4, .int w4)]) hx hb dX10_chainOf_59 rfl hl (by decide) rfl (fun ls hl => ?_)
            exact J60 hK5 hK14 hf hw (lv_sub hl [1, 2, 0, 3, 4] rfl)
  have L14 : ∀ {K5 : Int32 → Int32 → Int32 → Option (Int32)} (hK5 : ∀ {w1 : Int32} {w2 : Int32} {w3 : Int32} {H : Heap} {locs : List Loc} {ls : Array Slot}, K5 w1 w2 w3 = some r → WD g A s.heap (cl_X10 g a_T (a_B 0) p_T_16 u_T ++ (cl_X0 g a_B p_B_17 u_B ++ X)) H locs → lv_has ls 5 [(0, .ref (a_T 0)), (1, .int w1), (2, .int w2), (3, .int w3)] → W p l e (rmH 0) s m (List.toArray [.ref (a_T 0), .int x1]) below meth c H locs 0 0 (MQ below (va_Qi (fun r2 (_ : Unit) => r2 = r) (fun _ t => POST g A (cl_X10 g a_T (a_B 0) p_T_16 u_T ++ (cl_X0 g a_B p_B_17 u_B ++ X)) t) A) (List.toArray [.ref (a_T 0), .int x1]) s 0 0 A) (F0 m 5 ls [])), ∀ (n : Nat), ∀ {w1 : Int32} {w2 : Int32} {w3 : Int32} {w4 : Int32} {H : Heap} {locs : List Loc} {ls : Array Slot}, f_X10_chainOf_L14 fu u_T u_B K5 n w1 w2 w3 w4 = some r → WD g A s.heap (cl_X10 g a_T (a_B 0) p_T_16 u_T ++ (cl_X0 g a_B p_B_17 u_B ++ X)) H locs → lv_has ls 5 [(0, .ref (a_T 0)), (1, .int w1), (2, .int w2), (3, .int w3), (4, .int w4)] → W p l e (rmH 0) s m (List.toArray [.ref (a_T 0), .int x1]) below meth c H locs 0 0 (MQ below (va_Qi (fun r2 (_ : Unit) => r2 = r) (fun _ t => POST g A (cl_X10 g a_T (a_B 0) p_T_16 u_T ++ (cl_X0 g a_B p_B_17 u_B ++ X)) t) A) (List.toArray [.ref (a_T 0), .int x1]) s 0 0 A) (F0 m 14 ls []) := by
    intro K5 hK5 n
    induction n with
    | zero => intro w1 w2 w3 w4 H locs ls hf; exact absurd hf (by intro q; cases q)
    | succ n ih => exact fun hf hw hl => J14 hK5 ih hf hw hl
  have J5 : ∀ {K5 : Int32 → Int32 → Int32 → Option (Int32)} (hK5 : ∀ {w1 : Int32} {w2 : Int32} {w3 : Int32} {H : Heap} {locs : List Loc} {ls : Array Slot}, K5 w1 w2 w3 = some r → WD g A s.heap (cl_X10 g a_T (a_B 0) p_T_16 u_T ++ (cl_X0 g a_B p_B_17 u_B ++ X)) H locs → lv_has ls 5 [(0, .ref (a_T 0)), (1, .int w1), (2, .int w2), (3, .int w3)] → W p l e (rmH 0) s m (List.toArray [.ref (a_T 0), .int x1]) below meth c H locs 0 0 (MQ below (va_Qi (fun r2 (_ : Unit) => r2 = r) (fun _ t => POST g A (cl_X10 g a_T (a_B 0) p_T_16 u_T ++ (cl_X0 g a_B p_B_17 u_B ++ X)) t) A) (List.toArray [.ref (a_T 0), .int x1]) s 0 0 A) (F0 m 5 ls [])), ∀ {w1 : Int32} {w2 : Int32} {w3 : Int32} {H : Heap} {locs : List Loc} {ls : Array Slot}, f_X10_chainOf_J5 fu u_T u_B K5 w1 w2 w3 = some r → WD g A s.heap (cl_X10 g a_T (a_B 0) p_T_16 u_T ++ (cl_X0 g a_B p_B_17 u_B ++ X)) H locs → lv_has ls 5 [(0, .ref (a_T 0)), (1, .int w1), (2, .int w2), (3, .int w3)] → W p l e (rmH 0) s m (List.toArray [.ref (a_T 0), .int x1]) below meth c H locs 0 0 (MQ below (va_Qi (fun r2 (_ : Unit) => r2 = r) (fun _ t => POST g A (cl_X10 g a_T (a_B 0) p_T_16 u_T ++ (cl_X0 g a_B p_B_17 u_B ++ X)) t) A) (List.toArray [.ref (a_T 0), .int x1]) s 0 0 A) (F0 m 5 ls []) := by
    intro K5 hK5 w1 w2 w3 H locs ls hf hw hl
    unfold f_X10_chainOf_J5 at hf
    refine lv_iload_n hx hb dX10_chainOf_5 rfl (lv_at hl 3 rfl) ?_
    refine lv_bipush (v := 9) hx hb dX10_chainOf_6 (by decide) ?_
    refine lv_icmp_gt (tgt := 72) hx hb dX10_chainOf_8 (by decide) (fun h_1 => ?_) (fun h_1 => ?_)
    · replace hf := tx_pos hf h_1
      refine lv_iload_n hx hb dX10_chainOf_72 rfl (lv_at hl 2 rfl) ?_
      obtain e0 := tx_in1 hf
      rw [← e0]
      exact tx_iret S hr hlk hw dX10_chainOf_73
    · replace hf := tx_neg hf h_1
      refine lv_iconst (v := 0) hx hb dX10_chainOf_11 (by decide) ?_
      refine lv_istore (lv' := [(4, .int (0 : Int32)), (0, .ref (a_T 0)), (1, .int w1), (2, .int w2), (3, .int w3)]) hx hb dX10_chainOf_12 hl (by decide) rfl (fun ls hl => ?_)
      exact L14 hK5 fu hf hw (lv_sub hl [1, 2, 3, 4, 0] rfl)
  have L5 : ∀ (n : Nat), ∀ {w1 : Int32} {w2 : Int32} {w3 : Int32} {H : Heap} {locs : List Loc} {ls : Array Slot}, f_X10_chainOf_L5 fu u_T u_B n w1 w2 w3 = some r → WD g A s.heap (cl_X10 g a_T (a_B 0) p_T_16 u_T ++ (cl_X0 g a_B p_B_17 u_B ++ X)) H locs → lv_has ls 5 [(0, .ref (a_T 0)), (1, .int w1), (2, .int w2), (3, .int w3)] → W p l e (rmH 0) s m (List.toArray [.ref (a_T 0), .int x1]) below meth c H locs 0 0 (MQ below (va_Qi (fun r2 (_ : Unit) => r2 = r) (fun _ t => POST g A (cl_X10 g a_T (a_B 0) p_T_16 u_T ++ (cl_X0 g a_B p_B_17 u_B ++ X)) t) A) (List.toArray [.ref (a_T 0), .int x1]) s 0 0 A) (F0 m 5 ls []) := by
    intro  n
    induction n with
    | zero => intro w1 w2 w3 H locs ls hf; exact absurd hf (by intro q; cases q)
    | succ n ih => exact fun hf hw hl => J5 ih hf hw hl
  unfold f_X10_chainOf at hf
  refine lv_bipush (v := 100) hx hb dX10_chainOf_0 (by decide) ?_
  refine lv_istore_n (lv' := [(2, .int (100 : Int32)), (0, .ref (a_T 0)), (1, .int x1)]) hx hb dX10_chainOf_2 rfl hl (by decide) rfl (fun ls hl => ?_)
  refine lv_iconst (v := 0) hx hb dX10_chainOf_3 (by decide) ?_
  refine lv_istore_n (lv' := [(3, .int (0 : Int32)), (2, .int (100 : Int32)), (0, .ref (a_T 0)), (1, .int x1)]) hx hb dX10_chainOf_4 rfl hl (by decide) rfl (fun ls hl => ?_)
  exact L5 fu hf hw (lv_sub hl [2, 3, 1, 0] rfl)
def f_X11_chain (fu : Nat) (u_T : S32) (u_B : S32) (u_W : S32) (x1 : Int32) : Option (Int32) := if x1 < (0 : Int32) then (some (-1 : Int32)) else (if x1 < ((1 : Int32) <<< ((u_B 0 10) &&& 31)) then (tx_b1 (f_X10_chainOf fu u_W u_B x1) fun (r_4 : Int32) => some r_4) else (some (-1 : Int32)))
set_option maxHeartbeats 4000000 in
set_option maxRecDepth 100000 in
theorem c_X11_chain {l : Launch} {g : GG} {A : Nat → Prop} {X : va_W} {fu : Nat} {a_T a_B a_W : Nat → Nat} {p_T_0 p_T_2 p_T_3 p_T_5 p_T_6 p_T_7 p_T_8 p_T_9 p_B_17 p_W_16 : Nat} {u_T : S32} {u_B : S32} {u_W : S32} {x1 : Int32} {r : Int32} (hf : f_X11_chain fu u_T u_B u_W x1 = some r) : MI l yX11_chain cX11_chain 2 (some .int) 1 g A (cl_X11 g a_T p_T_0 (a_B 0) p_T_2 p_T_3 (a_W 0) p_T_5 p_T_6 p_T_7 p_T_8 p_T_9 u_T ++ (cl_X0 g a_B p_B_17 u_B ++ (cl_X10 g a_W (a_B 0) p_W_16 u_W ++ X))) [.ref (a_T 0), .int x1] r (cl_X11 g a_T p_T_0 (a_B 0) p_T_2 p_T_3 (a_W 0) p_T_5 p_T_6 p_T_7 p_T_8 p_T_9 u_T ++ (cl_X0 g a_B p_B_17 u_B ++ (cl_X10 g a_W (a_B 0) p_W_16 u_W ++ X))) := by
  refine tx_start (av := [.ref (a_T 0), .int x1]) (by decide) (Nat.le_of_ble_eq_true rfl) ?_
  intro p e s m below meth c ls S hr hlk hE hw hl
  have S : CallFix p m c cX11_chain 2 s (List.toArray [.ref (a_T 0), .int x1]) (Cond.code yX11_chain cX11_chain 2 (some .int) :: allW) RX11 := S
  have hx := S.1
  have hb := S.2.1
  have hown := S.2.2.2.1
  have hts : ∀ w ∈ allW, w.before (List.toArray [.ref (a_T 0), .int x1]) s = true := fun w h => S.2.2.2.2 w (List.mem_cons_of_mem _ h)
  have hl : lv_has ls 2 [(0, .ref (a_T 0)), (1, .int x1)] := hl
  unfold f_X11_chain at hf
  refine lv_iload_n hx hb dX11_chain_0 rfl (lv_at hl 1 rfl) ?_
  refine lv_if_lt (tgt := 17) hx hb dX11_chain_1 (by decide) (fun h_1 => ?_) (fun h_1 => ?_)
  · replace hf := tx_pos hf h_1
    refine lv_iconst (v := -1) hx hb dX11_chain_17 (by decide) ?_
    obtain e0 := tx_in1 hf
    rw [← e0]
    exact tx_iret S hr hlk hw dX11_chain_18
  · replace hf := tx_neg hf h_1
    refine lv_iload_n hx hb dX11_chain_4 rfl (lv_at hl 1 rfl) ?_
    refine lv_iconst (v := 1) hx hb dX11_chain_5 (by decide) ?_
    refine lv_aload_n hx hb dX11_chain_6 rfl (lv_at hl 0 rfl) ?_
    refine gf_X11_21 S hE hw 0 rfl rfl dX11_chain_7 ?_
    refine gf_X11_232 S hE hw 1 rfl rfl dX11_chain_10 ?_
    refine lv_ishl hx hb dX11_chain_13 ?_
    refine lv_icmp_lt (tgt := 19) hx hb dX11_chain_14 (by decide) (fun h_2 => ?_) (fun h_2 => ?_)
    · replace hf := tx_pos hf h_2
      refine lv_aload_n hx hb dX11_chain_19 rfl (lv_at hl 0 rfl) ?_
      refine gf_X11_42 S hE hw 0 rfl rfl dX11_chain_20 ?_
      refine lv_iload_n hx hb dX11_chain_23 rfl (lv_at hl 1 rfl) ?_
      have hw := hw.u1
      have hw := hw.u2
      obtain ⟨r_4, h_3, hf⟩ := tx_b1_e hf
      refine tx_ci hw (tx_runN S hE hw (c_X10_chainOf h_3) lk_X11_256 (q0 := 0) rfl rfl rfl hl.1 (rest := []) rfl (Nat.le_of_ble_eq_true rfl) ⟨by decide, by decide⟩ dX11_chain_24 ⟨Nat.zero_le _, Nat.zero_le _⟩) (fun H locs hw => ?_)
      have hw := hw.u1
      have hw := hw.u2
      obtain e0 := tx_in1 hf
      rw [← e0]
      exact tx_iret S hr hlk hw dX11_chain_27
    · replace hf := tx_neg hf h_2
      refine lv_iconst (v := -1) hx hb dX11_chain_17 (by decide) ?_
      obtain e0 := tx_in1 hf
      rw [← e0]
      exact tx_iret S hr hlk hw dX11_chain_18
def f_X10_heldWorth_J43 (fu : Nat) (u_T : S32) (u_B : S32) (K4 : Int32 → Int32 → Option (Int32)) (w2 : Int32) (t0 : Int32) (t1 : Int32) : Option (Int32) := tx_let (t0 + t1) fun (y_7 : Int32) => tx_let (w2 + (1 : Int32)) fun (y_8 : Int32) => K4 y_7 y_8
def f_X10_heldWorth_J4 (fu : Nat) (u_T : S32) (u_B : S32) (K4 : Int32 → Int32 → Option (Int32)) (w1 : Int32) (w2 : Int32) : Option (Int32) := if (u_B 0 5) ≤ w2 then (some w1) else (if (12 : Int32) ≤ w2 then (some w1) else (tx_b1 (f_X10_isHeld fu u_T u_B w2) fun (r_4 : Int32) => if r_4 = (0 : Int32) then (f_X10_heldWorth_J43 fu u_T u_B K4 w2 w1 (0 : Int32)) else (tx_ck w2 12 <| f_X10_heldWorth_J43 fu u_T u_B K4 w2 w1 (u_B 8 w2.toNatClampNeg))))
def f_X10_heldWorth_L4 (fu : Nat) (u_T : S32) (u_B : S32) : Nat → Int32 → Int32 → Option (Int32)
  | 0 => fun _ _ => none
  | n + 1 => f_X10_heldWorth_J4 fu u_T u_B (f_X10_heldWorth_L4 fu u_T u_B n)
def f_X10_heldWorth (fu : Nat) (u_T : S32) (u_B : S32) : Option (Int32) := f_X10_heldWorth_L4 fu u_T u_B fu (0 : Int32) (0 : Int32)
set_option maxHeartbeats 4000000 in
set_option maxRecDepth 100000 in
theorem c_X10_heldWorth {l : Launch} {g : GG} {A : Nat → Prop} {X : va_W} {fu : Nat} {a_T a_B : Nat → Nat} {p_T_16 p_B_17 : Nat} {u_T : S32} {u_B : S32} {r : Int32} (hf : f_X10_heldWorth fu u_T u_B = some r) : MI l yX10_heldWorth cX10_heldWorth 3 (some .int) 2 g A (cl_X10 g a_T (a_B 0) p_T_16 u_T ++ (cl_X0 g a_B p_B_17 u_B ++ X)) [.ref (a_T 0)] r (cl_X10 g a_T (a_B 0) p_T_16 u_T ++ (cl_X0 g a_B p_B_17 u_B ++ X)) := by
  refine tx_start (av := [.ref (a_T 0)]) (by decide) (Nat.le_of_ble_eq_true rfl) ?_
  intro p e s m below meth c ls S hr hlk hE hw hl
  have S : CallFix p m c cX10_heldWorth 3 s (List.toArray [.ref (a_T 0)]) (Cond.code yX10_heldWorth cX10_heldWorth 3 (some .int) :: allW) RX10 := S
  have hx := S.1
  have hb := S.2.1
  have hown := S.2.2.2.1
  have hts : ∀ w ∈ allW, w.before (List.toArray [.ref (a_T 0)]) s = true := fun w h => S.2.2.2.2 w (List.mem_cons_of_mem _ h)
  have hl : lv_has ls 3 [(0, .ref (a_T 0))] := hl
  have J43 : ∀ {K4 : Int32 → Int32 → Option (Int32)} (hK4 : ∀ {w1 : Int32} {w2 : Int32} {H : Heap} {locs : List Loc} {ls : Array Slot}, K4 w1 w2 = some r → WD g A s.heap (cl_X10 g a_T (a_B 0) p_T_16 u_T ++ (cl_X0 g a_B p_B_17 u_B ++ X)) H locs → lv_has ls 3 [(0, .ref (a_T 0)), (1, .int w1), (2, .int w2)] → W p l e (rmH 2) s m (List.toArray [.ref (a_T 0)]) below meth c H locs 0 0 (MQ below (va_Qi (fun r2 (_ : Unit) => r2 = r) (fun _ t => POST g A (cl_X10 g a_T (a_B 0) p_T_16 u_T ++ (cl_X0 g a_B p_B_17 u_B ++ X)) t) A) (List.toArray [.ref (a_T 0)]) s 0 0 A) (F0 m 4 ls [])), ∀ {w2 : Int32} {t0 : Int32} {t1 : Int32} {H : Heap} {locs : List Loc} {ls : Array Slot}, f_X10_heldWorth_J43 fu u_T u_B K4 w2 t0 t1 = some r → WD g A s.heap (cl_X10 g a_T (a_B 0) p_T_16 u_T ++ (cl_X0 g a_B p_B_17 u_B ++ X)) H locs → lv_has ls 3 [(0, .ref (a_T 0)), (2, .int w2)] → W p l e (rmH 2) s m (List.toArray [.ref (a_T 0)]) below meth c H locs 0 0 (MQ below (va_Qi (fun r2 (_ : Unit) => r2 = r) (fun _ t => POST g A (cl_X10 g a_T (a_B 0) p_T_16 u_T ++ (cl_X0 g a_B p_B_17 u_B ++ X)) t) A) (List.toArray [.ref (a_T 0)]) s 0 0 A) (F0 m 43 ls [.int t1, .int t0]) := by
    intro K4 hK4 w2 t0 t1 H locs ls hf hw hl
    unfold f_X10_heldWorth_J43 at hf
    refine lv_iadd hx hb dX10_heldWorth_43 ?_
    refine lv_topi (fun y_7 ey_7 => ?_)
    replace hf := tx_let_e hf ey_7
    refine lv_istore_n (lv' := [(1, .int y_7), (0, .ref (a_T 0)), (2, .int w2)]) hx hb dX10_heldWorth_44 rfl hl (by decide) rfl (fun ls hl => ?_)
    obtain ⟨y_8, ey_8⟩ : ∃ y : Int32, y = w2 + (1 : Int32) := ⟨_, rfl⟩
    replace hf := tx_let_e hf ey_8
    refine lv_iinc (v := y_8) (lv' := [(2, .int y_8), (1, .int y_7), (0, .ref (a_T 0))]) hx hb dX10_heldWorth_45 hl (k := 2) rfl (by rw [ey_8]; rfl) (by decide) rfl (fun ls hl => ?_)
    refine lv_goto (tgt := 4) hx hb dX10_heldWorth_48 (by decide) ?_
    exact hK4 hf hw (lv_sub hl [2, 1, 0] rfl)
  have J4 : ∀ {K4 : Int32 → Int32 → Option (Int32)} (hK4 : ∀ {w1 : Int32} {w2 : Int32} {H : Heap} {locs : List Loc} {ls : Array Slot}, K4 w1 w2 = some r → WD g A s.heap (cl_X10 g a_T (a_B 0) p_T_16 u_T ++ (cl_X0 g a_B p_B_17 u_B ++ X)) H locs → lv_has ls 3 [(0, .ref (a_T 0)), (1, .int w1), (2, .int w2)] → W p l e (rmH 2) s m (List.toArray [.ref (a_T 0)]) below meth c H locs 0 0 (MQ below (va_Qi (fun r2 (_ : Unit) => r2 = r) (fun _ t => POST g A (cl_X10 g a_T (a_B 0) p_T_16 u_T ++ (cl_X0 g a_B p_B_17 u_B ++ X)) t) A) (List.toArray [.ref (a_T 0)]) s 0 0 A) (F0 m 4 ls [])), ∀ {w1 : Int32} {w2 : Int32} {H : Heap} {locs : List Loc} {ls : Array Slot}, f_X10_heldWorth_J4 fu u_T u_B K4 w1 w2 = some r → WD g A s.heap (cl_X10 g a_T (a_B 0) p_T_16 u_T ++ (cl_X0 g a_B p_B_17 u_B ++ X)) H locs → lv_has ls 3 [(0, .ref (a_T 0)), (1, .int w1), (2, .int w2)] → W p l e (rmH 2) s m (List.toArray [.ref (a_T 0)]) below meth c H locs 0 0 (MQ below (va_Qi (fun r2 (_ : Unit) => r2 = r) (fun _ t => POST g A (cl_X10 g a_T (a_B 0) p_T_16 u_T ++ (cl_X0 g a_B p_B_17 u_B ++ X)) t) A) (List.toArray [.ref (a_T 0)]) s 0 0 A) (F0 m 4 ls []) := by
    intro K4 hK4 w1 w2 H locs ls hf hw hl
    unfold f_X10_heldWorth_J4 at hf
    refine lv_iload_n hx hb dX10_heldWorth_4 rfl (lv_at hl 2 rfl) ?_
    refine lv_aload_n hx hb dX10_heldWorth_5 rfl (lv_at hl 0 rfl) ?_
    refine gf_X10_49 S hE hw 0 rfl rfl dX10_heldWorth_6 ?_
    refine gf_X10_117 S hE hw 12 rfl rfl dX10_heldWorth_9 ?_
    refine lv_icmp_ge (tgt := 51) hx hb dX10_heldWorth_12 (by decide) (fun h_1 => ?_) (fun h_1 => ?_)
    · replace hf := tx_pos hf h_1
      refine lv_iload_n hx hb dX10_heldWorth_51 rfl (lv_at hl 1 rfl) ?_
      obtain e0 := tx_in1 hf
      rw [← e0]
      exact tx_iret S hr hlk hw dX10_heldWorth_52
    · replace hf := tx_neg hf h_1
      refine lv_iload_n hx hb dX10_heldWorth_15 rfl (lv_at hl 2 rfl) ?_
      refine lv_bipush (v := 12) hx hb dX10_heldWorth_16 (by decide) ?_
      refine lv_icmp_ge (tgt := 51) hx hb dX10_heldWorth_18 (by decide) (fun h_2 => ?_) (fun h_2 => ?_)
      · replace hf := tx_pos hf h_2
        refine lv_iload_n hx hb dX10_heldWorth_51 rfl (lv_at hl 1 rfl) ?_
        obtain e0 := tx_in1 hf
        rw [← e0]
        exact tx_iret S hr hlk hw dX10_heldWorth_52
      · replace hf := tx_neg hf h_2
        refine lv_iload_n hx hb dX10_heldWorth_21 rfl (lv_at hl 1 rfl) ?_
        refine lv_aload_n hx hb dX10_heldWorth_22 rfl (lv_at hl 0 rfl) ?_
        refine lv_iload_n hx hb dX10_heldWorth_23 rfl (lv_at hl 2 rfl) ?_
        obtain ⟨r_4, h_3, hf⟩ := tx_b1_e hf
        refine tx_ci hw (tx_runV S hE hw (c_X10_isHeld h_3) lk_X10_172 (q0 := 0) rfl rfl rfl hl.1 (rest := [.int w1]) rfl (Nat.le_of_ble_eq_true rfl) ⟨by decide, by decide⟩ dX10_heldWorth_24 ⟨Nat.zero_le _, Nat.zero_le _⟩) (fun H locs hw => ?_)
        refine lv_if_eq (tgt := 42) hx hb dX10_heldWorth_27 (by decide) (fun h_5 => ?_) (fun h_5 => ?_)
        · replace hf := tx_pos hf h_5
          refine lv_iconst (v := 0) hx hb dX10_heldWorth_42 (by decide) ?_
          exact J43 hK4 hf hw (lv_sub hl [0, 2] rfl)
        · replace hf := tx_neg hf h_5
          refine lv_aload_n hx hb dX10_heldWorth_30 rfl (lv_at hl 0 rfl) ?_
          refine gf_X10_49 S hE hw 0 rfl rfl dX10_heldWorth_31 ?_
          refine gf_X10_141 S hE hw 12 rfl rfl dX10_heldWorth_34 ?_
          refine lv_iload_n hx hb dX10_heldWorth_37 rfl (lv_at hl 2 rfl) ?_
          obtain ⟨h_6, hf⟩ := tx_ck_e hf
          refine tx_iald S hE hw 17 rfl h_6 dX10_heldWorth_38 ?_
          refine lv_goto (tgt := 43) hx hb dX10_heldWorth_39 (by decide) ?_
          exact J43 hK4 hf hw (lv_sub hl [0, 2] rfl)
  have L4 : ∀ (n : Nat), ∀ {w1 : Int32} {w2 : Int32} {H : Heap} {locs : List Loc} {ls : Array Slot}, f_X10_heldWorth_L4 fu u_T u_B n w1 w2 = some r → WD g A s.heap (cl_X10 g a_T (a_B 0) p_T_16 u_T ++ (cl_X0 g a_B p_B_17 u_B ++ X)) H locs → lv_has ls 3 [(0, .ref (a_T 0)), (1, .int w1), (2, .int w2)] → W p l e (rmH 2) s m (List.toArray [.ref (a_T 0)]) below meth c H locs 0 0 (MQ below (va_Qi (fun r2 (_ : Unit) => r2 = r) (fun _ t => POST g A (cl_X10 g a_T (a_B 0) p_T_16 u_T ++ (cl_X0 g a_B p_B_17 u_B ++ X)) t) A) (List.toArray [.ref (a_T 0)]) s 0 0 A) (F0 m 4 ls []) := by
    intro  n
    induction n with
    | zero => intro w1 w2 H locs ls hf; exact absurd hf (by intro q; cases q)
    | succ n ih => exact fun hf hw hl => J4 ih hf hw hl
  unfold f_X10_heldWorth at hf
  refine lv_iconst (v := 0) hx hb dX10_heldWorth_0 (by decide) ?_
  refine lv_istore_n (lv' := [(1, .int (0 : Int32)), (0, .ref (a_T 0))]) hx hb dX10_heldWorth_1 rfl hl (by decide) rfl (fun ls hl => ?_)
  refine lv_iconst (v := 0) hx hb dX10_heldWorth_2 (by decide) ?_
  refine lv_istore_n (lv' := [(2, .int (0 : Int32)), (1, .int (0 : Int32)), (0, .ref (a_T 0))]) hx hb dX10_heldWorth_3 rfl hl (by decide) rfl (fun ls hl => ?_)
  exact L4 fu hf hw (lv_sub hl [2, 1, 0] rfl)
def f_X3_tax_J57 (fu : Nat) (u_T : S32) (t0 : Int32) : Option (Int32) := some ((t0 * (u_T 0 3)) / (100 : Int32))
def f_X3_tax_J47 (fu : Nat) (u_T : S32) : Option (Int32) := f_X3_tax_J57 fu u_T ((u_T 0 2) / (2 : Int32))
def f_X3_tax_J38 (fu : Nat) (u_T : S32) (w3 : Int32) (w4 : Int32) : Option (Int32) := if w3 = (0 : Int32) then (if w4 = (0 : Int32) then (f_X3_tax_J57 fu u_T (0 : Int32)) else (f_X3_tax_J47 fu u_T )) else (f_X3_tax_J47 fu u_T )
def f_X3_tax_J20 (fu : Nat) (u_T : S32) (w3 : Int32) (t0 : Int32) : Option (Int32) := if w3 = (0 : Int32) then (f_X3_tax_J38 fu u_T w3 t0) else (if t0 = (0 : Int32) then (f_X3_tax_J38 fu u_T w3 t0) else (f_X3_tax_J57 fu u_T (u_T 0 2)))
def f_X3_tax_J10 (fu : Nat) (u_T : S32) (w2 : Int32) (t0 : Int32) : Option (Int32) := if w2 = (0 : Int32) then (f_X3_tax_J20 fu u_T t0 (1 : Int32)) else (f_X3_tax_J20 fu u_T t0 (0 : Int32))
def f_X3_tax (fu : Nat) (u_T : S32) (x1 : Int32) (x2 : Int32) : Option (Int32) := if x1 = (1 : Int32) then (f_X3_tax_J10 fu u_T x2 (1 : Int32)) else (f_X3_tax_J10 fu u_T x2 (0 : Int32))
set_option maxHeartbeats 4000000 in
set_option maxRecDepth 100000 in
theorem c_X3_tax {l : Launch} {g : GG} {A : Nat → Prop} {X : va_W} {fu : Nat} {a_T : Nat → Nat} {u_T : S32} {x1 : Int32} {x2 : Int32} {r : Int32} (hf : f_X3_tax fu u_T x1 x2 = some r) : MI l yX3_tax cX3_tax 6 (some .int) 0 g A (cl_X3 g a_T u_T ++ X) [.ref (a_T 0), .int x1, .int x2] r (cl_X3 g a_T u_T ++ X) := by
  refine tx_start (av := [.ref (a_T 0), .int x1, .int x2]) (by decide) (Nat.le_of_ble_eq_true rfl) ?_
  intro p e s m below meth c ls S hr hlk hE hw hl
  have S : CallFix p m c cX3_tax 6 s (List.toArray [.ref (a_T 0), .int x1, .int x2]) (Cond.code yX3_tax cX3_tax 6 (some .int) :: allW) RX3 := S
  have hx := S.1
  have hb := S.2.1
  have hown := S.2.2.2.1
  have hts : ∀ w ∈ allW, w.before (List.toArray [.ref (a_T 0), .int x1, .int x2]) s = true := fun w h => S.2.2.2.2 w (List.mem_cons_of_mem _ h)
  have hl : lv_has ls 6 [(0, .ref (a_T 0)), (1, .int x1), (2, .int x2)] := hl
  have J57 : ∀ {t0 : Int32} {H : Heap} {locs : List Loc} {ls : Array Slot}, f_X3_tax_J57 fu u_T t0 = some r → WD g A s.heap (cl_X3 g a_T u_T ++ X) H locs → lv_has ls 6 [(0, .ref (a_T 0))] → W p l e (rmH 0) s m (List.toArray [.ref (a_T 0), .int x1, .int x2]) below meth c H locs 0 0 (MQ below (va_Qi (fun r2 (_ : Unit) => r2 = r) (fun _ t => POST g A (cl_X3 g a_T u_T ++ X) t) A) (List.toArray [.ref (a_T 0), .int x1, .int x2]) s 0 0 A) (F0 m 57 ls [.int t0]) := by
    intro t0 H locs ls hf hw hl
    unfold f_X3_tax_J57 at hf
    refine lv_istore (lv' := [(5, .int t0), (0, .ref (a_T 0))]) hx hb dX3_tax_57 hl (by decide) rfl (fun ls hl => ?_)
    refine lv_iload hx hb dX3_tax_59 (lv_at hl 0 rfl) ?_
    refine lv_aload_n hx hb dX3_tax_61 rfl (lv_at hl 1 rfl) ?_
    refine gf_X3_22 S hE hw 0 rfl rfl dX3_tax_62 ?_
    refine lv_imul hx hb dX3_tax_65 ?_
    refine lv_bipush (v := 100) hx hb dX3_tax_66 (by decide) ?_
    refine lv_idiv hx hb dX3_tax_68 (by decide) ?_
    obtain e0 := tx_in1 hf
    rw [← e0]
    exact tx_iret S hr hlk hw dX3_tax_69
  have J47 : ∀ {H : Heap} {locs : List Loc} {ls : Array Slot}, f_X3_tax_J47 fu u_T  = some r → WD g A s.heap (cl_X3 g a_T u_T ++ X) H locs → lv_has ls 6 [(0, .ref (a_T 0))] → W p l e (rmH 0) s m (List.toArray [.ref (a_T 0), .int x1, .int x2]) below meth c H locs 0 0 (MQ below (va_Qi (fun r2 (_ : Unit) => r2 = r) (fun _ t => POST g A (cl_X3 g a_T u_T ++ X) t) A) (List.toArray [.ref (a_T 0), .int x1, .int x2]) s 0 0 A) (F0 m 47 ls []) := by
    intro H locs ls hf hw hl
    unfold f_X3_tax_J47 at hf
    refine lv_aload_n hx hb dX3_tax_47 rfl (lv_at hl 0 rfl) ?_
    refine gf_X3_18 S hE hw 0 rfl rfl dX3_tax_48 ?_
    refine lv_iconst (v := 2) hx hb dX3_tax_51 (by decide) ?_
    refine lv_idiv hx hb dX3_tax_52 (by decide) ?_
    refine lv_goto (tgt := 57) hx hb dX3_tax_53 (by decide) ?_
    exact J57 hf hw (lv_sub hl [0] rfl)
  have J38 : ∀ {w3 : Int32} {w4 : Int32} {H : Heap} {locs : List Loc} {ls : Array Slot}, f_X3_tax_J38 fu u_T w3 w4 = some r → WD g A s.heap (cl_X3 g a_T u_T ++ X) H locs → lv_has ls 6 [(0, .ref (a_T 0)), (3, .int w3), (4, .int w4)] → W p l e (rmH 0) s m (List.toArray [.ref (a_T 0), .int x1, .int x2]) below meth c H locs 0 0 (MQ below (va_Qi (fun r2 (_ : Unit) => r2 = r) (fun _ t => POST g A (cl_X3 g a_T u_T ++ X) t) A) (List.toArray [.ref (a_T 0), .int x1, .int x2]) s 0 0 A) (F0 m 38 ls []) := by
    intro w3 w4 H locs ls hf hw hl
    unfold f_X3_tax_J38 at hf
    refine lv_iload_n hx hb dX3_tax_38 rfl (lv_at hl 1 rfl) ?_
    refine lv_if_ne (tgt := 47) hx hb dX3_tax_39 (by decide) (fun h_5 => ?_) (fun h_5 => ?_)
    · replace hf := tx_neg hf h_5
      exact J47 hf hw (lv_sub hl [0] rfl)
    · replace hf := tx_pos hf h_5
      refine lv_iload hx hb dX3_tax_42 (lv_at hl 2 rfl) ?_
      refine lv_if_eq (tgt := 56) hx hb dX3_tax_44 (by decide) (fun h_6 => ?_) (fun h_6 => ?_)
      · replace hf := tx_pos hf h_6
        refine lv_iconst (v := 0) hx hb dX3_tax_56 (by decide) ?_
        exact J57 hf hw (lv_sub hl [0] rfl)
      · replace hf := tx_neg hf h_6
        exact J47 hf hw (lv_sub hl [0] rfl)
  have J20 : ∀ {w3 : Int32} {t0 : Int32} {H : Heap} {locs : List Loc} {ls : Array Slot}, f_X3_tax_J20 fu u_T w3 t0 = some r → WD g A s.heap (cl_X3 g a_T u_T ++ X) H locs → lv_has ls 6 [(0, .ref (a_T 0)), (3, .int w3)] → W p l e (rmH 0) s m (List.toArray [.ref (a_T 0), .int x1, .int x2]) below meth c H locs 0 0 (MQ below (va_Qi (fun r2 (_ : Unit) => r2 = r) (fun _ t => POST g A (cl_X3 g a_T u_T ++ X) t) A) (List.toArray [.ref (a_T 0), .int x1, .int x2]) s 0 0 A) (F0 m 20 ls [.int t0]) := by
    intro w3 t0 H locs ls hf hw hl
    unfold f_X3_tax_J20 at hf
    refine lv_istore (lv' := [(4, .int t0), (0, .ref (a_T 0)), (3, .int w3)]) hx hb dX3_tax_20 hl (by decide) rfl (fun ls hl => ?_)
    refine lv_iload_n hx hb dX3_tax_22 rfl (lv_at hl 2 rfl) ?_
    refine lv_if_eq (tgt := 38) hx hb dX3_tax_23 (by decide) (fun h_3 => ?_) (fun h_3 => ?_)
    · replace hf := tx_pos hf h_3
      exact J38 hf hw (lv_sub hl [1, 2, 0] rfl)
    · replace hf := tx_neg hf h_3
      refine lv_iload hx hb dX3_tax_26 (lv_at hl 0 rfl) ?_
      refine lv_if_eq (tgt := 38) hx hb dX3_tax_28 (by decide) (fun h_4 => ?_) (fun h_4 => ?_)
      · replace hf := tx_pos hf h_4
        exact J38 hf hw (lv_sub hl [1, 2, 0] rfl)
      · replace hf := tx_neg hf h_4
        refine lv_aload_n hx hb dX3_tax_31 rfl (lv_at hl 1 rfl) ?_
        refine gf_X3_18 S hE hw 0 rfl rfl dX3_tax_32 ?_
        refine lv_goto (tgt := 57) hx hb dX3_tax_35 (by decide) ?_
        exact J57 hf hw (lv_sub hl [1] rfl)
  have J10 : ∀ {w2 : Int32} {t0 : Int32} {H : Heap} {locs : List Loc} {ls : Array Slot}, f_X3_tax_J10 fu u_T w2 t0 = some r → WD g A s.heap (cl_X3 g a_T u_T ++ X) H locs → lv_has ls 6 [(0, .ref (a_T 0)), (2, .int w2)] → W p l e (rmH 0) s m (List.toArray [.ref (a_T 0), .int x1, .int x2]) below meth c H locs 0 0 (MQ below (va_Qi (fun r2 (_ : Unit) => r2 = r) (fun _ t => POST g A (cl_X3 g a_T u_T ++ X) t) A) (List.toArray [.ref (a_T 0), .int x1, .int x2]) s 0 0 A) (F0 m 10 ls [.int t0]) := by
    intro w2 t0 H locs ls hf hw hl
    unfold f_X3_tax_J10 at hf
    refine lv_istore_n (lv' := [(3, .int t0), (0, .ref (a_T 0)), (2, .int w2)]) hx hb dX3_tax_10 rfl hl (by decide) rfl (fun ls hl => ?_)
    refine lv_iload_n hx hb dX3_tax_11 rfl (lv_at hl 2 rfl) ?_
    refine lv_if_ne (tgt := 19) hx hb dX3_tax_12 (by decide) (fun h_2 => ?_) (fun h_2 => ?_)
    · replace hf := tx_neg hf h_2
      refine lv_iconst (v := 0) hx hb dX3_tax_19 (by decide) ?_
      exact J20 hf hw (lv_sub hl [1, 0] rfl)
    · replace hf := tx_pos hf h_2
      refine lv_iconst (v := 1) hx hb dX3_tax_15 (by decide) ?_
      refine lv_goto (tgt := 20) hx hb dX3_tax_16 (by decide) ?_
      exact J20 hf hw (lv_sub hl [1, 0] rfl)
  unfold f_X3_tax at hf
  refine lv_iload_n hx hb dX3_tax_0 rfl (lv_at hl 1 rfl) ?_
  refine lv_iconst (v := 1) hx hb dX3_tax_1 (by decide) ?_
  refine lv_icmp_ne (tgt := 9) hx hb dX3_tax_2 (by decide) (fun h_1 => ?_) (fun h_1 => ?_)
  · replace hf := tx_neg hf h_1
    refine lv_iconst (v := 0) hx hb dX3_tax_9 (by decide) ?_
    exact J10 hf hw (lv_sub hl [0, 2] rfl)
  · replace hf := tx_pos hf h_1
    refine lv_iconst (v := 1) hx hb dX3_tax_5 (by decide) ?_
    refine lv_goto (tgt := 10) hx hb dX3_tax_6 (by decide) ?_
    exact J10 hf hw (lv_sub hl [0, 2] rfl)
def f_X3_streetHas (fu : Nat) (u_T : S32) (x1 : Int32) (x2 : Int32) : Option (Int32) := tx_b1 (f_X3_tax fu u_T x1 x2) fun (r_2 : Int32) => if x1 = (0 : Int32) then (some ((-r_2) - (5 : Int32))) else (some ((-r_2) - (0 : Int32)))
set_option maxHeartbeats 4000000 in
set_option maxRecDepth 100000 in
theorem c_X3_streetHas {l : Launch} {g : GG} {A : Nat → Prop} {X : va_W} {fu : Nat} {a_T : Nat → Nat} {u_T : S32} {x1 : Int32} {x2 : Int32} {r : Int32} (hf : f_X3_streetHas fu u_T x1 x2 = some r) : MI l yX3_streetHas cX3_streetHas 3 (some .int) 1 g A (cl_X3 g a_T u_T ++ X) [.ref (a_T 0), .int x1, .int x2] r (cl_X3 g a_T u_T ++ X) := by
  refine tx_start (av := [.ref (a_T 0), .int x1, .int x2]) (by decide) (Nat.le_of_ble_eq_true rfl) ?_
  intro p e s m below meth c ls S hr hlk hE hw hl
  have S : CallFix p m c cX3_streetHas 3 s (List.toArray [.ref (a_T 0), .int x1, .int x2]) (Cond.code yX3_streetHas cX3_streetHas 3 (some .int) :: allW) RX3 := S
  have hx := S.1
  have hb := S.2.1
  have hown := S.2.2.2.1
  have hts : ∀ w ∈ allW, w.before (List.toArray [.ref (a_T 0), .int x1, .int x2]) s = true := fun w h => S.2.2.2.2 w (List.mem_cons_of_mem _ h)
  have hl : lv_has ls 3 [(0, .ref (a_T 0)), (1, .int x1), (2, .int x2)] := hl
  unfold f_X3_streetHas at hf
  refine lv_aload_n hx hb dX3_streetHas_0 rfl (lv_at hl 0 rfl) ?_
  refine lv_iload_n hx hb dX3_streetHas_1 rfl (lv_at hl 1 rfl) ?_
  refine lv_iload_n hx hb dX3_streetHas_2 rfl (lv_at hl 2 rfl) ?_
  obtain ⟨r_2, h_1, hf⟩ := tx_b1_e hf
  refine tx_ci hw (tx_runV S hE hw (c_X3_tax h_1) lk_X3_39 (q0 := 0) rfl rfl rfl hl.1 (rest := []) rfl (Nat.le_of_ble_eq_true rfl) ⟨by decide, by decide⟩ dX3_streetHas_3 ⟨Nat.zero_le _, Nat.zero_le _⟩) (fun H locs hw => ?_)
  refine lv_ineg hx hb dX3_streetHas_6 ?_
  refine lv_iload_n hx hb dX3_streetHas_7 rfl (lv_at hl 1 rfl) ?_
  refine lv_if_ne (tgt := 15) hx hb dX3_streetHas_8 (by decide) (fun h_3 => ?_) (fun h_3 => ?_)
  · replace hf := tx_neg hf h_3
    refine lv_iconst (v := 0) hx hb dX3_streetHas_15 (by decide) ?_
    refine lv_isub hx hb dX3_streetHas_16 ?_
    obtain e0 := tx_in1 hf
    rw [← e0]
    exact tx_iret S hr hlk hw dX3_streetHas_17
  · replace hf := tx_pos hf h_3
    refine lv_iconst (v := 5) hx hb dX3_streetHas_11 (by decide) ?_
    refine lv_goto (tgt := 16) hx hb dX3_streetHas_12 (by decide) ?_
    refine lv_isub hx hb dX3_streetHas_16 ?_
    obtain e0 := tx_in1 hf
    rw [← e0]
    exact tx_iret S hr hlk hw dX3_streetHas_17
def f_X3_readerHas (fu : Nat) (u_T : S32) (x1 : Int32) (x2 : Int32) : Option (Int32) := tx_b1 (f_X3_tax fu u_T x1 x2) fun (r_2 : Int32) => if x2 = (0 : Int32) then (some (r_2 - (3 : Int32))) else (some (r_2 - (0 : Int32)))
set_option maxHeartbeats 4000000 in
set_option maxRecDepth 100000 in
theorem c_X3_readerHas {l : Launch} {g : GG} {A : Nat → Prop} {X : va_W} {fu : Nat} {a_T : Nat → Nat} {u_T : S32} {x1 : Int32} {x2 : Int32} {r : Int32} (hf : f_X3_readerHas fu u_T x1 x2 = some r) : MI l yX3_readerHas cX3_readerHas 3 (some .int) 1 g A (cl_X3 g a_T u_T ++ X) [.ref (a_T 0), .int x1, .int x2] r (cl_X3 g a_T u_T ++ X) := by
  refine tx_start (av := [.ref (a_T 0), .int x1, .int x2]) (by decide) (Nat.le_of_ble_eq_true rfl) ?_
  intro p e s m below meth c ls S hr hlk hE hw hl
  have S : CallFix p m c cX3_readerHas 3 s (List.toArray [.ref (a_T 0), .int x1, .int x2]) (Cond.code yX3_readerHas cX3_readerHas 3 (some .int) :: allW) RX3 := S
  have hx := S.1
  have hb := S.2.1
  have hown := S.2.2.2.1
  have hts : ∀ w ∈ allW, w.before (List.toArray [.ref (a_T 0), .int x1, .int x2]) s = true := fun w h => S.2.2.2.2 w (List.mem_cons_of_mem _ h)
  have hl : lv_has ls 3 [(0, .ref (a_T 0)), (1, .int x1), (2, .int x2)] := hl
  unfold f_X3_readerHas at hf
  refine lv_aload_n hx hb dX3_readerHas_0 rfl (lv_at hl 0 rfl) ?_
  refine lv_iload_n hx hb dX3_readerHas_1 rfl (lv_at hl 1 rfl) ?_
  refine lv_iload_n hx hb dX3_readerHas_2 rfl (lv_at hl 2 rfl) ?_
  obtain ⟨r_2, h_1, hf⟩ := tx_b1_e hf
  refine tx_ci hw (tx_runV S hE hw (c_X3_tax h_1) lk_X3_39 (q0 := 0) rfl rfl rfl hl.1 (rest := []) rfl (Nat.le_of_ble_eq_true rfl) ⟨by decide, by decide⟩ dX3_readerHas_3 ⟨Nat.zero_le _, Nat.zero_le _⟩) (fun H locs hw => ?_)
  refine lv_iload_n hx hb dX3_readerHas_6 rfl (lv_at hl 2 rfl) ?_
  refine lv_if_ne (tgt := 14) hx hb dX3_readerHas_7 (by decide) (fun h_3 => ?_) (fun h_3 => ?_)
  · replace hf := tx_neg hf h_3
    refine lv_iconst (v := 0) hx hb dX3_readerHas_14 (by decide) ?_
    refine lv_isub hx hb dX3_readerHas_15 ?_
    obtain e0 := tx_in1 hf
    rw [← e0]
    exact tx_iret S hr hlk hw dX3_readerHas_16
  · replace hf := tx_pos hf h_3
    refine lv_iconst (v := 3) hx hb dX3_readerHas_10 (by decide) ?_
    refine lv_goto (tgt := 15) hx hb dX3_readerHas_11 (by decide) ?_
    refine lv_isub hx hb dX3_readerHas_15 ?_
    obtain e0 := tx_in1 hf
    rw [← e0]
    exact tx_iret S hr hlk hw dX3_readerHas_16
def f_X3_isRest (fu : Nat) (u_T : S32) (x1 : Int32) (x2 : Int32) : Option (Int32) := tx_b1 (f_X3_streetHas fu u_T x1 x2) fun (r_2 : Int32) => tx_b1 (f_X3_streetHas fu u_T ((1 : Int32) - x1) x2) fun (r_4 : Int32) => if r_2 < r_4 then (some (0 : Int32)) else (tx_b1 (f_X3_readerHas fu u_T x1 x2) fun (r_7 : Int32) => tx_b1 (f_X3_readerHas fu u_T x1 ((1 : Int32) - x2)) fun (r_9 : Int32) => if r_7 < r_9 then (some (0 : Int32)) else (some (1 : Int32)))
set_option maxHeartbeats 4000000 in
set_option maxRecDepth 100000 in
theorem c_X3_isRest {l : Launch} {g : GG} {A : Nat → Prop} {X : va_W} {fu : Nat} {a_T : Nat → Nat} {u_T : S32} {x1 : Int32} {x2 : Int32} {r : Int32} (hf : f_X3_isRest fu u_T x1 x2 = some r) : MI l yX3_isRest cX3_isRest 3 (some .boolean) 2 g A (cl_X3 g a_T u_T ++ X) [.ref (a_T 0), .int x1, .int x2] r (cl_X3 g a_T u_T ++ X) := by
  refine tx_start (av := [.ref (a_T 0), .int x1, .int x2]) (by decide) (Nat.le_of_ble_eq_true rfl) ?_
  intro p e s m below meth c ls S hr hlk hE hw hl
  have S : CallFix p m c cX3_isRest 3 s (List.toArray [.ref (a_T 0), .int x1, .int x2]) (Cond.code yX3_isRest cX3_isRest 3 (some .boolean) :: allW) RX3 := S
  have hx := S.1
  have hb := S.2.1
  have hown := S.2.2.2.1
  have hts : ∀ w ∈ allW, w.before (List.toArray [.ref (a_T 0), .int x1, .int x2]) s = true := fun w h => S.2.2.2.2 w (List.mem_cons_of_mem _ h)
  have hl : lv_has ls 3 [(0, .ref (a_T 0)), (1, .int x1), (2, .int x2)] := hl
  unfold f_X3_isRest at hf
  refine lv_aload_n hx hb dX3_isRest_0 rfl (lv_at hl 0 rfl) ?_
  refine lv_iload_n hx hb dX3_isRest_1 rfl (lv_at hl 1 rfl) ?_
  refine lv_iload_n hx hb dX3_isRest_2 rfl (lv_at hl 2 rfl) ?_
  obtain ⟨r_2, h_1, hf⟩ := tx_b1_e hf
  refine tx_ci hw (tx_runV S hE hw (c_X3_streetHas h_1) lk_X3_32 (q0 := 0) rfl rfl rfl hl.1 (rest := []) rfl (Nat.le_of_ble_eq_true rfl) ⟨by decide, by decide⟩ dX3_isRest_3 ⟨Nat.zero_le _, Nat.zero_le _⟩) (fun H locs hw => ?_)
  refine lv_aload_n hx hb dX3_isRest_6 rfl (lv_at hl 0 rfl) ?_
  refine lv_iconst (v := 1) hx hb dX3_isRest_7 (by decide) ?_
  refine lv_iload_n hx hb dX3_isRest_8 rfl (lv_at hl 1 rfl) ?_
  refine lv_isub hx hb dX3_isRest_9 ?_
  refine lv_iload_n hx hb dX3_isRest_10 rfl (lv_at hl 2 rfl) ?_
  obtain ⟨r_4, h_3, hf⟩ := tx_b1_e hf
  refine tx_ci hw (tx_runV S hE hw (c_X3_streetHas h_3) lk_X3_32 (q0 := 0) rfl rfl rfl hl.1 (rest := [.int r_2]) rfl (Nat.le_of_ble_eq_true rfl) ⟨by decide, by decide⟩ dX3_isRest_11 ⟨Nat.zero_le _, Nat.zero_le _⟩) (fun H locs hw => ?_)
  refine lv_icmp_lt (tgt := 38) hx hb dX3_isRest_14 (by decide) (fun h_5 => ?_) (fun h_5 => ?_)
  · replace hf := tx_pos hf h_5
    refine lv_iconst (v := 0) hx hb dX3_isRest_38 (by decide) ?_
    obtain e0 := tx_in1 hf
    rw [← e0]
    exact tx_zret S hr hlk (by decide) hw dX3_isRest_39
  · replace hf := tx_neg hf h_5
    refine lv_aload_n hx hb dX3_isRest_17 rfl (lv_at hl 0 rfl) ?_
    refine lv_iload_n hx hb dX3_isRest_18 rfl (lv_at hl 1 rfl) ?_
    refine lv_iload_n hx hb dX3_isRest_19 rfl (lv_at hl 2 rfl) ?_
    obtain ⟨r_7, h_6, hf⟩ := tx_b1_e hf
    refine tx_ci hw (tx_runV S hE hw (c_X3_readerHas h_6) lk_X3_36 (q0 := 0) rfl rfl rfl hl.1 (rest := []) rfl (Nat.le_of_ble_eq_true rfl) ⟨by decide, by decide⟩ dX3_isRest_20 ⟨Nat.zero_le _, Nat.zero_le _⟩) (fun H locs hw => ?_)
    refine lv_aload_n hx hb dX3_isRest_23 rfl (lv_at hl 0 rfl) ?_
    refine lv_iload_n hx hb dX3_isRest_24 rfl (lv_at hl 1 rfl) ?_
    refine lv_iconst (v := 1) hx hb dX3_isRest_25 (by decide) ?_
    refine lv_iload_n hx hb dX3_isRest_26 rfl (lv_at hl 2 rfl) ?_
    refine lv_isub hx hb dX3_isRest_27 ?_
    obtain ⟨r_9, h_8, hf⟩ := tx_b1_e hf
    refine tx_ci hw (tx_runV S hE hw (c_X3_readerHas h_8) lk_X3_36 (q0 := 0) rfl rfl rfl hl.1 (rest := [.int r_7]) rfl (Nat.le_of_ble_eq_true rfl) ⟨by decide, by decide⟩ dX3_isRest_28 ⟨Nat.zero_le _, Nat.zero_le _⟩) (fun H locs hw => ?_)
    refine lv_icmp_lt (tgt := 38) hx hb dX3_isRest_31 (by decide) (fun h_10 => ?_) (fun h_10 => ?_)
    · replace hf := tx_pos hf h_10
      refine lv_iconst (v := 0) hx hb dX3_isRest_38 (by decide) ?_
      obtain e0 := tx_in1 hf
      rw [← e0]
      exact tx_zret S hr hlk (by decide) hw dX3_isRest_39
    · replace hf := tx_neg hf h_10
      refine lv_iconst (v := 1) hx hb dX3_isRest_34 (by decide) ?_
      refine lv_goto (tgt := 39) hx hb dX3_isRest_35 (by decide) ?_
      obtain e0 := tx_in1 hf
      rw [← e0]
      exact tx_zret S hr hlk (by decide) hw dX3_isRest_39
def f_X3_play_J91 (fu : Nat) (K17 : S32 → Int32 → Option (S32)) (u_T : S32) (w3 : Int32) : Option (S32) := tx_let (w3 + (1 : Int32)) fun (y_16 : Int32) => K17 u_T y_16
def f_X3_play_J17 (fu : Nat) (K17 : S32 → Int32 → Option (S32)) (u_T : S32) (w3 : Int32) : Option (S32) := if (4 : Int32) ≤ w3 then (some u_T) else (tx_ck w3 4 <| tx_ck w3 4 <| tx_b1 (f_X3_isRest fu u_T ((tx_plays w3.toNatClampNeg) / (10 : Int32)) ((tx_plays w3.toNatClampNeg) - (tx_plays w3.toNatClampNeg) / (10 : Int32) * (10 : Int32))) fun (r_8 : Int32) => if r_8 = (0 : Int32) then (f_X3_play_J91 fu K17 u_T w3) else (if (u_T 0 1) < (0 : Int32) then (f_X3_play_J91 fu K17 u_T w3) else (if (4 : Int32) ≤ (u_T 0 1) then (f_X3_play_J91 fu K17 u_T w3) else (tx_ck w3 4 <| tx_ck (u_T 0 1) 4 <| tx_let (up2 u_T 1 (u_T 0 1).toNatClampNeg (tx_plays w3.toNatClampNeg)) fun (u_T_14 : S32) => tx_let (up2 u_T_14 0 1 ((u_T_14 0 1) + (1 : Int32))) fun (u_T_15 : S32) => f_X3_play_J91 fu K17 u_T_15 w3))))
def f_X3_play_L17 (fu : Nat) : Nat → S32 → Int32 → Option (S32)
  | 0 => fun _ _ => none
  | n + 1 => f_X3_play_J17 fu (f_X3_play_L17 fu n)
def f_X3_play (fu : Nat) (u_T : S32) (x1 : Int32) (x2 : Int32) : Option (S32) := tx_let (up2 u_T 0 2 x1) fun (u_T_1 : S32) => tx_let (up2 u_T_1 0 3 x2) fun (u_T_2 : S32) => tx_let (up2 u_T_2 0 1 (0 : Int32)) fun (u_T_3 : S32) => f_X3_play_L17 fu fu u_T_3 (0 : Int32)
set_option maxHeartbeats 4000000 in
set_option maxRecDepth 100000 in
theorem c_X3_play {l : Launch} {g : GG} {A : Nat → Prop} {X : va_W} {fu : Nat} {a_T : Nat → Nat} {u_T : S32} {x1 : Int32} {x2 : Int32} {zu_T : S32} (hf : f_X3_play fu  u_T x1 x2 = some zu_T) : MV l yX3_play cX3_play 4 none 3 g A (cl_X3 g a_T u_T ++ X) [.ref (a_T 0), .int x1, .int x2] (cl_X3 g a_T zu_T ++ X) := by
  refine tx_start (av := [.ref (a_T 0), .int x1, .int x2]) (by decide) (Nat.le_of_ble_eq_true rfl) ?_
  intro p e s m below meth c ls S hr hlk hE hw hl
  have S : CallFix p m c cX3_play 4 s (List.toArray [.ref (a_T 0), .int x1, .int x2]) (Cond.code yX3_play cX3_play 4 none :: allW) RX3 := S
  have hx := S.1
  have hb := S.2.1
  have hown := S.2.2.2.1
  have hts : ∀ w ∈ allW, w.before (List.toArray [.ref (a_T 0), .int x1, .int x2]) s = true := fun w h => S.2.2.2.2 w (List.mem_cons_of_mem _ h)
  have hl : lv_has ls 4 [(0, .ref (a_T 0)), (1, .int x1), (2, .int x2)] := hl
  have J91 : ∀ {K17 : S32 → Int32 → Option (S32)} (hK17 : ∀ {u_T : S32} {w3 : Int32} {H : Heap} {locs : List Loc} {ls : Array Slot}, K17 u_T w3 = some zu_T → WD g A s.heap (cl_X3 g a_T u_T ++ X) H locs → lv_has ls 4 [(0, .ref (a_T 0)), (3, .int w3)] → W p l e (rmH 3) s m (List.toArray [.ref (a_T 0), .int x1, .int x2]) below meth c H locs 0 0 (MQ below (va_Qv (fun (_ : Unit) => True) (fun _ t => POST g A (cl_X3 g a_T zu_T ++ X) t) A) (List.toArray [.ref (a_T 0), .int x1, .int x2]) s 0 0 A) (F0 m 17 ls [])), ∀ {u_T : S32} {w3 : Int32} {H : Heap} {locs : List Loc} {ls : Array Slot}, f_X3_play_J91 fu K17 u_T w3 = some zu_T → WD g A s.heap (cl_X3 g a_T u_T ++ X) H locs → lv_has ls 4 [(0, .ref (a_T 0)), (3, .int w3)] → W p l e (rmH 3) s m (List.toArray [.ref (a_T 0), .int x1, .int x2]) below meth c H locs 0 0 (MQ below (va_Qv (fun (_ : Unit) => True) (fun _ t => POST g A (cl_X3 g a_T zu_T ++ X) t) A) (List.toArray [.ref (a_T 0), .int x1, .int x2]) s 0 0 A) (F0 m 91 ls []) := by
    intro K17 hK17 u_T w3 H locs ls hf hw hl
    unfold f_X3_play_J91 at hf
    obtain ⟨y_16, ey_16⟩ : ∃ y : Int32, y = w3 + (1 : Int32) := ⟨_, rfl⟩
    replace hf := tx_let_e hf ey_16
    refine lv_iinc (v := y_16) (lv' := [(3, .int y_16), (0, .ref (a_T 0))]) hx hb dX3_play_91 hl (k := 1) rfl (by rw [ey_16]; rfl) (by decide) rfl (fun ls hl => ?_)
    refine lv_goto (tgt := 17) hx hb dX3_play_94 (by decide) ?_
    exact hK17 hf hw (lv_sub hl [1, 0] rfl)
  have J17 : ∀ {K17 : S32 → Int32 → Option (S32)} (hK17 : ∀ {u_T : S32} {w3 : Int32} {H : Heap} {locs : List Loc} {ls : Array Slot}, K17 u_T w3 = some zu_T → WD g A s.heap (cl_X3 g a_T u_T ++ X) H locs → lv_has ls 4 [(0, .ref (a_T 0)), (3, .int w3)] → W p l e (rmH 3) s m (List.toArray [.ref (a_T 0), .int x1, .int x2]) below meth c H locs 0 0 (MQ below (va_Qv (fun (_ : Unit) => True) (fun _ t => POST g A (cl_X3 g a_T zu_T ++ X) t) A) (List.toArray [.ref (a_T 0), .int x1, .int x2]) s 0 0 A) (F0 m 17 ls [])), ∀ {u_T : S32} {w3 : Int32} {H : Heap} {locs : List Loc} {ls : Array Slot}, f_X3_play_J17 fu K17 u_T w3 = some zu_T → WD g A s.heap (cl_X3 g a_T u_T ++ X) H locs → lv_has ls 4 [(0, .ref (a_T 0)), (3, .int w3)] → W p l e (rmH 3) s m (List.toArray [.ref (a_T 0), .int x1, .int x2]) below meth c H locs 0 0 (MQ below (va_Qv (fun (_ : Unit) => True) (fun _ t => POST g A (cl_X3 g a_T zu_T ++ X) t) A) (List.toArray [.ref (a_T 0), .int x1, .int x2]) s 0 0 A) (F0 m 17 ls []) := by
    intro K17 hK17 u_T w3 H locs ls hf hw hl
    unfold f_X3_play_J17 at hf
    refine lv_iload_n hx hb dX3_play_17 rfl (lv_at hl 1 rfl) ?_
    refine va_gets hx hb hE.2.1.2.2.1 hw.2.2 hown (hts _ kw_443) (fun _ h => h) dX3_play_18 ?_
    refine va_tlen (v := 4) hx hb hE.2.1.2.2.2 hw.2.2 (by decide) dX3_play_21 ?_
    refine lv_icmp_ge (tgt := 97) hx hb dX3_play_22 (by decide) (fun h_4 => ?_) (fun h_4 => ?_)
    · replace hf := tx_pos hf h_4
      obtain e0 := tx_in1 hf
      rw [← e0]
      exact tx_vret S hr hlk hw dX3_play_97
    · replace hf := tx_neg hf h_4
      refine lv_aload_n hx hb dX3_play_25 rfl (lv_at hl 0 rfl) ?_
      refine va_gets hx hb hE.2.1.2.2.1 hw.2.2 hown (hts _ kw_443) (fun _ h => h) dX3_play_26 ?_
      refine lv_iload_n hx hb dX3_play_29 rfl (lv_at hl 1 rfl) ?_
      obtain ⟨h_5, hf⟩ := tx_ck_e hf
      refine va_ti hx hb hE.2.1.2.2.2 hw.2.2 h_5 rfl dX3_play_30 ?_
      refine lv_bipush (v := 10) hx hb dX3_play_31 (by decide) ?_
      refine lv_idiv hx hb dX3_play_33 (by decide) ?_
      refine va_gets hx hb hE.2.1.2.2.1 hw.2.2 hown (hts _ kw_443) (fun _ h => h) dX3_play_34 ?_
      refine lv_iload_n hx hb dX3_play_37 rfl (lv_at hl 1 rfl) ?_
      obtain ⟨h_6, hf⟩ := tx_ck_e hf
      refine va_ti hx hb hE.2.1.2.2.2 hw.2.2 h_6 rfl dX3_play_38 ?_
      refine lv_bipush (v := 10) hx hb dX3_play_39 (by decide) ?_
      refine lv_irem hx hb dX3_play_41 (by decide) ?_
      obtain ⟨r_8, h_7, hf⟩ := tx_b1_e hf
      refine tx_ci hw (tx_runV S hE hw (c_X3_isRest h_7) lk_X3_28 (q0 := 0) rfl rfl rfl hl.1 (rest := []) rfl (Nat.le_of_ble_eq_true rfl) ⟨by decide, by decide⟩ dX3_play_42 ⟨Nat.zero_le _, Nat.zero_le _⟩) (fun H locs hw => ?_)
      refine lv_if_eq (tgt := 91) hx hb dX3_play_45 (by decide) (fun h_9 => ?_) (fun h_9 => ?_)
      · replace hf := tx_pos hf h_9
        exact J91 hK17 hf hw (lv_sub hl [0, 1] rfl)
      · replace hf := tx_neg hf h_9
        refine lv_aload_n hx hb dX3_play_48 rfl (lv_at hl 0 rfl) ?_
        refine gf_X3_25 S hE hw 0 rfl rfl dX3_play_49 ?_
        refine lv_if_lt (tgt := 91) hx hb dX3_play_52 (by decide) (fun h_10 => ?_) (fun h_10 => ?_)
        · replace hf := tx_pos hf h_10
          exact J91 hK17 hf hw (lv_sub hl [0, 1] rfl)
        · replace hf := tx_neg hf h_10
          refine lv_aload_n hx hb dX3_play_55 rfl (lv_at hl 0 rfl) ?_
          refine gf_X3_25 S hE hw 0 rfl rfl dX3_play_56 ?_
          refine lv_aload_n hx hb dX3_play_59 rfl (lv_at hl 0 rfl) ?_
          refine gf_X3_15 S hE hw 0 rfl rfl dX3_play_60 ?_
          refine tx_alen (v := 4) S hE hw 1 1 rfl rfl rfl dX3_play_63 ?_
          refine lv_icmp_ge (tgt := 91) hx hb dX3_play_64 (by decide) (fun h_11 => ?_) (fun h_11 => ?_)
          · replace hf := tx_pos hf h_11
            exact J91 hK17 hf hw (lv_sub hl [0, 1] rfl)
          · replace hf := tx_neg hf h_11
            refine lv_aload_n hx hb dX3_play_67 rfl (lv_at hl 0 rfl) ?_
            refine gf_X3_15 S hE hw 0 rfl rfl dX3_play_68 ?_
            refine lv_aload_n hx hb dX3_play_71 rfl (lv_at hl 0 rfl) ?_
            refine gf_X3_25 S hE hw 0 rfl rfl dX3_play_72 ?_
            refine va_gets hx hb hE.2.1.2.2.1 hw.2.2 hown (hts _ kw_443) (fun _ h => h) dX3_play_75 ?_
            refine lv_iload_n hx hb dX3_play_78 rfl (lv_at hl 1 rfl) ?_
            obtain ⟨h_12, hf⟩ := tx_ck_e hf
            refine va_ti hx hb hE.2.1.2.2.2 hw.2.2 h_12 rfl dX3_play_79 ?_
            obtain ⟨h_13, hf⟩ := tx_ck_e hf
            obtain ⟨u_T_14, eu_T_14⟩ : ∃ z : S32, z = up2 u_T 1 (u_T 0 1).toNatClampNeg (tx_plays w3.toNatClampNeg) := ⟨_, rfl⟩
            replace hf := tx_let_e hf eu_T_14
            refine tx_iast (ws' := cl_X3 g a_T u_T_14 ++ X) S hE hw 1 rfl h_13 (by rw [eu_T_14]; rfl) dX3_play_80 (fun H locs hw => ?_)
            refine lv_aload_n hx hb dX3_play_81 rfl (lv_at hl 0 rfl) ?_
            refine lv_dup hx hb dX3_play_82 rfl ?_
            refine gf_X3_25 S hE hw 0 rfl rfl dX3_play_83 ?_
            refine lv_iconst (v := 1) hx hb dX3_play_86 (by decide) ?_
            refine lv_iadd hx hb dX3_play_87 ?_
            obtain ⟨u_T_15, eu_T_15⟩ : ∃ z : S32, z = up2 u_T_14 0 1 ((u_T_14 0 1) + (1 : Int32)) := ⟨_, rfl⟩
            replace hf := tx_let_e hf eu_T_15
            refine pf_X3_25 (ws' := cl_X3 g a_T u_T_15 ++ X) S hE hw rfl rfl 0 rfl (Nat.le_of_ble_eq_true rfl) (by rw [eu_T_15]; rfl) dX3_play_88 (fun H locs hw => ?_)
            exact J91 hK17 hf hw (lv_sub hl [0, 1] rfl)
  have L17 : ∀ (n : Nat), ∀ {u_T : S32} {w3 : Int32} {H : Heap} {locs : List Loc} {ls : Array Slot}, f_X3_play_L17 fu n u_T w3 = some zu_T → WD g A s.heap (cl_X3 g a_T u_T ++ X) H locs → lv_has ls 4 [(0, .ref (a_T 0)), (3, .int w3)] → W p l e (rmH 3) s m (List.toArray [.ref (a_T 0), .int x1, .int x2]) below meth c H locs 0 0 (MQ below (va_Qv (fun (_ : Unit) => True) (fun _ t => POST g A (cl_X3 g a_T zu_T ++ X) t) A) (List.toArray [.ref (a_T 0), .int x1, .int x2]) s 0 0 A) (F0 m 17 ls []) := by
    intro  n
    induction n with
    | zero => intro u_T w3 H locs ls hf; exact absurd hf (by intro q; cases q)
    | succ n ih => exact fun hf hw hl => J17 ih hf hw hl
  unfold f_X3_play at hf
  refine lv_aload_n hx hb dX3_play_0 rfl (lv_at hl 0 rfl) ?_
  refine lv_iload_n hx hb dX3_play_1 rfl (lv_at hl 1 rfl) ?_
  obtain ⟨u_T_1, eu_T_1⟩ : ∃ z : S32, z = up2 u_T 0 2 x1 := ⟨_, rfl⟩
  replace hf := tx_let_e hf eu_T_1
  refine pf_X3_18 (ws' := cl_X3 g a_T u_T_1 ++ X) S hE hw rfl rfl 0 rfl (Nat.le_of_ble_eq_true rfl) (by rw [eu_T_1]; rfl) dX3_play_2 (fun H locs hw => ?_)
  refine lv_aload_n hx hb dX3_play_5 rfl (lv_at hl 0 rfl) ?_
  refine lv_iload_n hx hb dX3_play_6 rfl (lv_at hl 2 rfl) ?_
  obtain ⟨u_T_2, eu_T_2⟩ : ∃ z : S32, z = up2 u_T_1 0 3 x2 := ⟨_, rfl⟩
  replace hf := tx_let_e hf eu_T_2
  refine pf_X3_22 (ws' := cl_X3 g a_T u_T_2 ++ X) S hE hw rfl rfl 0 rfl (Nat.le_of_ble_eq_true rfl) (by rw [eu_T_2]; rfl) dX3_play_7 (fun H locs hw => ?_)
  refine lv_aload_n hx hb dX3_play_10 rfl (lv_at hl 0 rfl) ?_
  refine lv_iconst (v := 0) hx hb dX3_play_11 (by decide) ?_
  obtain ⟨u_T_3, eu_T_3⟩ : ∃ z : S32, z = up2 u_T_2 0 1 (0 : Int32) := ⟨_, rfl⟩
  replace hf := tx_let_e hf eu_T_3
  refine pf_X3_25 (ws' := cl_X3 g a_T u_T_3 ++ X) S hE hw rfl rfl 0 rfl (Nat.le_of_ble_eq_true rfl) (by rw [eu_T_3]; rfl) dX3_play_12 (fun H locs hw => ?_)
  refine lv_iconst (v := 0) hx hb dX3_play_15 (by decide) ?_
  refine lv_istore_n (lv' := [(3, .int (0 : Int32)), (0, .ref (a_T 0)), (1, .int x1), (2, .int x2)]) hx hb dX3_play_16 rfl hl (by decide) rfl (fun ls hl => ?_)
  exact L17 fu hf hw (lv_sub hl [1, 0] rfl)
def f_X11_rests (fu : Nat) (u_T : S32) (u_W : S32) (u_B : S32) (u_G : S32) : Option (Int32 × S32) := tx_b1 (f_X10_heldWorth fu u_W u_B) fun (r_2 : Int32) => tx_b1 (f_X3_play fu u_G r_2 (u_W 0 2)) fun (u_G_4 : S32) => some (u_G_4 0 1, u_G_4)
set_option maxHeartbeats 4000000 in
set_option maxRecDepth 100000 in
theorem c_X11_rests {l : Launch} {g : GG} {A : Nat → Prop} {X : va_W} {fu : Nat} {a_T a_W a_B a_G : Nat → Nat} {p_T_0 p_T_2 p_T_3 p_T_5 p_T_6 p_T_7 p_T_8 p_W_16 p_B_17 : Nat} {u_T : S32} {u_W : S32} {u_B : S32} {u_G : S32} {r : Int32} {zu_G : S32} (hf : f_X11_rests fu u_T u_W u_B u_G = some (r, zu_G)) : MI l yX11_rests cX11_rests 1 (some .int) 4 g A (cl_X11 g a_T p_T_0 (a_B 0) p_T_2 p_T_3 (a_W 0) p_T_5 p_T_6 p_T_7 p_T_8 (a_G 0) u_T ++ (cl_X10 g a_W (a_B 0) p_W_16 u_W ++ (cl_X0 g a_B p_B_17 u_B ++ (cl_X3 g a_G u_G ++ X)))) [.ref (a_T 0)] r (cl_X11 g a_T p_T_0 (a_B 0) p_T_2 p_T_3 (a_W 0) p_T_5 p_T_6 p_T_7 p_T_8 (a_G 0) u_T ++ (cl_X10 g a_W (a_B 0) p_W_16 u_W ++ (cl_X0 g a_B p_B_17 u_B ++ (cl_X3 g a_G zu_G ++ X)))) := by
  refine tx_start (av := [.ref (a_T 0)]) (by decide) (Nat.le_of_ble_eq_true rfl) ?_
  intro p e s m below meth c ls S hr hlk hE hw hl
  have S : CallFix p m c cX11_rests 1 s (List.toArray [.ref (a_T 0)]) (Cond.code yX11_rests cX11_rests 1 (some .int) :: allW) RX11 := S
  have hx := S.1
  have hb := S.2.1
  have hown := S.2.2.2.1
  have hts : ∀ w ∈ allW, w.before (List.toArray [.ref (a_T 0)]) s = true := fun w h => S.2.2.2.2 w (List.mem_cons_of_mem _ h)
  have hl : lv_has ls 1 [(0, .ref (a_T 0))] := hl
  unfold f_X11_rests at hf
  refine lv_aload_n hx hb dX11_rests_0 rfl (lv_at hl 0 rfl) ?_
  refine gf_X11_73 S hE hw 0 rfl rfl dX11_rests_1 ?_
  refine lv_aload_n hx hb dX11_rests_4 rfl (lv_at hl 0 rfl) ?_
  refine gf_X11_42 S hE hw 0 rfl rfl dX11_rests_5 ?_
  have hw := hw.u2
  have hw := hw.u2
  obtain ⟨r_2, h_1, hf⟩ := tx_b1_e hf
  refine tx_ci hw (tx_runN S hE hw (c_X10_heldWorth h_1) lk_X11_259 (q0 := 0) rfl rfl rfl hl.1 (rest := [.ref (a_G 0)]) rfl (Nat.le_of_ble_eq_true rfl) ⟨by decide, by decide⟩ dX11_rests_8 ⟨Nat.zero_le _, Nat.zero_le _⟩) (fun H locs hw => ?_)
  refine lv_aload_n hx hb dX11_rests_11 rfl (lv_at hl 0 rfl) ?_
  refine gf_X11_42 S hE hw 23 rfl rfl dX11_rests_12 ?_
  refine gf_X11_207 S hE hw 0 rfl rfl dX11_rests_15 ?_
  have hw := hw.u3
  obtain ⟨u_G_4, h_3, hf⟩ := tx_b1_e hf
  refine tx_cv hw (tx_runN S hE hw (c_X3_play h_3) lk_X11_263 (q0 := 0) rfl rfl rfl hl.1 (rest := []) rfl (Nat.le_of_ble_eq_true rfl) ⟨by decide, by decide⟩ dX11_rests_18 ⟨Nat.zero_le _, Nat.zero_le _⟩) (fun H locs hw => ?_)
  refine lv_aload_n hx hb dX11_rests_21 rfl (lv_at hl 0 rfl) ?_
  refine gf_X11_73 S hE hw 25 rfl rfl dX11_rests_22 ?_
  refine gf_X11_267 S hE hw 0 rfl rfl dX11_rests_25 ?_
  have hw := hw.u2
  have hw := hw.u2
  have hw := hw.u3
  obtain ⟨e0, e1⟩ := tx_in2 hf
  rw [← e0, ← e1]
  exact tx_iret S hr hlk hw dX11_rests_28
