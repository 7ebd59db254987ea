def f_X5_close (fu : Nat) (v_T : S64) (u_T : S32) (x1 : Int32) : Option (S32) := if x1 < (0 : Int32) then (some u_T) else (if (3 : Int32) ≤ x1 then (some u_T) else (tx_ck x1 3 <| tx_let (up2 u_T 4 x1.toNatClampNeg (u_T 0 5)) fun (u_T_4 : S32) => some u_T_4))
set_option maxHeartbeats 4000000 in
set_option maxRecDepth 100000 in
theorem c_X5_close {l : Launch} {g : GG} {A : Nat → Prop} {X : va_W} {fu : Nat} {a_T : Nat → Nat} {u_T : S32} {v_T : S64} {x1 : Int32} {zu_T : S32} (hf : f_X5_close fu v_T u_T x1 = some zu_T) : MV l yX5_close cX5_close 2 none 0 g A (cl_X5 g a_T u_T v_T ++ X) [.ref (a_T 0), .int x1] (cl_X5 g a_T zu_T v_T ++ X) := by
  refine tx_start (av := [.ref (a_T 0), .int x1]) (by decide) (Nat.le_of_ble_eq_true rfl) ?_
  intro p e s m below meth c ls S hr hlk hE hw hl
  have S : CallFix p m c cX5_close 2 s (List.toArray [.ref (a_T 0), .int x1]) (Cond.code yX5_close cX5_close 2 none :: allW) RX5 := S
  have hx := S.1
  have hb := S.2.1
  have hown := S.2.2.2.1
  have hts : ∀ w ∈ allW, w.before (List.toArray [.ref (a_T 0), .int x1]) s = true := fun w h => S.2.2.2.2 w (List.mem_cons_of_mem _ h)
  have hl : lv_has ls 2 [(0, .ref (a_T 0)), (1, .int x1)] := hl
  unfold f_X5_close at hf
  refine lv_iload_n hx hb dX5_close_0 rfl (lv_at hl 1 rfl) ?_
  refine lv_if_lt (tgt := 19) hx hb dX5_close_1 (by decide) (fun h_1 => ?_) (fun h_1 => ?_)
  · replace hf := tx_pos hf h_1
    obtain e0 := tx_in1 hf
    rw [← e0]
    exact tx_vret S hr hlk hw dX5_close_19
  · replace hf := tx_neg hf h_1
    refine lv_iload_n hx hb dX5_close_4 rfl (lv_at hl 1 rfl) ?_
    refine lv_iconst (v := 3) hx hb dX5_close_5 (by decide) ?_
    refine lv_icmp_ge (tgt := 19) hx hb dX5_close_6 (by decide) (fun h_2 => ?_) (fun h_2 => ?_)
    · replace hf := tx_pos hf h_2
      obtain e0 := tx_in1 hf
      rw [← e0]
      exact tx_vret S hr hlk hw dX5_close_19
    · replace hf := tx_neg hf h_2
      refine lv_aload_n hx hb dX5_close_9 rfl (lv_at hl 0 rfl) ?_
      refine gf_X5_21 S hE hw 0 rfl rfl dX5_close_10 ?_
      refine lv_iload_n hx hb dX5_close_13 rfl (lv_at hl 1 rfl) ?_
      refine lv_aload_n hx hb dX5_close_14 rfl (lv_at hl 0 rfl) ?_
      refine gf_X5_28 S hE hw 0 rfl rfl dX5_close_15 ?_
      obtain ⟨h_3, hf⟩ := tx_ck_e hf
      obtain ⟨u_T_4, eu_T_4⟩ : ∃ z : S32, z = up2 u_T 4 x1.toNatClampNeg (u_T 0 5) := ⟨_, rfl⟩
      replace hf := tx_let_e hf eu_T_4
      refine tx_iast (ws' := cl_X5 g a_T u_T_4 v_T ++ X) S hE hw 4 rfl h_3 (by rw [eu_T_4]; rfl) dX5_close_18 (fun H locs hw => ?_)
      obtain e0 := tx_in1 hf
      rw [← e0]
      exact tx_vret S hr hlk hw dX5_close_19
def f_X8_isWord (fu : Nat) (u_T : S32) (x1 : Int32) : Option (Int32) := if (u_T 0 4) = (4 : Int32) then (if (u_T 0 5) = x1 then (some (1 : Int32)) else (some (0 : Int32))) else (some (0 : Int32))
set_option maxHeartbeats 4000000 in
set_option maxRecDepth 100000 in
theorem c_X8_isWord {l : Launch} {g : GG} {A : Nat → Prop} {X : va_W} {fu : Nat} {a_T : Nat → Nat} {p_T_0 : Nat} {u_T : S32} {x1 : Int32} {r : Int32} (hf : f_X8_isWord fu u_T x1 = some r) : MI l yX8_isWord cX8_isWord 2 (some .boolean) 0 g A (cl_X8 g a_T p_T_0 u_T ++ X) [.ref (a_T 0), .int x1] r (cl_X8 g a_T p_T_0 u_T ++ X) := by
  refine tx_start (av := [.ref (a_T 0), .int x1]) (by decide) (Nat.le_of_ble_eq_true rfl) ?_
  intro p e s m below meth c ls S hr hlk hE hw hl
  have S : CallFix p m c cX8_isWord 2 s (List.toArray [.ref (a_T 0), .int x1]) (Cond.code yX8_isWord cX8_isWord 2 (some .boolean) :: allW) RX8 := S
  have hx := S.1
  have hb := S.2.1
  have hown := S.2.2.2.1
  have hts : ∀ w ∈ allW, w.before (List.toArray [.ref (a_T 0), .int x1]) s = true := fun w h => S.2.2.2.2 w (List.mem_cons_of_mem _ h)
  have hl : lv_has ls 2 [(0, .ref (a_T 0)), (1, .int x1)] := hl
  unfold f_X8_isWord at hf
  refine lv_aload_n hx hb dX8_isWord_0 rfl (lv_at hl 0 rfl) ?_
  refine gf_X8_25 S hE hw 0 rfl rfl dX8_isWord_1 ?_
  refine lv_iconst (v := 4) hx hb dX8_isWord_4 (by decide) ?_
  refine lv_icmp_ne (tgt := 20) hx hb dX8_isWord_5 (by decide) (fun h_1 => ?_) (fun h_1 => ?_)
  · replace hf := tx_neg hf h_1
    refine lv_iconst (v := 0) hx hb dX8_isWord_20 (by decide) ?_
    obtain e0 := tx_in1 hf
    rw [← e0]
    exact tx_zret S hr hlk (by decide) hw dX8_isWord_21
  · replace hf := tx_pos hf h_1
    refine lv_aload_n hx hb dX8_isWord_8 rfl (lv_at hl 0 rfl) ?_
    refine gf_X8_28 S hE hw 0 rfl rfl dX8_isWord_9 ?_
    refine lv_iload_n hx hb dX8_isWord_12 rfl (lv_at hl 1 rfl) ?_
    refine lv_icmp_ne (tgt := 20) hx hb dX8_isWord_13 (by decide) (fun h_2 => ?_) (fun h_2 => ?_)
    · replace hf := tx_neg hf h_2
      refine lv_iconst (v := 0) hx hb dX8_isWord_20 (by decide) ?_
      obtain e0 := tx_in1 hf
      rw [← e0]
      exact tx_zret S hr hlk (by decide) hw dX8_isWord_21
    · replace hf := tx_pos hf h_2
      refine lv_iconst (v := 1) hx hb dX8_isWord_16 (by decide) ?_
      refine lv_goto (tgt := 21) hx hb dX8_isWord_17 (by decide) ?_
      obtain e0 := tx_in1 hf
      rw [← e0]
      exact tx_zret S hr hlk (by decide) hw dX8_isWord_21
def f_X4_operator (fu : Nat) (u_T : S32) (u_K : S32) : Option (Int32) := tx_b1 (f_X8_isWord fu u_K (11 : Int32)) fun (r_2 : Int32) => if r_2 = (0 : Int32) then (tx_b1 (f_X8_isWord fu u_K (10 : Int32)) fun (r_5 : Int32) => if r_5 = (0 : Int32) then (if (u_K 0 4) = (5 : Int32) then (if (14 : Int32) < (u_K 0 5) then (some (-1 : Int32)) else (some (u_K 0 5))) else (some (-1 : Int32))) else (some (2 : Int32))) else (some (3 : Int32))
set_option maxHeartbeats 4000000 in
set_option maxRecDepth 100000 in
theorem c_X4_operator {l : Launch} {g : GG} {A : Nat → Prop} {X : va_W} {fu : Nat} {a_T a_K : Nat → Nat} {p_T_8 p_K_0 : Nat} {u_T : S32} {u_K : S32} {r : Int32} (hf : f_X4_operator fu u_T u_K = some r) : MI l yX4_operator cX4_operator 1 (some .int) 1 g A (cl_X4 g a_T (a_K 0) p_T_8 u_T ++ (cl_X8 g a_K p_K_0 u_K ++ X)) [.ref (a_T 0)] r (cl_X4 g a_T (a_K 0) p_T_8 u_T ++ (cl_X8 g a_K p_K_0 u_K ++ X)) := by
  refine tx_start (av := [.ref (a_T 0)]) (by decide) (Nat.le_of_ble_eq_true rfl) ?_
  intro p e s m below meth c ls S hr hlk hE hw hl
  have S : CallFix p m c cX4_operator 1 s (List.toArray [.ref (a_T 0)]) (Cond.code yX4_operator cX4_operator 1 (some .int) :: allW) RX4 := S
  have hx := S.1
  have hb := S.2.1
  have hown := S.2.2.2.1
  have hts : ∀ w ∈ allW, w.before (List.toArray [.ref (a_T 0)]) s = true := fun w h => S.2.2.2.2 w (List.mem_cons_of_mem _ h)
  have hl : lv_has ls 1 [(0, .ref (a_T 0))] := hl
  unfold f_X4_operator at hf
  refine lv_aload_n hx hb dX4_operator_0 rfl (lv_at hl 0 rfl) ?_
  refine gf_X4_21 S hE hw 0 rfl rfl dX4_operator_1 ?_
  refine lv_bipush (v := 11) hx hb dX4_operator_4 (by decide) ?_
  have hw := hw.u1
  obtain ⟨r_2, h_1, hf⟩ := tx_b1_e hf
  refine tx_ci hw (tx_runN S hE hw (c_X8_isWord h_1) lk_X4_86 (q0 := 0) rfl rfl rfl hl.1 (rest := []) rfl (Nat.le_of_ble_eq_true rfl) ⟨by decide, by decide⟩ dX4_operator_6 ⟨Nat.zero_le _, Nat.zero_le _⟩) (fun H locs hw => ?_)
  refine lv_if_eq (tgt := 14) hx hb dX4_operator_9 (by decide) (fun h_3 => ?_) (fun h_3 => ?_)
  · replace hf := tx_pos hf h_3
    refine lv_aload_n hx hb dX4_operator_14 rfl (lv_at hl 0 rfl) ?_
    refine gf_X4_21 S hE hw 1 rfl rfl dX4_operator_15 ?_
    refine lv_bipush (v := 10) hx hb dX4_operator_18 (by decide) ?_
    obtain ⟨r_5, h_4, hf⟩ := tx_b1_e hf
    refine tx_ci hw (tx_runN S hE hw (c_X8_isWord h_4) lk_X4_86 (q0 := 0) rfl rfl rfl hl.1 (rest := []) rfl (Nat.le_of_ble_eq_true rfl) ⟨by decide, by decide⟩ dX4_operator_20 ⟨Nat.zero_le _, Nat.zero_le _⟩) (fun H locs hw => ?_)
    refine lv_if_eq (tgt := 28) hx hb dX4_operator_23 (by decide) (fun h_6 => ?_) (fun h_6 => ?_)
    · replace hf := tx_pos hf h_6
      refine lv_aload_n hx hb dX4_operator_28 rfl (lv_at hl 0 rfl) ?_
      refine gf_X4_21 S hE hw 1 rfl rfl dX4_operator_29 ?_
      refine gf_X4_92 S hE hw 0 rfl rfl dX4_operator_32 ?_
      refine lv_iconst (v := 5) hx hb dX4_operator_35 (by decide) ?_
      refine lv_icmp_ne (tgt := 61) hx hb dX4_operator_36 (by decide) (fun h_7 => ?_) (fun h_7 => ?_)
      · replace hf := tx_neg hf h_7
        refine lv_iconst (v := -1) hx hb dX4_operator_61 (by decide) ?_
        have hw := hw.u1
        obtain e0 := tx_in1 hf
        rw [← e0]
        exact tx_iret S hr hlk hw dX4_operator_62
      · replace hf := tx_pos hf h_7
        refine lv_aload_n hx hb dX4_operator_39 rfl (lv_at hl 0 rfl) ?_
        refine gf_X4_21 S hE hw 1 rfl rfl dX4_operator_40 ?_
        refine gf_X4_95 S hE hw 0 rfl rfl dX4_operator_43 ?_
        refine lv_bipush (v := 14) hx hb dX4_operator_46 (by decide) ?_
        refine lv_icmp_gt (tgt := 61) hx hb dX4_operator_48 (by decide) (fun h_8 => ?_) (fun h_8 => ?_)
        · replace hf := tx_pos hf h_8
          refine lv_iconst (v := -1) hx hb dX4_operator_61 (by decide) ?_
          have hw := hw.u1
          obtain e0 := tx_in1 hf
          rw [← e0]
          exact tx_iret S hr hlk hw dX4_operator_62
        · replace hf := tx_neg hf h_8
          refine lv_aload_n hx hb dX4_operator_51 rfl (lv_at hl 0 rfl) ?_
          refine gf_X4_21 S hE hw 1 rfl rfl dX4_operator_52 ?_
          refine gf_X4_95 S hE hw 0 rfl rfl dX4_operator_55 ?_
          refine lv_goto (tgt := 62) hx hb dX4_operator_58 (by decide) ?_
          have hw := hw.u1
          obtain e0 := tx_in1 hf
          rw [← e0]
          exact tx_iret S hr hlk hw dX4_operator_62
    · replace hf := tx_neg hf h_6
      refine lv_iconst (v := 2) hx hb dX4_operator_26 (by decide) ?_
      have hw := hw.u1
      obtain e0 := tx_in1 hf
      rw [← e0]
      exact tx_iret S hr hlk hw dX4_operator_27
  · replace hf := tx_neg hf h_3
    refine lv_iconst (v := 3) hx hb dX4_operator_12 (by decide) ?_
    have hw := hw.u1
    obtain e0 := tx_in1 hf
    rw [← e0]
    exact tx_iret S hr hlk hw dX4_operator_13
def f_X4_push (fu : Nat) (u_T : S32) (x1 : Int32) : Option (S32) := if (u_T 0 2) < (0 : Int32) then (some u_T) else (if (72 : Int32) ≤ (u_T 0 2) then (some u_T) else (tx_ck (u_T 0 2) 72 <| tx_let (up2 u_T 2 (u_T 0 2).toNatClampNeg x1) fun (u_T_4 : S32) => tx_let (up2 u_T_4 0 2 ((u_T_4 0 2) + (1 : Int32))) fun (u_T_5 : S32) => some u_T_5))
set_option maxHeartbeats 4000000 in
set_option maxRecDepth 100000 in
theorem c_X4_push {l : Launch} {g : GG} {A : Nat → Prop} {X : va_W} {fu : Nat} {a_T : Nat → Nat} {p_T_0 p_T_8 : Nat} {u_T : S32} {x1 : Int32} {zu_T : S32} (hf : f_X4_push fu  u_T x1 = some zu_T) : MV l yX4_push cX4_push 2 none 0 g A (cl_X4 g a_T p_T_0 p_T_8 u_T ++ X) [.ref (a_T 0), .int x1] (cl_X4 g a_T p_T_0 p_T_8 zu_T ++ X) := by
  refine tx_start (av := [.ref (a_T 0), .int x1]) (by decide) (Nat.le_of_ble_eq_true rfl) ?_
  intro p e s m below meth c ls S hr hlk hE hw hl
  have S : CallFix p m c cX4_push 2 s (List.toArray [.ref (a_T 0), .int x1]) (Cond.code yX4_push cX4_push 2 none :: allW) RX4 := S
  have hx := S.1
  have hb := S.2.1
  have hown := S.2.2.2.1
  have hts : ∀ w ∈ allW, w.before (List.toArray [.ref (a_T 0), .int x1]) s = true := fun w h => S.2.2.2.2 w (List.mem_cons_of_mem _ h)
  have hl : lv_has ls 2 [(0, .ref (a_T 0)), (1, .int x1)] := hl
  unfold f_X4_push at hf
  refine lv_aload_n hx hb dX4_push_0 rfl (lv_at hl 0 rfl) ?_
  refine gf_X4_33 S hE hw 0 rfl rfl dX4_push_1 ?_
  refine lv_if_lt (tgt := 36) hx hb dX4_push_4 (by decide) (fun h_1 => ?_) (fun h_1 => ?_)
  · replace hf := tx_pos hf h_1
    obtain e0 := tx_in1 hf
    rw [← e0]
    exact tx_vret S hr hlk hw dX4_push_36
  · replace hf := tx_neg hf h_1
    refine lv_aload_n hx hb dX4_push_7 rfl (lv_at hl 0 rfl) ?_
    refine gf_X4_33 S hE hw 0 rfl rfl dX4_push_8 ?_
    refine lv_bipush (v := 72) hx hb dX4_push_11 (by decide) ?_
    refine lv_icmp_ge (tgt := 36) hx hb dX4_push_13 (by decide) (fun h_2 => ?_) (fun h_2 => ?_)
    · replace hf := tx_pos hf h_2
      obtain e0 := tx_in1 hf
      rw [← e0]
      exact tx_vret S hr hlk hw dX4_push_36
    · replace hf := tx_neg hf h_2
      refine lv_aload_n hx hb dX4_push_16 rfl (lv_at hl 0 rfl) ?_
      refine gf_X4_13 S hE hw 0 rfl rfl dX4_push_17 ?_
      refine lv_aload_n hx hb dX4_push_20 rfl (lv_at hl 0 rfl) ?_
      refine gf_X4_33 S hE hw 0 rfl rfl dX4_push_21 ?_
      refine lv_iload_n hx hb dX4_push_24 rfl (lv_at hl 1 rfl) ?_
      obtain ⟨h_3, hf⟩ := tx_ck_e hf
      obtain ⟨u_T_4, eu_T_4⟩ : ∃ z : S32, z = up2 u_T 2 (u_T 0 2).toNatClampNeg x1 := ⟨_, rfl⟩
      replace hf := tx_let_e hf eu_T_4
      refine tx_iast (ws' := cl_X4 g a_T p_T_0 p_T_8 u_T_4 ++ X) S hE hw 1 rfl h_3 (by rw [eu_T_4]; rfl) dX4_push_25 (fun H locs hw => ?_)
      refine lv_aload_n hx hb dX4_push_26 rfl (lv_at hl 0 rfl) ?_
      refine lv_dup hx hb dX4_push_27 rfl ?_
      refine gf_X4_33 S hE hw 0 rfl rfl dX4_push_28 ?_
      refine lv_iconst (v := 1) hx hb dX4_push_31 (by decide) ?_
      refine lv_iadd hx hb dX4_push_32 ?_
      obtain ⟨u_T_5, eu_T_5⟩ : ∃ z : S32, z = up2 u_T_4 0 2 ((u_T_4 0 2) + (1 : Int32)) := ⟨_, rfl⟩
      replace hf := tx_let_e hf eu_T_5
      refine pf_X4_33 (ws' := cl_X4 g a_T p_T_0 p_T_8 u_T_5 ++ X) S hE hw rfl rfl 0 rfl (Nat.le_of_ble_eq_true rfl) (by rw [eu_T_5]; rfl) dX4_push_33 (fun H locs hw => ?_)
      obtain e0 := tx_in1 hf
      rw [← e0]
      exact tx_vret S hr hlk hw dX4_push_36
def f_X4_takeOperator_J134 (fu : Nat) (u_K : S32) (v_L : S64) (u_T : S32) (u_L : S32) (w1 : Int32) (w3 : Int32) (t1 : Int32) (t2 : Int32) : Option (Int32 × S32 × S32) := tx_ck t1 9 <| tx_let (up2 u_T 4 t1.toNatClampNeg (t2 &&& 1)) fun (u_T_20 : S32) => tx_b1 (f_X4_rankOf fu w1) fun (r_22 : Int32) => tx_b2 (f_X4_release fu v_L u_T_20 u_L r_22) fun (u_T_24 : S32) (u_L_25 : S32) => tx_b1 (f_X4_push fu u_T_24 w1) fun (u_T_27 : S32) => tx_b1 (f_X4_expectOperand fu u_T_27 w3) fun (u_T_29 : S32) => some ((0 : Int32), u_T_29, u_L_25)
def f_X4_takeOperator_J129 (fu : Nat) (u_K : S32) (v_L : S64) (u_T : S32) (u_L : S32) (w1 : Int32) (w3 : Int32) (t1 : Int32) : Option (Int32 × S32 × S32) := f_X4_takeOperator_J134 fu u_K v_L u_T u_L w1 w3 t1 (1 : Int32)
def f_X4_takeOperator_J133 (fu : Nat) (u_K : S32) (v_L : S64) (u_T : S32) (u_L : S32) (w1 : Int32) (w3 : Int32) (t1 : Int32) : Option (Int32 × S32 × S32) := f_X4_takeOperator_J134 fu u_K v_L u_T u_L w1 w3 t1 (0 : Int32)
def f_X4_takeOperator_J100 (fu : Nat) (u_K : S32) (v_L : S64) (u_T : S32) (u_L : S32) (w1 : Int32) (w2 : Int32) (t0 : Int32) : Option (Int32 × S32 × S32) := if t0 = (0 : Int32) then (if w2 = (0 : Int32) then (tx_ck (u_T 0 4) 9 <| if (u_T 4 (u_T 0 4).toNatClampNeg) = (0 : Int32) then (f_X4_takeOperator_J133 fu u_K v_L u_T u_L w1 t0 (u_T 0 4)) else (f_X4_takeOperator_J129 fu u_K v_L u_T u_L w1 t0 (u_T 0 4))) else (f_X4_takeOperator_J129 fu u_K v_L u_T u_L w1 t0 (u_T 0 4))) else (f_X4_takeOperator_J133 fu u_K v_L u_T u_L w1 t0 (u_T 0 4))
def f_X4_takeOperator_J95 (fu : Nat) (u_K : S32) (v_L : S64) (u_T : S32) (u_L : S32) (w1 : Int32) (w2 : Int32) : Option (Int32 × S32 × S32) := f_X4_takeOperator_J100 fu u_K v_L u_T u_L w1 w2 (1 : Int32)
def f_X4_takeOperator_J64 (fu : Nat) (u_K : S32) (v_L : S64) (u_T : S32) (u_L : S32) (w1 : Int32) (w2 : Int32) : Option (Int32 × S32 × S32) := if (u_T 0 5) < (64 : Int32) then (tx_let (up2 u_T 0 5 ((u_T 0 5) + (1 : Int32))) fun (u_T_12 : S32) => if w1 = (3 : Int32) then (f_X4_takeOperator_J95 fu u_K v_L u_T_12 u_L w1 w2) else (if w1 = (2 : Int32) then (f_X4_takeOperator_J95 fu u_K v_L u_T_12 u_L w1 w2) else (f_X4_takeOperator_J100 fu u_K v_L u_T_12 u_L w1 w2 (0 : Int32)))) else (some ((2 : Int32), u_T, u_L))
def f_X4_takeOperator_J21 (fu : Nat) (u_K : S32) (v_L : S64) (u_T : S32) (u_L : S32) (w1 : Int32) (t0 : Int32) : Option (Int32 × S32 × S32) := if w1 = (-1 : Int32) then (some ((1 : Int32), u_T, u_L)) else (if (u_T 0 4) < (0 : Int32) then (some ((1 : Int32), u_T, u_L)) else (if (9 : Int32) ≤ (u_T 0 4) then (some ((1 : Int32), u_T, u_L)) else (if t0 = (0 : Int32) then (f_X4_takeOperator_J64 fu u_K v_L u_T u_L w1 t0) else (tx_ck (u_T 0 4) 9 <| if (u_T 4 (u_T 0 4).toNatClampNeg) = (0 : Int32) then (f_X4_takeOperator_J64 fu u_K v_L u_T u_L w1 t0) else (some ((1 : Int32), u_T, u_L))))))
def f_X4_takeOperator_J20 (fu : Nat) (u_K : S32) (v_L : S64) (u_T : S32) (u_L : S32) (w1 : Int32) : Option (Int32 × S32 × S32) := f_X4_takeOperator_J21 fu u_K v_L u_T u_L w1 (0 : Int32)
def f_X4_takeOperator (fu : Nat) (u_K : S32) (v_L : S64) (u_T : S32) (u_L : S32) : Option (Int32 × S32 × S32) := tx_b1 (f_X4_operator fu u_T u_K) fun (r_2 : Int32) => if r_2 < (5 : Int32) then (f_X4_takeOperator_J20 fu u_K v_L u_T u_L r_2) else (if (10 : Int32) < r_2 then (f_X4_takeOperator_J20 fu u_K v_L u_T u_L r_2) else (f_X4_takeOperator_J21 fu u_K v_L u_T u_L r_2 (1 : Int32)))
set_option maxHeartbeats 4000000 in
set_option maxRecDepth 100000 in
theorem c_X4_takeOperator {l : Launch} {g : GG} {A : Nat → Prop} {X : va_W} {fu : Nat} {a_T a_K a_L : Nat → Nat} {p_K_0 : Nat} {u_T : S32} {u_K : S32} {u_L : S32} {v_L : S64} {r : Int32} {zu_T : S32} {zu_L : S32} (hf : f_X4_takeOperator fu u_K v_L u_T u_L = some (r, zu_T, zu_L)) : MI l yX4_takeOperator cX4_takeOperator 4 (some .int) 2 g A (cl_X4 g a_T (a_K 0) (a_L 0) u_T ++ (cl_X8 g a_K p_K_0 u_K ++ (cl_X5 g a_L u_L v_L ++ X))) [.ref (a_T 0)] r (cl_X4 g a_T (a_K 0) (a_L 0) zu_T ++ (cl_X8 g a_K p_K_0 u_K ++ (cl_X5 g a_L zu_L v_L ++ X))) := by
  refine tx_start (av := [.ref (a_T 0)]) (by decide) (Nat.le_of_ble_eq_true rfl) ?_
  intro p e s m below meth c ls S hr hlk hE hw hl
  have S : CallFix p m c cX4_takeOperator 4 s (List.toArray [.ref (a_T 0)]) (Cond.code yX4_takeOperator cX4_takeOperator 4 (some .int) :: allW) RX4 := S
  have hx := S.1
  have hb := S.2.1
  have hown := S.2.2.2.1
  have hts : ∀ w ∈ allW, w.before (List.toArray [.ref (a_T 0)]) s = true := fun w h => S.2.2.2.2 w (List.mem_cons_of_mem _ h)
  have hl : lv_has ls 4 [(0, .ref (a_T 0))] := hl
  have J134 : ∀ {u_T : S32} {u_L : S32} {w1 : Int32} {w3 : Int32} {t1 : Int32} {t2 : Int32} {H : Heap} {locs : List Loc} {ls : Array Slot}, f_X4_takeOperator_J134 fu u_K v_L u_T u_L w1 w3 t1 t2 = some (r, zu_T, zu_L) → WD g A s.heap (cl_X4 g a_T (a_K 0) (a_L 0) u_T ++ (cl_X8 g a_K p_K_0 u_K ++ (cl_X5 g a_L u_L v_L ++ X))) H locs → lv_has ls 4 [(0, .ref (a_T 0)), (1, .int w1), (3, .int w3)] → W p l e (rmH 2) s m (List.toArray [.ref (a_T 0)]) below meth c H locs 0 0 (MQ below (va_Qi (fun r2 (_ : Unit) => r2 = r) (fun _ t => POST g A (cl_X4 g a_T (a_K 0) (a_L 0) zu_T ++ (cl_X8 g a_K p_K_0 u_K ++ (cl_X5 g a_L zu_L v_L ++ X))) t) A) (List.toArray [.ref (a_T 0)]) s 0 0 A) (F0 m 134 ls [.int t2, .int t1, .ref (a_T 4)]) := by
    intro u_T u_L w1 w3 t1 t2 H locs ls hf hw hl
    unfold f_X4_takeOperator_J134 at hf
    obtain ⟨h_19, hf⟩ := tx_ck_e hf
    obtain ⟨u_T_20, eu_T_20⟩ : ∃ z : S32, z = up2 u_T 4 t1.toNatClampNeg (t2 &&& 1) := ⟨_, rfl⟩
    replace hf := tx_let_e hf eu_T_20
    refine tx_zast (ws' := cl_X4 g a_T (a_K 0) (a_L 0) u_T_20 ++ (cl_X8 g a_K p_K_0 u_K ++ (cl_X5 g a_L u_L v_L ++ X))) S hE hw 2 rfl h_19 (by rw [eu_T_20]; rfl) dX4_takeOperator_134 (fun H locs hw => ?_)
    refine lv_aload_n hx hb dX4_takeOperator_135 rfl (lv_at hl 0 rfl) ?_
    refine lv_iload_n hx hb dX4_takeOperator_136 rfl (lv_at hl 1 rfl) ?_
    obtain ⟨r_22, h_21, hf⟩ := tx_b1_e hf
    refine tx_ci hw (tx_runS S hE hw (c_X4_rankOf h_21) lk_X4_108 rfl hl.1 (rest := [.ref (a_T 0)]) rfl (Nat.le_of_ble_eq_true rfl) ⟨by decide, by decide⟩ dX4_takeOperator_137 ⟨Nat.zero_le _, Nat.zero_le _⟩) (fun H locs hw => ?_)
    have hw := hw.u2
    have hw := hw.u1
    obtain ⟨u_T_24, u_L_25, h_23, hf⟩ := tx_b2_e hf
    refine tx_cv hw (tx_runV S hE hw (c_X4_release h_23) lk_X4_61 (q0 := 0) rfl rfl rfl hl.1 (rest := []) rfl (Nat.le_of_ble_eq_true rfl) ⟨by decide, by decide⟩ dX4_takeOperator_140 ⟨Nat.zero_le _, Nat.zero_le _⟩) (fun H locs hw => ?_)
    refine lv_aload_n hx hb dX4_takeOperator_143 rfl (lv_at hl 0 rfl) ?_
    refine lv_iload_n hx hb dX4_takeOperator_144 rfl (lv_at hl 1 rfl) ?_
    obtain ⟨u_T_27, h_26, hf⟩ := tx_b1_e hf
    refine tx_cv hw (tx_runV S hE hw (c_X4_push h_26) lk_X4_102 (q0 := 0) rfl rfl rfl hl.1 (rest := []) rfl (Nat.le_of_ble_eq_true rfl) ⟨by decide, by decide⟩ dX4_takeOperator_145 ⟨Nat.zero_le _, Nat.zero_le _⟩) (fun H locs hw => ?_)
    refine lv_aload_n hx hb dX4_takeOperator_148 rfl (lv_at hl 0 rfl) ?_
    refine lv_iload_n hx hb dX4_takeOperator_149 rfl (lv_at hl 2 rfl) ?_
    obtain ⟨u_T_29, h_28, hf⟩ := tx_b1_e hf
    refine tx_cv hw (tx_runV S hE hw (c_X4_expectOperand h_28) lk_X4_45 (q0 := 0) rfl rfl rfl hl.1 (rest := []) rfl (Nat.le_of_ble_eq_true rfl) ⟨by decide, by decide⟩ dX4_takeOperator_150 ⟨Nat.zero_le _, Nat.zero_le _⟩) (fun H locs hw => ?_)
    refine lv_iconst (v := 0) hx hb dX4_takeOperator_153 (by decide) ?_
    have hw := hw.u1
    have hw := hw.u2
    have hw := hw.u2
    obtain ⟨e0, e1, e2⟩ := tx_in3 hf
    rw [← e0, ← e1, ← e2]
    exact tx_iret S hr hlk hw dX4_takeOperator_154
  have J129 : ∀ {u_T : S32} {u_L : S32} {w1 : Int32} {w3 : Int32} {t1 : Int32} {H : Heap} {locs : List Loc} {ls : Array Slot}, f_X4_takeOperator_J129 fu u_K v_L u_T u_L w1 w3 t1 = some (r, zu_T, zu_L) → WD g A s.heap (cl_X4 g a_T (a_K 0) (a_L 0) u_T ++ (cl_X8 g a_K p_K_0 u_K ++ (cl_X5 g a_L u_L v_L ++ X))) H locs → lv_has ls 4 [(0, .ref (a_T 0)), (1, .int w1), (3, .int w3)] → W p l e (rmH 2) s m (List.toArray [.ref (a_T 0)]) below meth c H locs 0 0 (MQ below (va_Qi (fun r2 (_ : Unit) => r2 = r) (fun _ t => POST g A (cl_X4 g a_T (a_K 0) (a_L 0) zu_T ++ (cl_X8 g a_K p_K_0 u_K ++ (cl_X5 g a_L zu_L v_L ++ X))) t) A) (List.toArray [.ref (a_T 0)]) s 0 0 A) (F0 m 129 ls [.int t1, .ref (a_T 4)]) := by
    intro u_T u_L w1 w3 t1 H locs ls hf hw hl
    unfold f_X4_takeOperator_J129 at hf
    refine lv_iconst (v := 1) hx hb dX4_takeOperator_129 (by decide) ?_
    refine lv_goto (tgt := 134) hx hb dX4_takeOperator_130 (by decide) ?_
    exact J134 hf hw (lv_sub hl [0, 1, 2] rfl)
  have J133 : ∀ {u_T : S32} {u_L : S32} {w1 : Int32} {w3 : Int32} {t1 : Int32} {H : Heap} {locs : List Loc} {ls : Array Slot}, f_X4_takeOperator_J133 fu u_K v_L u_T u_L w1 w3 t1 = some (r, zu_T, zu_L) → WD g A s.heap (cl_X4 g a_T (a_K 0) (a_L 0) u_T ++ (cl_X8 g a_K p_K_0 u_K ++ (cl_X5 g a_L u_L v_L ++ X))) H locs → lv_has ls 4 [(0, .ref (a_T 0)), (1, .int w1), (3, .int w3)] → W p l e (rmH 2) s m (List.toArray [.ref (a_T 0)]) below meth c H locs 0 0 (MQ below (va_Qi (fun r2 (_ : Unit) => r2 = r) (fun _ t => POST g A (cl_X4 g a_T (a_K 0) (a_L 0) zu_T ++ (cl_X8 g a_K p_K_0 u_K ++ (cl_X5 g a_L zu_L v_L ++ X))) t) A) (List.toArray [.ref (a_T 0)]) s 0 0 A) (F0 m 133 ls [.int t1, .ref (a_T 4)]) := by
    intro u_T u_L w1 w3 t1 H locs ls hf hw hl
    unfold f_X4_takeOperator_J133 at hf
    refine lv_iconst (v := 0) hx hb dX4_takeOperator_133 (by decide) ?_
    exact J134 hf hw (lv_sub hl [0, 1, 2] rfl)
  have J100 : ∀ {u_T : S32} {u_L : S32} {w1 : Int32} {w2 : Int32} {t0 : Int32} {H : Heap} {locs : List Loc} {ls : Array Slot}, f_X4_takeOperator_J100 fu u_K v_L u_T u_L w1 w2 t0 = some (r, zu_T, zu_L) → WD g A s.heap (cl_X4 g a_T (a_K 0) (a_L 0) u_T ++ (cl_X8 g a_K p_K_0 u_K ++ (cl_X5 g a_L u_L v_L ++ X))) H locs → lv_has ls 4 [(0, .ref (a_T 0)), (1, .int w1), (2, .int w2)] → W p l e (rmH 2) s m (List.toArray [.ref (a_T 0)]) below meth c H locs 0 0 (MQ below (va_Qi (fun r2 (_ : Unit) => r2 = r) (fun _ t => POST g A (cl_X4 g a_T (a_K 0) (a_L 0) zu_T ++ (cl_X8 g a_K p_K_0 u_K ++ (cl_X5 g a_L zu_L v_L ++ X))) t) A) (List.toArray [.ref (a_T 0)]) s 0 0 A) (F0 m 100 ls [.int t0]) := by
    intro u_T u_L w1 w2 t0 H locs ls hf hw hl
    unfold f_X4_takeOperator_J100 at hf
    refine lv_istore_n (lv' := [(3, .int t0), (0, .ref (a_T 0)), (1, .int w1), (2, .int w2)]) hx hb dX4_takeOperator_100 rfl hl (by decide) rfl (fun ls hl => ?_)
    refine lv_aload_n hx hb dX4_takeOperator_101 rfl (lv_at hl 1 rfl) ?_
    refine gf_X4_17 S hE hw 0 rfl rfl dX4_takeOperator_102 ?_
    refine lv_aload_n hx hb dX4_takeOperator_105 rfl (lv_at hl 1 rfl) ?_
    refine gf_X4_37 S hE hw 0 rfl rfl dX4_takeOperator_106 ?_
    refine lv_iload_n hx hb dX4_takeOperator_109 rfl (lv_at hl 0 rfl) ?_
    refine lv_if_ne (tgt := 133) hx hb dX4_takeOperator_110 (by decide) (fun h_15 => ?_) (fun h_15 => ?_)
    · replace hf := tx_neg hf h_15
      exact J133 hf hw (lv_sub hl [1, 2, 0] rfl)
    · replace hf := tx_pos hf h_15
      refine lv_iload_n hx hb dX4_takeOperator_113 rfl (lv_at hl 3 rfl) ?_
      refine lv_if_ne (tgt := 129) hx hb dX4_takeOperator_114 (by decide) (fun h_16 => ?_) (fun h_16 => ?_)
      · replace hf := tx_neg hf h_16
        exact J129 hf hw (lv_sub hl [1, 2, 0] rfl)
      · replace hf := tx_pos hf h_16
        refine lv_aload_n hx hb dX4_takeOperator_117 rfl (lv_at hl 1 rfl) ?_
        refine gf_X4_17 S hE hw 0 rfl rfl dX4_takeOperator_118 ?_
        refine lv_aload_n hx hb dX4_takeOperator_121 rfl (lv_at hl 1 rfl) ?_
        refine gf_X4_37 S hE hw 0 rfl rfl dX4_takeOperator_122 ?_
        obtain ⟨h_17, hf⟩ := tx_ck_e hf
        refine tx_zald S hE hw 2 rfl h_17 dX4_takeOperator_125 ?_
        refine lv_if_eq (tgt := 133) hx hb dX4_takeOperator_126 (by decide) (fun h_18 => ?_) (fun h_18 => ?_)
        · replace hf := tx_pos hf h_18
          exact J133 hf hw (lv_sub hl [1, 2, 0] rfl)
        · replace hf := tx_neg hf h_18
          exact J129 hf hw (lv_sub hl [1, 2, 0] rfl)
  have J95 : ∀ {u_T : S32} {u_L : S32} {w1 : Int32} {w2 : Int32} {H : Heap} {locs : List Loc} {ls : Array Slot}, f_X4_takeOperator_J95 fu u_K v_L u_T u_L w1 w2 = some (r, zu_T, zu_L) → WD g A s.heap (cl_X4 g a_T (a_K 0) (a_L 0) u_T ++ (cl_X8 g a_K p_K_0 u_K ++ (cl_X5 g a_L u_L v_L ++ X))) H locs → lv_has ls 4 [(0, .ref (a_T 0)), (1, .int w1), (2, .int w2)] → W p l e (rmH 2) s m (List.toArray [.ref (a_T 0)]) below meth c H locs 0 0 (MQ below (va_Qi (fun r2 (_ : Unit) => r2 = r) (fun _ t => POST g A (cl_X4 g a_T (a_K 0) (a_L 0) zu_T ++ (cl_X8 g a_K p_K_0 u_K ++ (cl_X5 g a_L zu_L v_L ++ X))) t) A) (List.toArray [.ref (a_T 0)]) s 0 0 A) (F0 m 95 ls []) := by
    intro u_T u_L w1 w2 H locs ls hf hw hl
    unfold f_X4_takeOperator_J95 at hf
    refine lv_iconst (v := 1) hx hb dX4_takeOperator_95 (by decide) ?_
    refine lv_goto (tgt := 100) hx hb dX4_takeOperator_96 (by decide) ?_
    exact J100 hf hw (lv_sub hl [0, 1, 2] rfl)
  have J64 : ∀ {u_T : S32} {u_L : S32} {w1 : Int32} {w2 : Int32} {H : Heap} {locs : List Loc} {ls : Array Slot}, f_X4_takeOperator_J64 fu u_K v_L u_T u_L w1 w2 = some (r, zu_T, zu_L) → WD g A s.heap (cl_X4 g a_T (a_K 0) (a_L 0) u_T ++ (cl_X8 g a_K p_K_0 u_K ++ (cl_X5 g a_L u_L v_L ++ X))) H locs → lv_has ls 4 [(0, .ref (a_T 0)), (1, .int w1), (2, .int w2)] → W p l e (rmH 2) s m (List.toArray [.ref (a_T 0)]) below meth c H locs 0 0 (MQ below (va_Qi (fun r2 (_ : Unit) => r2 = r) (fun _ t => POST g A (cl_X4 g a_T (a_K 0) (a_L 0) zu_T ++ (cl_X8 g a_K p_K_0 u_K ++ (cl_X5 g a_L zu_L v_L ++ X))) t) A) (List.toArray [.ref (a_T 0)]) s 0 0 A) (F0 m 64 ls []) := by
    intro u_T u_L w1 w2 H locs ls hf hw hl
    unfold f_X4_takeOperator_J64 at hf
    refine lv_aload_n hx hb dX4_takeOperator_64 rfl (lv_at hl 0 rfl) ?_
    refine gf_X4_42 S hE hw 0 rfl rfl dX4_takeOperator_65 ?_
    refine lv_bipush (v := 64) hx hb dX4_takeOperator_68 (by decide) ?_
    refine lv_icmp_lt (tgt := 75) hx hb dX4_takeOperator_70 (by decide) (fun h_11 => ?_) (fun h_11 => ?_)
    · replace hf := tx_pos hf h_11
      refine lv_aload_n hx hb dX4_takeOperator_75 rfl (lv_at hl 0 rfl) ?_
      refine lv_dup hx hb dX4_takeOperator_76 rfl ?_
      refine gf_X4_42 S hE hw 0 rfl rfl dX4_takeOperator_77 ?_
      refine lv_iconst (v := 1) hx hb dX4_takeOperator_80 (by decide) ?_
      refine lv_iadd hx hb dX4_takeOperator_81 ?_
      obtain ⟨u_T_12, eu_T_12⟩ : ∃ z : S32, z = up2 u_T 0 5 ((u_T 0 5) + (1 : Int32)) := ⟨_, rfl⟩
      replace hf := tx_let_e hf eu_T_12
      refine pf_X4_42 (ws' := cl_X4 g a_T (a_K 0) (a_L 0) u_T_12 ++ (cl_X8 g a_K p_K_0 u_K ++ (cl_X5 g a_L u_L v_L ++ X))) S hE hw rfl rfl 0 rfl (Nat.le_of_ble_eq_true rfl) (by rw [eu_T_12]; rfl) dX4_takeOperator_82 (fun H locs hw => ?_)
      refine lv_iload_n hx hb dX4_takeOperator_85 rfl (lv_at hl 1 rfl) ?_
      refine lv_iconst (v := 3) hx hb dX4_takeOperator_86 (by decide) ?_
      refine lv_icmp_eq (tgt := 95) hx hb dX4_takeOperator_87 (by decide) (fun h_13 => ?_) (fun h_13 => ?_)
      · replace hf := tx_pos hf h_13
        exact J95 hf hw (lv_sub hl [0, 1, 2] rfl)
      · replace hf := tx_neg hf h_13
        refine lv_iload_n hx hb dX4_takeOperator_90 rfl (lv_at hl 1 rfl) ?_
        refine lv_iconst (v := 2) hx hb dX4_takeOperator_91 (by decide) ?_
        refine lv_icmp_ne (tgt := 99) hx hb dX4_takeOperator_92 (by decide) (fun h_14 => ?_) (fun h_14 => ?_)
        · replace hf := tx_neg hf h_14
          refine lv_iconst (v := 0) hx hb dX4_takeOperator_99 (by decide) ?_
          exact J100 hf hw (lv_sub hl [0, 1, 2] rfl)
        · replace hf := tx_pos hf h_14
          exact J95 hf hw (lv_sub hl [0, 1, 2] rfl)
    · replace hf := tx_neg hf h_11
      refine lv_iconst (v := 2) hx hb dX4_takeOperator_73 (by decide) ?_
      obtain ⟨e0, e1, e2⟩ := tx_in3 hf
      rw [← e0, ← e1, ← e2]
      exact tx_iret S hr hlk hw dX4_takeOperator_74
  have J21 : ∀ {u_T : S32} {u_L : S32} {w1 : Int32} {t0 : Int32} {H : Heap} {locs : List Loc} {ls : Array Slot}, f_X4_takeOperator_J21 fu u_K v_L u_T u_L w1 t0 = some (r, zu_T, zu_L) → WD g A s.heap (cl_X4 g a_T (a_K 0) (a_L 0) u_T ++ (cl_X8 g a_K p_K_0 u_K ++ (cl_X5 g a_L u_L v_L ++ X))) H locs → lv_has ls 4 [(0, .ref (a_T 0)), (1, .int w1)] → W p l e (rmH 2) s m (List.toArray [.ref (a_T 0)]) below meth c H locs 0 0 (MQ below (va_Qi (fun r2 (_ : Unit) => r2 = r) (fun _ t => POST g A (cl_X4 g a_T (a_K 0) (a_L 0) zu_T ++ (cl_X8 g a_K p_K_0 u_K ++ (cl_X5 g a_L zu_L v_L ++ X))) t) A) (List.toArray [.ref (a_T 0)]) s 0 0 A) (F0 m 21 ls [.int t0]) := by
    intro u_T u_L w1 t0 H locs ls hf hw hl
    unfold f_X4_takeOperator_J21 at hf
    refine lv_istore_n (lv' := [(2, .int t0), (0, .ref (a_T 0)), (1, .int w1)]) hx hb dX4_takeOperator_21 rfl hl (by decide) rfl (fun ls hl => ?_)
    refine lv_iload_n hx hb dX4_takeOperator_22 rfl (lv_at hl 2 rfl) ?_
    refine lv_iconst (v := -1) hx hb dX4_takeOperator_23 (by decide) ?_
    refine lv_icmp_eq (tgt := 62) hx hb dX4_takeOperator_24 (by decide) (fun h_5 => ?_) (fun h_5 => ?_)
    · replace hf := tx_pos hf h_5
      refine lv_iconst (v := 1) hx hb dX4_takeOperator_62 (by decide) ?_
      obtain ⟨e0, e1, e2⟩ := tx_in3 hf
      rw [← e0, ← e1, ← e2]
      exact tx_iret S hr hlk hw dX4_takeOperator_63
    · replace hf := tx_neg hf h_5
      refine lv_aload_n hx hb dX4_takeOperator_27 rfl (lv_at hl 1 rfl) ?_
      refine gf_X4_37 S hE hw 0 rfl rfl dX4_takeOperator_28 ?_
      refine lv_if_lt (tgt := 62) hx hb dX4_takeOperator_31 (by decide) (fun h_6 => ?_) (fun h_6 => ?_)
      · replace hf := tx_pos hf h_6
        refine lv_iconst (v := 1) hx hb dX4_takeOperator_62 (by decide) ?_
        obtain ⟨e0, e1, e2⟩ := tx_in3 hf
        rw [← e0, ← e1, ← e2]
        exact tx_iret S hr hlk hw dX4_takeOperator_63
      · replace hf := tx_neg hf h_6
        refine lv_aload_n hx hb dX4_takeOperator_34 rfl (lv_at hl 1 rfl) ?_
        refine gf_X4_37 S hE hw 0 rfl rfl dX4_takeOperator_35 ?_
        refine lv_aload_n hx hb dX4_takeOperator_38 rfl (lv_at hl 1 rfl) ?_
        refine gf_X4_17 S hE hw 0 rfl rfl dX4_takeOperator_39 ?_
        refine tx_alen (v := 9) S hE hw 2 3 rfl rfl rfl dX4_takeOperator_42 ?_
        refine lv_icmp_ge (tgt := 62) hx hb dX4_takeOperator_43 (by decide) (fun h_7 => ?_) (fun h_7 => ?_)
        · replace hf := tx_pos hf h_7
          refine lv_iconst (v := 1) hx hb dX4_takeOperator_62 (by decide) ?_
          obtain ⟨e0, e1, e2⟩ := tx_in3 hf
          rw [← e0, ← e1, ← e2]
          exact tx_iret S hr hlk hw dX4_takeOperator_63
        · replace hf := tx_neg hf h_7
          refine lv_iload_n hx hb dX4_takeOperator_46 rfl (lv_at hl 0 rfl) ?_
          refine lv_if_eq (tgt := 64) hx hb dX4_takeOperator_47 (by decide) (fun h_8 => ?_) (fun h_8 => ?_)
          · replace hf := tx_pos hf h_8
            exact J64 hf hw (lv_sub hl [1, 2, 0] rfl)
          · replace hf := tx_neg hf h_8
            refine lv_aload_n hx hb dX4_takeOperator_50 rfl (lv_at hl 1 rfl) ?_
            refine gf_X4_17 S hE hw 0 rfl rfl dX4_takeOperator_51 ?_
            refine lv_aload_n hx hb dX4_takeOperator_54 rfl (lv_at hl 1 rfl) ?_
            refine gf_X4_37 S hE hw 0 rfl rfl dX4_takeOperator_55 ?_
            obtain ⟨h_9, hf⟩ := tx_ck_e hf
            refine tx_zald S hE hw 2 rfl h_9 dX4_takeOperator_58 ?_
            refine lv_if_eq (tgt := 64) hx hb dX4_takeOperator_59 (by decide) (fun h_10 => ?_) (fun h_10 => ?_)
            · replace hf := tx_pos hf h_10
              exact J64 hf hw (lv_sub hl [1, 2, 0] rfl)
            · replace hf := tx_neg hf h_10
              refine lv_iconst (v := 1) hx hb dX4_takeOperator_62 (by decide) ?_
              obtain ⟨e0, e1, e2⟩ := tx_in3 hf
              rw [← e0, ← e1, ← e2]
              exact tx_iret S hr hlk hw dX4_takeOperator_63
  have J20 : ∀ {u_T : S32} {u_L : S32} {w1 : Int32} {H : Heap} {locs : List Loc} {ls : Array Slot}, f_X4_takeOperator_J20 fu u_K v_L u_T u_L w1 = some (r, zu_T, zu_L) → WD g A s.heap (cl_X4 g a_T (a_K 0) (a_L 0) u_T ++ (cl_X8 g a_K p_K_0 u_K ++ (cl_X5 g a_L u_L v_L ++ X))) H locs → lv_has ls 4 [(0, .ref (a_T 0)), (1, .int w1)] → W p l e (rmH 2) s m (List.toArray [.ref (a_T 0)]) below meth c H locs 0 0 (MQ below (va_Qi (fun r2 (_ : Unit) => r2 = r) (fun _ t => POST g A (cl_X4 g a_T (a_K 0) (a_L 0) zu_T ++ (cl_X8 g a_K p_K_0 u_K ++ (cl_X5 g a_L zu_L v_L ++ X))) t) A) (List.toArray [.ref (a_T 0)]) s 0 0 A) (F0 m 20 ls []) := by
    intro u_T u_L w1 H locs ls hf hw hl
    unfold f_X4_takeOperator_J20 at hf
    refine lv_iconst (v := 0) hx hb dX4_takeOperator_20 (by decide) ?_
    exact J21 hf hw (lv_sub hl [0, 1] rfl)
  unfold f_X4_takeOperator at hf
  refine lv_aload_n hx hb dX4_takeOperator_0 rfl (lv_at hl 0 rfl) ?_
  obtain ⟨r_2, h_1, hf⟩ := tx_b1_e hf
  refine tx_ci hw (tx_runV S hE hw (c_X4_operator h_1) lk_X4_105 (q0 := 0) rfl rfl rfl hl.1 (rest := []) rfl (Nat.le_of_ble_eq_true rfl) ⟨by decide, by decide⟩ dX4_takeOperator_1 ⟨Nat.zero_le _, Nat.zero_le _⟩) (fun H locs hw => ?_)
  refine lv_istore_n (lv' := [(1, .int r_2), (0, .ref (a_T 0))]) hx hb dX4_takeOperator_4 rfl hl (by decide) rfl (fun ls hl => ?_)
  refine lv_iload_n hx hb dX4_takeOperator_5 rfl (lv_at hl 0 rfl) ?_
  refine lv_iconst (v := 5) hx hb dX4_takeOperator_6 (by decide) ?_
  refine lv_icmp_lt (tgt := 20) hx hb dX4_takeOperator_7 (by decide) (fun h_3 => ?_) (fun h_3 => ?_)
  · replace hf := tx_pos hf h_3
    exact J20 hf hw (lv_sub hl [1, 0] rfl)
  · replace hf := tx_neg hf h_3
    refine lv_iload_n hx hb dX4_takeOperator_10 rfl (lv_at hl 0 rfl) ?_
    refine lv_bipush (v := 10) hx hb dX4_takeOperator_11 (by decide) ?_
    refine lv_icmp_gt (tgt := 20) hx hb dX4_takeOperator_13 (by decide) (fun h_4 => ?_) (fun h_4 => ?_)
    · replace hf := tx_pos hf h_4
      exact J20 hf hw (lv_sub hl [1, 0] rfl)
    · replace hf := tx_neg hf h_4
      refine lv_iconst (v := 1) hx hb dX4_takeOperator_16 (by decide) ?_
      refine lv_goto (tgt := 21) hx hb dX4_takeOperator_17 (by decide) ?_
      exact J21 hf hw (lv_sub hl [1, 0] rfl)
def f_X4_takeClosing (fu : Nat) (v_L : S64) (u_T : S32) (u_L : S32) : Option (Int32 × S32 × S32) := if (u_T 0 4) = (0 : Int32) then (some ((1 : Int32), u_T, u_L)) else (tx_b2 (f_X4_release fu v_L u_T u_L (1 : Int32)) fun (u_T_3 : S32) (u_L_4 : S32) => tx_let (up2 u_T_3 0 2 ((u_T_3 0 2) - (1 : Int32))) fun (u_T_5 : S32) => tx_let (up2 u_T_5 0 4 ((u_T_5 0 4) - (1 : Int32))) fun (u_T_6 : S32) => some ((0 : Int32), u_T_6, u_L_4))
set_option maxHeartbeats 4000000 in
set_option maxRecDepth 100000 in
theorem c_X4_takeClosing {l : Launch} {g : GG} {A : Nat → Prop} {X : va_W} {fu : Nat} {a_T a_L : Nat → Nat} {p_T_0 : Nat} {u_T : S32} {u_L : S32} {v_L : S64} {r : Int32} {zu_T : S32} {zu_L : S32} (hf : f_X4_takeClosing fu v_L u_T u_L = some (r, zu_T, zu_L)) : MI l yX4_takeClosing cX4_takeClosing 1 (some .int) 2 g A (cl_X4 g a_T p_T_0 (a_L 0) u_T ++ (cl_X5 g a_L u_L v_L ++ X)) [.ref (a_T 0)] r (cl_X4 g a_T p_T_0 (a_L 0) zu_T ++ (cl_X5 g a_L zu_L v_L ++ X)) := by
  refine tx_start (av := [.ref (a_T 0)]) (by decide) (Nat.le_of_ble_eq_true rfl) ?_
  intro p e s m below meth c ls S hr hlk hE hw hl
  have S : CallFix p m c cX4_takeClosing 1 s (List.toArray [.ref (a_T 0)]) (Cond.code yX4_takeClosing cX4_takeClosing 1 (some .int) :: allW) RX4 := S
  have hx := S.1
  have hb := S.2.1
  have hown := S.2.2.2.1
  have hts : ∀ w ∈ allW, w.before (List.toArray [.ref (a_T 0)]) s = true := fun w h => S.2.2.2.2 w (List.mem_cons_of_mem _ h)
  have hl : lv_has ls 1 [(0, .ref (a_T 0))] := hl
  unfold f_X4_takeClosing at hf
  refine lv_aload_n hx hb dX4_takeClosing_0 rfl (lv_at hl 0 rfl) ?_
  refine gf_X4_37 S hE hw 0 rfl rfl dX4_takeClosing_1 ?_
  refine lv_if_ne (tgt := 9) hx hb dX4_takeClosing_4 (by decide) (fun h_1 => ?_) (fun h_1 => ?_)
  · replace hf := tx_neg hf h_1
    refine lv_aload_n hx hb dX4_takeClosing_9 rfl (lv_at hl 0 rfl) ?_
    refine lv_iconst (v := 1) hx hb dX4_takeClosing_10 (by decide) ?_
    obtain ⟨u_T_3, u_L_4, h_2, hf⟩ := tx_b2_e hf
    refine tx_cv hw (tx_runV S hE hw (c_X4_release h_2) lk_X4_61 (q0 := 0) rfl rfl rfl hl.1 (rest := []) rfl (Nat.le_of_ble_eq_true rfl) ⟨by decide, by decide⟩ dX4_takeClosing_11 ⟨Nat.zero_le _, Nat.zero_le _⟩) (fun H locs hw => ?_)
    refine lv_aload_n hx hb dX4_takeClosing_14 rfl (lv_at hl 0 rfl) ?_
    refine lv_dup hx hb dX4_takeClosing_15 rfl ?_
    refine gf_X4_33 S hE hw 0 rfl rfl dX4_takeClosing_16 ?_
    refine lv_iconst (v := 1) hx hb dX4_takeClosing_19 (by decide) ?_
    refine lv_isub hx hb dX4_takeClosing_20 ?_
    obtain ⟨u_T_5, eu_T_5⟩ : ∃ z : S32, z = up2 u_T_3 0 2 ((u_T_3 0 2) - (1 : Int32)) := ⟨_, rfl⟩
    replace hf := tx_let_e hf eu_T_5
    refine pf_X4_33 (ws' := cl_X4 g a_T p_T_0 (a_L 0) u_T_5 ++ (cl_X5 g a_L u_L_4 v_L ++ X)) S hE hw rfl rfl 0 rfl (Nat.le_of_ble_eq_true rfl) (by rw [eu_T_5]; rfl) dX4_takeClosing_21 (fun H locs hw => ?_)
    refine lv_aload_n hx hb dX4_takeClosing_24 rfl (lv_at hl 0 rfl) ?_
    refine lv_dup hx hb dX4_takeClosing_25 rfl ?_
    refine gf_X4_37 S hE hw 0 rfl rfl dX4_takeClosing_26 ?_
    refine lv_iconst (v := 1) hx hb dX4_takeClosing_29 (by decide) ?_
    refine lv_isub hx hb dX4_takeClosing_30 ?_
    obtain ⟨u_T_6, eu_T_6⟩ : ∃ z : S32, z = up2 u_T_5 0 4 ((u_T_5 0 4) - (1 : Int32)) := ⟨_, rfl⟩
    replace hf := tx_let_e hf eu_T_6
    refine pf_X4_37 (ws' := cl_X4 g a_T p_T_0 (a_L 0) u_T_6 ++ (cl_X5 g a_L u_L_4 v_L ++ X)) S hE hw rfl rfl 0 rfl (Nat.le_of_ble_eq_true rfl) (by rw [eu_T_6]; rfl) dX4_takeClosing_31 (fun H locs hw => ?_)
    refine lv_iconst (v := 0) hx hb dX4_takeClosing_34 (by decide) ?_
    obtain ⟨e0, e1, e2⟩ := tx_in3 hf
    rw [← e0, ← e1, ← e2]
    exact tx_iret S hr hlk hw dX4_takeClosing_35
  · replace hf := tx_pos hf h_1
    refine lv_iconst (v := 1) hx hb dX4_takeClosing_7 (by decide) ?_
    obtain ⟨e0, e1, e2⟩ := tx_in3 hf
    rw [← e0, ← e1, ← e2]
    exact tx_iret S hr hlk hw dX4_takeClosing_8
def f_X4_takeNegation (fu : Nat) (u_T : S32) : Option (Int32 × S32) := if (u_T 0 5) < (64 : Int32) then (tx_let (up2 u_T 0 5 ((u_T 0 5) + (1 : Int32))) fun (u_T_2 : S32) => tx_b1 (f_X4_push fu u_T_2 (4 : Int32)) fun (u_T_4 : S32) => some ((0 : Int32), u_T_4)) else (some ((2 : Int32), u_T))
set_option maxHeartbeats 4000000 in
set_option maxRecDepth 100000 in
theorem c_X4_takeNegation {l : Launch} {g : GG} {A : Nat → Prop} {X : va_W} {fu : Nat} {a_T : Nat → Nat} {p_T_0 p_T_8 : Nat} {u_T : S32} {r : Int32} {zu_T : S32} (hf : f_X4_takeNegation fu  u_T = some (r, zu_T)) : MI l yX4_takeNegation cX4_takeNegation 1 (some .int) 1 g A (cl_X4 g a_T p_T_0 p_T_8 u_T ++ X) [.ref (a_T 0)] r (cl_X4 g a_T p_T_0 p_T_8 zu_T ++ X) := by
  refine tx_start (av := [.ref (a_T 0)]) (by decide) (Nat.le_of_ble_eq_true rfl) ?_
  intro p e s m below meth c ls S hr hlk hE hw hl
  have S : CallFix p m c cX4_takeNegation 1 s (List.toArray [.ref (a_T 0)]) (Cond.code yX4_takeNegation cX4_takeNegation 1 (some .int) :: allW) RX4 := S
  have hx := S.1
  have hb := S.2.1
  have hown := S.2.2.2.1
  have hts : ∀ w ∈ allW, w.before (List.toArray [.ref (a_T 0)]) s = true := fun w h => S.2.2.2.2 w (List.mem_cons_of_mem _ h)
  have hl : lv_has ls 1 [(0, .ref (a_T 0))] := hl
  unfold f_X4_takeNegation at hf
  refine lv_aload_n hx hb dX4_takeNegation_0 rfl (lv_at hl 0 rfl) ?_
  refine gf_X4_42 S hE hw 0 rfl rfl dX4_takeNegation_1 ?_
  refine lv_bipush (v := 64) hx hb dX4_takeNegation_4 (by decide) ?_
  refine lv_icmp_lt (tgt := 11) hx hb dX4_takeNegation_6 (by decide) (fun h_1 => ?_) (fun h_1 => ?_)
  · replace hf := tx_pos hf h_1
    refine lv_aload_n hx hb dX4_takeNegation_11 rfl (lv_at hl 0 rfl) ?_
    refine lv_dup hx hb dX4_takeNegation_12 rfl ?_
    refine gf_X4_42 S hE hw 0 rfl rfl dX4_takeNegation_13 ?_
    refine lv_iconst (v := 1) hx hb dX4_takeNegation_16 (by decide) ?_
    refine lv_iadd hx hb dX4_takeNegation_17 ?_
    obtain ⟨u_T_2, eu_T_2⟩ : ∃ z : S32, z = up2 u_T 0 5 ((u_T 0 5) + (1 : Int32)) := ⟨_, rfl⟩
    replace hf := tx_let_e hf eu_T_2
    refine pf_X4_42 (ws' := cl_X4 g a_T p_T_0 p_T_8 u_T_2 ++ X) S hE hw rfl rfl 0 rfl (Nat.le_of_ble_eq_true rfl) (by rw [eu_T_2]; rfl) dX4_takeNegation_18 (fun H locs hw => ?_)
    refine lv_aload_n hx hb dX4_takeNegation_21 rfl (lv_at hl 0 rfl) ?_
    refine lv_iconst (v := 4) hx hb dX4_takeNegation_22 (by decide) ?_
    obtain ⟨u_T_4, h_3, hf⟩ := tx_b1_e hf
    refine tx_cv hw (tx_runV S hE hw (c_X4_push h_3) lk_X4_102 (q0 := 0) rfl rfl rfl hl.1 (rest := []) rfl (Nat.le_of_ble_eq_true rfl) ⟨by decide, by decide⟩ dX4_takeNegation_23 ⟨Nat.zero_le _, Nat.zero_le _⟩) (fun H locs hw => ?_)
    refine lv_iconst (v := 0) hx hb dX4_takeNegation_26 (by decide) ?_
    obtain ⟨e0, e1⟩ := tx_in2 hf
    rw [← e0, ← e1]
    exact tx_iret S hr hlk hw dX4_takeNegation_27
  · replace hf := tx_neg hf h_1
    refine lv_iconst (v := 2) hx hb dX4_takeNegation_9 (by decide) ?_
    obtain ⟨e0, e1⟩ := tx_in2 hf
    rw [← e0, ← e1]
    exact tx_iret S hr hlk hw dX4_takeNegation_10
def f_X4_takeOpening_J50 (fu : Nat) (u_T : S32) : Option (Int32 × S32) := tx_b1 (f_X4_push fu u_T (15 : Int32)) fun (u_T_8 : S32) => tx_b1 (f_X4_expectOperand fu u_T_8 (1 : Int32)) fun (u_T_10 : S32) => some ((0 : Int32), u_T_10)
def f_X4_takeOpening (fu : Nat) (u_T : S32) : Option (Int32 × S32) := if (u_T 0 4) < (8 : Int32) then (tx_let (up2 u_T 0 4 ((u_T 0 4) + (1 : Int32))) fun (u_T_2 : S32) => if (u_T_2 0 4) < (0 : Int32) then (f_X4_takeOpening_J50 fu u_T_2) else (if (9 : Int32) ≤ (u_T_2 0 4) then (f_X4_takeOpening_J50 fu u_T_2) else (tx_ck (u_T_2 0 4) 9 <| tx_let (up2 u_T_2 4 (u_T_2 0 4).toNatClampNeg ((0 : Int32) &&& 1)) fun (u_T_6 : S32) => f_X4_takeOpening_J50 fu u_T_6))) else (some ((2 : Int32), u_T))
set_option maxHeartbeats 4000000 in
set_option maxRecDepth 100000 in
theorem c_X4_takeOpening {l : Launch} {g : GG} {A : Nat → Prop} {X : va_W} {fu : Nat} {a_T : Nat → Nat} {p_T_0 p_T_8 : Nat} {u_T : S32} {r : Int32} {zu_T : S32} (hf : f_X4_takeOpening fu  u_T = some (r, zu_T)) : MI l yX4_takeOpening cX4_takeOpening 1 (some .int) 1 g A (cl_X4 g a_T p_T_0 p_T_8 u_T ++ X) [.ref (a_T 0)] r (cl_X4 g a_T p_T_0 p_T_8 zu_T ++ X) := by
  refine tx_start (av := [.ref (a_T 0)]) (by decide) (Nat.le_of_ble_eq_true rfl) ?_
  intro p e s m below meth c ls S hr hlk hE hw hl
  have S : CallFix p m c cX4_takeOpening 1 s (List.toArray [.ref (a_T 0)]) (Cond.code yX4_takeOpening cX4_takeOpening 1 (some .int) :: allW) RX4 := S
  have hx := S.1
  have hb := S.2.1
  have hown := S.2.2.2.1
  have hts : ∀ w ∈ allW, w.before (List.toArray [.ref (a_T 0)]) s = true := fun w h => S.2.2.2.2 w (List.mem_cons_of_mem _ h)
  have hl : lv_has ls 1 [(0, .ref (a_T 0))] := hl
  have J50 : ∀ {u_T : S32} {H : Heap} {locs : List Loc} {ls : Array Slot}, f_X4_takeOpening_J50 fu u_T = some (r, zu_T) → WD g A s.heap (cl_X4 g a_T p_T_0 p_T_8 u_T ++ X) H locs → lv_has ls 1 [(0, .ref (a_T 0))] → W p l e (rmH 1) s m (List.toArray [.ref (a_T 0)]) below meth c H locs 0 0 (MQ below (va_Qi (fun r2 (_ : Unit) => r2 = r) (fun _ t => POST g A (cl_X4 g a_T p_T_0 p_T_8 zu_T ++ X) t) A) (List.toArray [.ref (a_T 0)]) s 0 0 A) (F0 m 50 ls []) := by
    intro u_T H locs ls hf hw hl
    unfold f_X4_takeOpening_J50 at hf
    refine lv_aload_n hx hb dX4_takeOpening_50 rfl (lv_at hl 0 rfl) ?_
    refine lv_bipush (v := 15) hx hb dX4_takeOpening_51 (by decide) ?_
    obtain ⟨u_T_8, h_7, hf⟩ := tx_b1_e hf
    refine tx_cv hw (tx_runV S hE hw (c_X4_push h_7) lk_X4_102 (q0 := 0) rfl rfl rfl hl.1 (rest := []) rfl (Nat.le_of_ble_eq_true rfl) ⟨by decide, by decide⟩ dX4_takeOpening_53 ⟨Nat.zero_le _, Nat.zero_le _⟩) (fun H locs hw => ?_)
    refine lv_aload_n hx hb dX4_takeOpening_56 rfl (lv_at hl 0 rfl) ?_
    refine lv_iconst (v := 1) hx hb dX4_takeOpening_57 (by decide) ?_
    obtain ⟨u_T_10, h_9, hf⟩ := tx_b1_e hf
    refine tx_cv hw (tx_runV S hE hw (c_X4_expectOperand h_9) lk_X4_45 (q0 := 0) rfl rfl rfl hl.1 (rest := []) rfl (Nat.le_of_ble_eq_true rfl) ⟨by decide, by decide⟩ dX4_takeOpening_58 ⟨Nat.zero_le _, Nat.zero_le _⟩) (fun H locs hw => ?_)
    refine lv_iconst (v := 0) hx hb dX4_takeOpening_61 (by decide) ?_
    obtain ⟨e0, e1⟩ := tx_in2 hf
    rw [← e0, ← e1]
    exact tx_iret S hr hlk hw dX4_takeOpening_62
  unfold f_X4_takeOpening at hf
  refine lv_aload_n hx hb dX4_takeOpening_0 rfl (lv_at hl 0 rfl) ?_
  refine gf_X4_37 S hE hw 0 rfl rfl dX4_takeOpening_1 ?_
  refine lv_bipush (v := 8) hx hb dX4_takeOpening_4 (by decide) ?_
  refine lv_icmp_lt (tgt := 11) hx hb dX4_takeOpening_6 (by decide) (fun h_1 => ?_) (fun h_1 => ?_)
  · replace hf := tx_pos hf h_1
    refine lv_aload_n hx hb dX4_takeOpening_11 rfl (lv_at hl 0 rfl) ?_
    refine lv_dup hx hb dX4_takeOpening_12 rfl ?_
    refine gf_X4_37 S hE hw 0 rfl rfl dX4_takeOpening_13 ?_
    refine lv_iconst (v := 1) hx hb dX4_takeOpening_16 (by decide) ?_
    refine lv_iadd hx hb dX4_takeOpening_17 ?_
    obtain ⟨u_T_2, eu_T_2⟩ : ∃ z : S32, z = up2 u_T 0 4 ((u_T 0 4) + (1 : Int32)) := ⟨_, rfl⟩
    replace hf := tx_let_e hf eu_T_2
    refine pf_X4_37 (ws' := cl_X4 g a_T p_T_0 p_T_8 u_T_2 ++ X) S hE hw rfl rfl 0 rfl (Nat.le_of_ble_eq_true rfl) (by rw [eu_T_2]; rfl) dX4_takeOpening_18 (fun H locs hw => ?_)
    refine lv_aload_n hx hb dX4_takeOpening_21 rfl (lv_at hl 0 rfl) ?_
    refine gf_X4_37 S hE hw 0 rfl rfl dX4_takeOpening_22 ?_
    refine lv_if_lt (tgt := 50) hx hb dX4_takeOpening_25 (by decide) (fun h_3 => ?_) (fun h_3 => ?_)
    · replace hf := tx_pos hf h_3
      exact J50 hf hw (lv_sub hl [0] rfl)
    · replace hf := tx_neg hf h_3
      refine lv_aload_n hx hb dX4_takeOpening_28 rfl (lv_at hl 0 rfl) ?_
      refine gf_X4_37 S hE hw 0 rfl rfl dX4_takeOpening_29 ?_
      refine lv_aload_n hx hb dX4_takeOpening_32 rfl (lv_at hl 0 rfl) ?_
      refine gf_X4_17 S hE hw 0 rfl rfl dX4_takeOpening_33 ?_
      refine tx_alen (v := 9) S hE hw 2 3 rfl rfl rfl dX4_takeOpening_36 ?_
      refine lv_icmp_ge (tgt := 50) hx hb dX4_takeOpening_37 (by decide) (fun h_4 => ?_) (fun h_4 => ?_)
      · replace hf := tx_pos hf h_4
        exact J50 hf hw (lv_sub hl [0] rfl)
      · replace hf := tx_neg hf h_4
        refine lv_aload_n hx hb dX4_takeOpening_40 rfl (lv_at hl 0 rfl) ?_
        refine gf_X4_17 S hE hw 0 rfl rfl dX4_takeOpening_41 ?_
        refine lv_aload_n hx hb dX4_takeOpening_44 rfl (lv_at hl 0 rfl) ?_
        refine gf_X4_37 S hE hw 0 rfl rfl dX4_takeOpening_45 ?_
        refine lv_iconst (v := 0) hx hb dX4_takeOpening_48 (by decide) ?_
        obtain ⟨h_5, hf⟩ := tx_ck_e hf
        obtain ⟨u_T_6, eu_T_6⟩ : ∃ z : S32, z = up2 u_T_2 4 (u_T_2 0 4).toNatClampNeg ((0 : Int32) &&& 1) := ⟨_, rfl⟩
        replace hf := tx_let_e hf eu_T_6
        refine tx_zast (ws' := cl_X4 g a_T p_T_0 p_T_8 u_T_6 ++ X) S hE hw 2 rfl h_5 (by rw [eu_T_6]; rfl) dX4_takeOpening_49 (fun H locs hw => ?_)
        exact J50 hf hw (lv_sub hl [0] rfl)
  · replace hf := tx_neg hf h_1
    refine lv_iconst (v := 2) hx hb dX4_takeOpening_9 (by decide) ?_
    obtain ⟨e0, e1⟩ := tx_in2 hf
    rw [← e0, ← e1]
    exact tx_iret S hr hlk hw dX4_takeOpening_10
def f_X4_takeOperand_J188 (fu : Nat) (u_K : S32) (v_L : S64) (u_T : S32) (u_L : S32) (t1 : Int32) (t2 : Int32) : Option (Int32 × S32 × S32) := tx_b1 (f_X5_add fu v_L u_L t1 t2) fun (u_L_27 : S32) => tx_let (up2 u_T 0 6 (0 : Int32)) fun (u_T_28 : S32) => some ((0 : Int32), u_T_28, u_L_27)
def f_X4_takeOperand_J164 (fu : Nat) (u_K : S32) (v_L : S64) (u_T : S32) (u_L : S32) (w1 : Int32) (t1 : Int32) : Option (Int32 × S32 × S32) := if w1 = (0 : Int32) then (f_X4_takeOperand_J188 fu u_K v_L u_T u_L t1 ((u_K 0 5) - (13 : Int32))) else (f_X4_takeOperand_J188 fu u_K v_L u_T u_L t1 (u_K 0 5))
def f_X4_takeOperand_J141 (fu : Nat) (u_K : S32) (v_L : S64) (u_T : S32) (u_L : S32) (w1 : Int32) : Option (Int32 × S32 × S32) := tx_let (up2 u_T 0 5 ((u_T 0 5) + (1 : Int32))) fun (u_T_23 : S32) => if w1 = (0 : Int32) then (f_X4_takeOperand_J164 fu u_K v_L u_T_23 u_L w1 (1 : Int32)) else (f_X4_takeOperand_J164 fu u_K v_L u_T_23 u_L w1 (0 : Int32))
def f_X4_takeOperand_J113 (fu : Nat) (u_K : S32) (v_L : S64) (u_T : S32) (u_L : S32) (w1 : Int32) : Option (Int32 × S32 × S32) := if (64 : Int32) ≤ (u_T 0 5) then (some ((2 : Int32), u_T, u_L)) else (if w1 = (0 : Int32) then (f_X4_takeOperand_J141 fu u_K v_L u_T u_L w1) else (if (u_K 0 5) ≤ (9999 : Int32) then (f_X4_takeOperand_J141 fu u_K v_L u_T u_L w1) else (some ((2 : Int32), u_T, u_L))))
def f_X4_takeOperand_J102 (fu : Nat) (u_K : S32) (v_L : S64) (u_T : S32) (u_L : S32) (w1 : Int32) (t0 : Int32) : Option (Int32 × S32 × S32) := if w1 = (0 : Int32) then (if t0 = (0 : Int32) then (some ((1 : Int32), u_T, u_L)) else (f_X4_takeOperand_J113 fu u_K v_L u_T u_L w1)) else (f_X4_takeOperand_J113 fu u_K v_L u_T u_L w1)
def f_X4_takeOperand_J101 (fu : Nat) (u_K : S32) (v_L : S64) (u_T : S32) (u_L : S32) (w1 : Int32) : Option (Int32 × S32 × S32) := f_X4_takeOperand_J102 fu u_K v_L u_T u_L w1 (0 : Int32)
def f_X4_takeOperand_J61 (fu : Nat) (u_K : S32) (v_L : S64) (u_T : S32) (u_L : S32) (t0 : Int32) : Option (Int32 × S32 × S32) := if (u_K 0 4) = (4 : Int32) then (if (u_K 0 5) < (13 : Int32) then (f_X4_takeOperand_J101 fu u_K v_L u_T u_L t0) else (if (19 : Int32) < (u_K 0 5) then (f_X4_takeOperand_J101 fu u_K v_L u_T u_L t0) else (f_X4_takeOperand_J102 fu u_K v_L u_T u_L t0 (1 : Int32)))) else (f_X4_takeOperand_J101 fu u_K v_L u_T u_L t0)
def f_X4_takeOperand (fu : Nat) (u_K : S32) (v_L : S64) (u_T : S32) (u_L : S32) : Option (Int32 × S32 × S32) := tx_b1 (f_X8_isSign fu u_K (15 : Int32)) fun (r_2 : Int32) => if r_2 = (0 : Int32) then (tx_b1 (f_X8_isWord fu u_K (12 : Int32)) fun (r_5 : Int32) => if r_5 = (0 : Int32) then (if (u_K 0 4) = (2 : Int32) then (f_X4_takeOperand_J61 fu u_K v_L u_T u_L (1 : Int32)) else (f_X4_takeOperand_J61 fu u_K v_L u_T u_L (0 : Int32))) else (if (u_T 0 7) = (0 : Int32) then (some ((1 : Int32), u_T, u_L)) else (tx_b2 (f_X4_takeNegation fu u_T) fun (r_10 : Int32) (u_T_11 : S32) => some (r_10, u_T_11, u_L)))) else (tx_b2 (f_X4_takeOpening fu u_T) fun (r_13 : Int32) (u_T_14 : S32) => some (r_13, u_T_14, u_L))
set_option maxHeartbeats 4000000 in
set_option maxRecDepth 100000 in
theorem c_X4_takeOperand {l : Launch} {g : GG} {A : Nat → Prop} {X : va_W} {fu : Nat} {a_T a_K a_L : Nat → Nat} {p_K_0 : Nat} {u_T : S32} {u_K : S32} {u_L : S32} {v_L : S64} {r : Int32} {zu_T : S32} {zu_L : S32} (hf : f_X4_takeOperand fu u_K v_L u_T u_L = some (r, zu_T, zu_L)) : MI l yX4_takeOperand cX4_takeOperand 3 (some .int) 2 g A (cl_X4 g a_T (a_K 0) (a_L 0) u_T ++ (cl_X8 g a_K p_K_0 u_K ++ (cl_X5 g a_L u_L v_L ++ X))) [.ref (a_T 0)] r (cl_X4 g a_T (a_K 0) (a_L 0) zu_T ++ (cl_X8 g a_K p_K_0 u_K ++ (cl_X5 g a_L zu_L v_L ++ X))) := by
  refine tx_start (av := [.ref (a_T 0)]) (by decide) (Nat.le_of_ble_eq_true rfl) ?_
  intro p e s m below meth c ls S hr hlk hE hw hl
  have S : CallFix p m c cX4_takeOperand 3 s (List.toArray [.ref (a_T 0)]) (Cond.code yX4_takeOperand cX4_takeOperand 3 (some .int) :: allW) RX4 := S
  have hx := S.1
  have hb := S.2.1
  have hown := S.2.2.2.1
  have hts : ∀ w ∈ allW, w.before (List.toArray [.ref (a_T 0)]) s = true := fun w h => S.2.2.2.2 w (List.mem_cons_of_mem _ h)
  have hl : lv_has ls 3 [(0, .ref (a_T 0))] := hl
  have J188 : ∀ {u_T : S32} {u_L : S32} {t1 : Int32} {t2 : Int32} {H : Heap} {locs : List Loc} {ls : Array Slot}, f_X4_takeOperand_J188 fu u_K v_L u_T u_L t1 t2 = some (r, zu_T, zu_L) → WD g A s.heap (cl_X4 g a_T (a_K 0) (a_L 0) u_T ++ (cl_X8 g a_K p_K_0 u_K ++ (cl_X5 g a_L u_L v_L ++ X))) H locs → lv_has ls 3 [(0, .ref (a_T 0))] → W p l e (rmH 2) s m (List.toArray [.ref (a_T 0)]) below meth c H locs 0 0 (MQ below (va_Qi (fun r2 (_ : Unit) => r2 = r) (fun _ t => POST g A (cl_X4 g a_T (a_K 0) (a_L 0) zu_T ++ (cl_X8 g a_K p_K_0 u_K ++ (cl_X5 g a_L zu_L v_L ++ X))) t) A) (List.toArray [.ref (a_T 0)]) s 0 0 A) (F0 m 188 ls [.int t2, .int t1, .ref (a_L 0)]) := by
    intro u_T u_L t1 t2 H locs ls hf hw hl
    unfold f_X4_takeOperand_J188 at hf
    have hw := hw.u2
    obtain ⟨u_L_27, h_26, hf⟩ := tx_b1_e hf
    refine tx_cv hw (tx_runN S hE hw (c_X5_add h_26) lk_X4_98 (q0 := 0) rfl rfl rfl hl.1 (rest := []) rfl (Nat.le_of_ble_eq_true rfl) ⟨by decide, by decide⟩ dX4_takeOperand_188 ⟨Nat.zero_le _, Nat.zero_le _⟩) (fun H locs hw => ?_)
    refine lv_aload_n hx hb dX4_takeOperand_191 rfl (lv_at hl 0 rfl) ?_
    refine lv_iconst (v := 0) hx hb dX4_takeOperand_192 (by decide) ?_
    obtain ⟨u_T_28, eu_T_28⟩ : ∃ z : S32, z = up2 u_T 0 6 (0 : Int32) := ⟨_, rfl⟩
    replace hf := tx_let_e hf eu_T_28
    refine pf_X4_51 (ws' := cl_X5 g a_L u_L_27 v_L ++ (cl_X4 g a_T (a_K 0) (a_L 0) u_T_28 ++ (cl_X8 g a_K p_K_0 u_K ++ X))) S hE hw (by decide) (by decide) 6 rfl (Nat.le_of_ble_eq_true rfl) (by rw [eu_T_28]; rfl) dX4_takeOperand_193 (fun H locs hw => ?_)
    refine lv_iconst (v := 0) hx hb dX4_takeOperand_196 (by decide) ?_
    have hw := hw.u2
    have hw := hw.u2
    obtain ⟨e0, e1, e2⟩ := tx_in3 hf
    rw [← e0, ← e1, ← e2]
    exact tx_iret S hr hlk hw dX4_takeOperand_197
  have J164 : ∀ {u_T : S32} {u_L : S32} {w1 : Int32} {t1 : Int32} {H : Heap} {locs : List Loc} {ls : Array Slot}, f_X4_takeOperand_J164 fu u_K v_L u_T u_L w1 t1 = some (r, zu_T, zu_L) → WD g A s.heap (cl_X4 g a_T (a_K 0) (a_L 0) u_T ++ (cl_X8 g a_K p_K_0 u_K ++ (cl_X5 g a_L u_L v_L ++ X))) H locs → lv_has ls 3 [(0, .ref (a_T 0)), (1, .int w1)] → W p l e (rmH 2) s m (List.toArray [.ref (a_T 0)]) below meth c H locs 0 0 (MQ below (va_Qi (fun r2 (_ : Unit) => r2 = r) (fun _ t => POST g A (cl_X4 g a_T (a_K 0) (a_L 0) zu_T ++ (cl_X8 g a_K p_K_0 u_K ++ (cl_X5 g a_L zu_L v_L ++ X))) t) A) (List.toArray [.ref (a_T 0)]) s 0 0 A) (F0 m 164 ls [.int t1, .ref (a_L 0)]) := by
    intro u_T u_L w1 t1 H locs ls hf hw hl
    unfold f_X4_takeOperand_J164 at hf
    refine lv_iload_n hx hb dX4_takeOperand_164 rfl (lv_at hl 1 rfl) ?_
    refine lv_if_eq (tgt := 178) hx hb dX4_takeOperand_165 (by decide) (fun h_25 => ?_) (fun h_25 => ?_)
    · replace hf := tx_pos hf h_25
      refine lv_aload_n hx hb dX4_takeOperand_178 rfl (lv_at hl 0 rfl) ?_
      refine gf_X4_21 S hE hw 0 rfl rfl dX4_takeOperand_179 ?_
      refine gf_X4_95 S hE hw 3 rfl rfl dX4_takeOperand_182 ?_
      refine lv_bipush (v := 13) hx hb dX4_takeOperand_185 (by decide) ?_
      refine lv_isub hx hb dX4_takeOperand_187 ?_
      exact J188 hf hw (lv_sub hl [0] rfl)
    · replace hf := tx_neg hf h_25
      refine lv_aload_n hx hb dX4_takeOperand_168 rfl (lv_at hl 0 rfl) ?_
      refine gf_X4_21 S hE hw 0 rfl rfl dX4_takeOperand_169 ?_
      refine gf_X4_95 S hE hw 3 rfl rfl dX4_takeOperand_172 ?_
      refine lv_goto (tgt := 188) hx hb dX4_takeOperand_175 (by decide) ?_
      exact J188 hf hw (lv_sub hl [0] rfl)
  have J141 : ∀ {u_T : S32} {u_L : S32} {w1 : Int32} {H : Heap} {locs : List Loc} {ls : Array Slot}, f_X4_takeOperand_J141 fu u_K v_L u_T u_L w1 = some (r, zu_T, zu_L) → WD g A s.heap (cl_X4 g a_T (a_K 0) (a_L 0) u_T ++ (cl_X8 g a_K p_K_0 u_K ++ (cl_X5 g a_L u_L v_L ++ X))) H locs → lv_has ls 3 [(0, .ref (a_T 0)), (1, .int w1)] → W p l e (rmH 2) s m (List.toArray [.ref (a_T 0)]) below meth c H locs 0 0 (MQ below (va_Qi (fun r2 (_ : Unit) => r2 = r) (fun _ t => POST g A (cl_X4 g a_T (a_K 0) (a_L 0) zu_T ++ (cl_X8 g a_K p_K_0 u_K ++ (cl_X5 g a_L zu_L v_L ++ X))) t) A) (List.toArray [.ref (a_T 0)]) s 0 0 A) (F0 m 141 ls []) := by
    intro u_T u_L w1 H locs ls hf hw hl
    unfold f_X4_takeOperand_J141 at hf
    refine lv_aload_n hx hb dX4_takeOperand_141 rfl (lv_at hl 0 rfl) ?_
    refine lv_dup hx hb dX4_takeOperand_142 rfl ?_
    refine gf_X4_42 S hE hw 0 rfl rfl dX4_takeOperand_143 ?_
    refine lv_iconst (v := 1) hx hb dX4_takeOperand_146 (by decide) ?_
    refine lv_iadd hx hb dX4_takeOperand_147 ?_
    obtain ⟨u_T_23, eu_T_23⟩ : ∃ z : S32, z = up2 u_T 0 5 ((u_T 0 5) + (1 : Int32)) := ⟨_, rfl⟩
    replace hf := tx_let_e hf eu_T_23
    refine pf_X4_42 (ws' := cl_X4 g a_T (a_K 0) (a_L 0) u_T_23 ++ (cl_X8 g a_K p_K_0 u_K ++ (cl_X5 g a_L u_L v_L ++ X))) S hE hw rfl rfl 0 rfl (Nat.le_of_ble_eq_true rfl) (by rw [eu_T_23]; rfl) dX4_takeOperand_148 (fun H locs hw => ?_)
    refine lv_aload_n hx hb dX4_takeOperand_151 rfl (lv_at hl 0 rfl) ?_
    refine gf_X4_25 S hE hw 0 rfl rfl dX4_takeOperand_152 ?_
    refine lv_iload_n hx hb dX4_takeOperand_155 rfl (lv_at hl 1 rfl) ?_
    refine lv_if_eq (tgt := 163) hx hb dX4_takeOperand_156 (by decide) (fun h_24 => ?_) (fun h_24 => ?_)
    · replace hf := tx_pos hf h_24
      refine lv_iconst (v := 1) hx hb dX4_takeOperand_163 (by decide) ?_
      exact J164 hf hw (lv_sub hl [0, 1] rfl)
    · replace hf := tx_neg hf h_24
      refine lv_iconst (v := 0) hx hb dX4_takeOperand_159 (by decide) ?_
      refine lv_goto (tgt := 164) hx hb dX4_takeOperand_160 (by decide) ?_
      exact J164 hf hw (lv_sub hl [0, 1] rfl)
  have J113 : ∀ {u_T : S32} {u_L : S32} {w1 : Int32} {H : Heap} {locs : List Loc} {ls : Array Slot}, f_X4_takeOperand_J113 fu u_K v_L u_T u_L w1 = some (r, zu_T, zu_L) → WD g A s.heap (cl_X4 g a_T (a_K 0) (a_L 0) u_T ++ (cl_X8 g a_K p_K_0 u_K ++ (cl_X5 g a_L u_L v_L ++ X))) H locs → lv_has ls 3 [(0, .ref (a_T 0)), (1, .int w1)] → W p l e (rmH 2) s m (List.toArray [.ref (a_T 0)]) below meth c H locs 0 0 (MQ below (va_Qi (fun r2 (_ : Unit) => r2 = r) (fun _ t => POST g A (cl_X4 g a_T (a_K 0) (a_L 0) zu_T ++ (cl_X8 g a_K p_K_0 u_K ++ (cl_X5 g a_L zu_L v_L ++ X))) t) A) (List.toArray [.ref (a_T 0)]) s 0 0 A) (F0 m 113 ls []) := by
    intro u_T u_L w1 H locs ls hf hw hl
    unfold f_X4_takeOperand_J113 at hf
    refine lv_aload_n hx hb dX4_takeOperand_113 rfl (lv_at hl 0 rfl) ?_
    refine gf_X4_42 S hE hw 0 rfl rfl dX4_takeOperand_114 ?_
    refine lv_bipush (v := 64) hx hb dX4_takeOperand_117 (by decide) ?_
    refine lv_icmp_ge (tgt := 139) hx hb dX4_takeOperand_119 (by decide) (fun h_20 => ?_) (fun h_20 => ?_)
    · replace hf := tx_pos hf h_20
      refine lv_iconst (v := 2) hx hb dX4_takeOperand_139 (by decide) ?_
      obtain ⟨e0, e1, e2⟩ := tx_in3 hf
      rw [← e0, ← e1, ← e2]
      exact tx_iret S hr hlk hw dX4_takeOperand_140
    · replace hf := tx_neg hf h_20
      refine lv_iload_n hx hb dX4_takeOperand_122 rfl (lv_at hl 1 rfl) ?_
      refine lv_if_eq (tgt := 141) hx hb dX4_takeOperand_123 (by decide) (fun h_21 => ?_) (fun h_21 => ?_)
      · replace hf := tx_pos hf h_21
        exact J141 hf hw (lv_sub hl [0, 1] rfl)
      · replace hf := tx_neg hf h_21
        refine lv_aload_n hx hb dX4_takeOperand_126 rfl (lv_at hl 0 rfl) ?_
        refine gf_X4_21 S hE hw 0 rfl rfl dX4_takeOperand_127 ?_
        refine gf_X4_95 S hE hw 3 rfl rfl dX4_takeOperand_130 ?_
        refine lv_sipush (v := 9999) hx hb dX4_takeOperand_133 (by decide) ?_
        refine lv_icmp_le (tgt := 141) hx hb dX4_takeOperand_136 (by decide) (fun h_22 => ?_) (fun h_22 => ?_)
        · replace hf := tx_pos hf h_22
          exact J141 hf hw (lv_sub hl [0, 1] rfl)
        · replace hf := tx_neg hf h_22
          refine lv_iconst (v := 2) hx hb dX4_takeOperand_139 (by decide) ?_
          obtain ⟨e0, e1, e2⟩ := tx_in3 hf
          rw [← e0, ← e1, ← e2]
          exact tx_iret S hr hlk hw dX4_takeOperand_140
  have J102 : ∀ {u_T : S32} {u_L : S32} {w1 : Int32} {t0 : Int32} {H : Heap} {locs : List Loc} {ls : Array Slot}, f_X4_takeOperand_J102 fu u_K v_L u_T u_L w1 t0 = some (r, zu_T, zu_L) → WD g A s.heap (cl_X4 g a_T (a_K 0) (a_L 0) u_T ++ (cl_X8 g a_K p_K_0 u_K ++ (cl_X5 g a_L u_L v_L ++ X))) H locs → lv_has ls 3 [(0, .ref (a_T 0)), (1, .int w1)] → W p l e (rmH 2) s m (List.toArray [.ref (a_T 0)]) below meth c H locs 0 0 (MQ below (va_Qi (fun r2 (_ : Unit) => r2 = r) (fun _ t => POST g A (cl_X4 g a_T (a_K 0) (a_L 0) zu_T ++ (cl_X8 g a_K p_K_0 u_K ++ (cl_X5 g a_L zu_L v_L ++ X))) t) A) (List.toArray [.ref (a_T 0)]) s 0 0 A) (F0 m 102 ls [.int t0]) := by
    intro u_T u_L w1 t0 H locs ls hf hw hl
    unfold f_X4_takeOperand_J102 at hf
    refine lv_istore_n (lv' := [(2, .int t0), (0, .ref (a_T 0)), (1, .int w1)]) hx hb dX4_takeOperand_102 rfl hl (by decide) rfl (fun ls hl => ?_)
    refine lv_iload_n hx hb dX4_takeOperand_103 rfl (lv_at hl 2 rfl) ?_
    refine lv_if_ne (tgt := 113) hx hb dX4_takeOperand_104 (by decide) (fun h_18 => ?_) (fun h_18 => ?_)
    · replace hf := tx_neg hf h_18
      exact J113 hf hw (lv_sub hl [1, 2] rfl)
    · replace hf := tx_pos hf h_18
      refine lv_iload_n hx hb dX4_takeOperand_107 rfl (lv_at hl 0 rfl) ?_
      refine lv_if_ne (tgt := 113) hx hb dX4_takeOperand_108 (by decide) (fun h_19 => ?_) (fun h_19 => ?_)
      · replace hf := tx_neg hf h_19
        exact J113 hf hw (lv_sub hl [1, 2] rfl)
      · replace hf := tx_pos hf h_19
        refine lv_iconst (v := 1) hx hb dX4_takeOperand_111 (by decide) ?_
        obtain ⟨e0, e1, e2⟩ := tx_in3 hf
        rw [← e0, ← e1, ← e2]
        exact tx_iret S hr hlk hw dX4_takeOperand_112
  have J101 : ∀ {u_T : S32} {u_L : S32} {w1 : Int32} {H : Heap} {locs : List Loc} {ls : Array Slot}, f_X4_takeOperand_J101 fu u_K v_L u_T u_L w1 = some (r, zu_T, zu_L) → WD g A s.heap (cl_X4 g a_T (a_K 0) (a_L 0) u_T ++ (cl_X8 g a_K p_K_0 u_K ++ (cl_X5 g a_L u_L v_L ++ X))) H locs → lv_has ls 3 [(0, .ref (a_T 0)), (1, .int w1)] → W p l e (rmH 2) s m (List.toArray [.ref (a_T 0)]) below meth c H locs 0 0 (MQ below (va_Qi (fun r2 (_ : Unit) => r2 = r) (fun _ t => POST g A (cl_X4 g a_T (a_K 0) (a_L 0) zu_T ++ (cl_X8 g a_K p_K_0 u_K ++ (cl_X5 g a_L zu_L v_L ++ X))) t) A) (List.toArray [.ref (a_T 0)]) s 0 0 A) (F0 m 101 ls []) := by
    intro u_T u_L w1 H locs ls hf hw hl
    unfold f_X4_takeOperand_J101 at hf
    refine lv_iconst (v := 0) hx hb dX4_takeOperand_101 (by decide) ?_
    exact J102 hf hw (lv_sub hl [0, 1] rfl)
  have J61 : ∀ {u_T : S32} {u_L : S32} {t0 : Int32} {H : Heap} {locs : List Loc} {ls : Array Slot}, f_X4_takeOperand_J61 fu u_K v_L u_T u_L t0 = some (r, zu_T, zu_L) → WD g A s.heap (cl_X4 g a_T (a_K 0) (a_L 0) u_T ++ (cl_X8 g a_K p_K_0 u_K ++ (cl_X5 g a_L u_L v_L ++ X))) H locs → lv_has ls 3 [(0, .ref (a_T 0))] → W p l e (rmH 2) s m (List.toArray [.ref (a_T 0)]) below meth c H locs 0 0 (MQ below (va_Qi (fun r2 (_ : Unit) => r2 = r) (fun _ t => POST g A (cl_X4 g a_T (a_K 0) (a_L 0) zu_T ++ (cl_X8 g a_K p_K_0 u_K ++ (cl_X5 g a_L zu_L v_L ++ X))) t) A) (List.toArray [.ref (a_T 0)]) s 0 0 A) (F0 m 61 ls [.int t0]) := by
    intro u_T u_L t0 H locs ls hf hw hl
    unfold f_X4_takeOperand_J61 at hf
    refine lv_istore_n (lv' := [(1, .int t0), (0, .ref (a_T 0))]) hx hb dX4_takeOperand_61 rfl hl (by decide) rfl (fun ls hl => ?_)
    refine lv_aload_n hx hb dX4_takeOperand_62 rfl (lv_at hl 1 rfl) ?_
    refine gf_X4_21 S hE hw 0 rfl rfl dX4_takeOperand_63 ?_
    refine gf_X4_92 S hE hw 3 rfl rfl dX4_takeOperand_66 ?_
    refine lv_iconst (v := 4) hx hb dX4_takeOperand_69 (by decide) ?_
    refine lv_icmp_ne (tgt := 101) hx hb dX4_takeOperand_70 (by decide) (fun h_15 => ?_) (fun h_15 => ?_)
    · replace hf := tx_neg hf h_15
      exact J101 hf hw (lv_sub hl [1, 0] rfl)
    · replace hf := tx_pos hf h_15
      refine lv_aload_n hx hb dX4_takeOperand_73 rfl (lv_at hl 1 rfl) ?_
      refine gf_X4_21 S hE hw 0 rfl rfl dX4_takeOperand_74 ?_
      refine gf_X4_95 S hE hw 3 rfl rfl dX4_takeOperand_77 ?_
      refine lv_bipush (v := 13) hx hb dX4_takeOperand_80 (by decide) ?_
      refine lv_icmp_lt (tgt := 101) hx hb dX4_takeOperand_82 (by decide) (fun h_16 => ?_) (fun h_16 => ?_)
      · replace hf := tx_pos hf h_16
        exact J101 hf hw (lv_sub hl [1, 0] rfl)
      · replace hf := tx_neg hf h_16
        refine lv_aload_n hx hb dX4_takeOperand_85 rfl (lv_at hl 1 rfl) ?_
        refine gf_X4_21 S hE hw 0 rfl rfl dX4_takeOperand_86 ?_
        refine gf_X4_95 S hE hw 3 rfl rfl dX4_takeOperand_89 ?_
        refine lv_bipush (v := 19) hx hb dX4_takeOperand_92 (by decide) ?_
        refine lv_icmp_gt (tgt := 101) hx hb dX4_takeOperand_94 (by decide) (fun h_17 => ?_) (fun h_17 => ?_)
        · replace hf := tx_pos hf h_17
          exact J101 hf hw (lv_sub hl [1, 0] rfl)
        · replace hf := tx_neg hf h_17
          refine lv_iconst (v := 1) hx hb dX4_takeOperand_97 (by decide) ?_
          refine lv_goto (tgt := 102) hx hb dX4_takeOperand_98 (by decide) ?_
          exact J102 hf hw (lv_sub hl [1, 0] rfl)
  unfold f_X4_takeOperand at hf
  refine lv_aload_n hx hb dX4_takeOperand_0 rfl (lv_at hl 0 rfl) ?_
  refine gf_X4_21 S hE hw 0 rfl rfl dX4_takeOperand_1 ?_
  refine lv_bipush (v := 15) hx hb dX4_takeOperand_4 (by decide) ?_
  have hw := hw.u1
  obtain ⟨r_2, h_1, hf⟩ := tx_b1_e hf
  refine tx_ci hw (tx_runN S hE hw (c_X8_isSign h_1) lk_X4_55 (q0 := 0) rfl rfl rfl hl.1 (rest := []) rfl (Nat.le_of_ble_eq_true rfl) ⟨by decide, by decide⟩ dX4_takeOperand_6 ⟨Nat.zero_le _, Nat.zero_le _⟩) (fun H locs hw => ?_)
  refine lv_if_eq (tgt := 17) hx hb dX4_takeOperand_9 (by decide) (fun h_3 => ?_) (fun h_3 => ?_)
  · replace hf := tx_pos hf h_3
    refine lv_aload_n hx hb dX4_takeOperand_17 rfl (lv_at hl 0 rfl) ?_
    refine gf_X4_21 S hE hw 1 rfl rfl dX4_takeOperand_18 ?_
    refine lv_bipush (v := 12) hx hb dX4_takeOperand_21 (by decide) ?_
    obtain ⟨r_5, h_4, hf⟩ := tx_b1_e hf
    refine tx_ci hw (tx_runN S hE hw (c_X8_isWord h_4) lk_X4_86 (q0 := 0) rfl rfl rfl hl.1 (rest := []) rfl (Nat.le_of_ble_eq_true rfl) ⟨by decide, by decide⟩ dX4_takeOperand_23 ⟨Nat.zero_le _, Nat.zero_le _⟩) (fun H locs hw => ?_)
    refine lv_if_eq (tgt := 45) hx hb dX4_takeOperand_26 (by decide) (fun h_6 => ?_) (fun h_6 => ?_)
    · replace hf := tx_pos hf h_6
      refine lv_aload_n hx hb dX4_takeOperand_45 rfl (lv_at hl 0 rfl) ?_
      refine gf_X4_21 S hE hw 1 rfl rfl dX4_takeOperand_46 ?_
      refine gf_X4_92 S hE hw 0 rfl rfl dX4_takeOperand_49 ?_
      refine lv_iconst (v := 2) hx hb dX4_takeOperand_52 (by decide) ?_
      refine lv_icmp_ne (tgt := 60) hx hb dX4_takeOperand_53 (by decide) (fun h_7 => ?_) (fun h_7 => ?_)
      · replace hf := tx_neg hf h_7
        refine lv_iconst (v := 0) hx hb dX4_takeOperand_60 (by decide) ?_
        have hw := hw.u2
        have hw := hw.u1
        have hw := hw.u2
        exact J61 hf hw (lv_sub hl [0] rfl)
      · replace hf := tx_pos hf h_7
        refine lv_iconst (v := 1) hx hb dX4_takeOperand_56 (by decide) ?_
        refine lv_goto (tgt := 61) hx hb dX4_takeOperand_57 (by decide) ?_
        have hw := hw.u2
        have hw := hw.u1
        have hw := hw.u2
        exact J61 hf hw (lv_sub hl [0] rfl)
    · replace hf := tx_neg hf h_6
      refine lv_aload_n hx hb dX4_takeOperand_29 rfl (lv_at hl 0 rfl) ?_
      refine gf_X4_80 S hE hw 1 rfl rfl dX4_takeOperand_30 ?_
      refine lv_if_eq (tgt := 43) hx hb dX4_takeOperand_33 (by decide) (fun h_8 => ?_) (fun h_8 => ?_)
      · replace hf := tx_pos hf h_8
        refine lv_iconst (v := 1) hx hb dX4_takeOperand_43 (by decide) ?_
        have hw := hw.u2
        have hw := hw.u1
        have hw := hw.u2
        obtain ⟨e0, e1, e2⟩ := tx_in3 hf
        rw [← e0, ← e1, ← e2]
        exact tx_iret S hr hlk hw dX4_takeOperand_44
      · replace hf := tx_neg hf h_8
        refine lv_aload_n hx hb dX4_takeOperand_36 rfl (lv_at hl 0 rfl) ?_
        have hw := hw.u1
        obtain ⟨r_10, u_T_11, h_9, hf⟩ := tx_b2_e hf
        refine tx_ci hw (tx_runV S hE hw (c_X4_takeNegation h_9) lk_X4_89 (q0 := 0) rfl rfl rfl hl.1 (rest := []) rfl (Nat.le_of_ble_eq_true rfl) ⟨by decide, by decide⟩ dX4_takeOperand_37 ⟨Nat.zero_le _, Nat.zero_le _⟩) (fun H locs hw => ?_)
        refine lv_goto (tgt := 44) hx hb dX4_takeOperand_40 (by decide) ?_
        obtain ⟨e0, e1, e2⟩ := tx_in3 hf
        rw [← e0, ← e1, ← e2]
        exact tx_iret S hr hlk hw dX4_takeOperand_44
  · replace hf := tx_neg hf h_3
    refine lv_aload_n hx hb dX4_takeOperand_12 rfl (lv_at hl 0 rfl) ?_
    have hw := hw.u1
    obtain ⟨r_13, u_T_14, h_12, hf⟩ := tx_b2_e hf
    refine tx_ci hw (tx_runV S hE hw (c_X4_takeOpening h_12) lk_X4_83 (q0 := 0) rfl rfl rfl hl.1 (rest := []) rfl (Nat.le_of_ble_eq_true rfl) ⟨by decide, by decide⟩ dX4_takeOperand_13 ⟨Nat.zero_le _, Nat.zero_le _⟩) (fun H locs hw => ?_)
    obtain ⟨e0, e1, e2⟩ := tx_in3 hf
    rw [← e0, ← e1, ← e2]
    exact tx_iret S hr hlk hw dX4_takeOperand_16
def f_X4_read_J133 (fu : Nat) (v_La : S64) (u_P : S32) (K48 : S32 → S32 → S32 → Int32 → Int32 → Option (Int32 × S32 × S32 × S32)) (u_T : S32) (u_La : S32) (u_K : S32) (w2 : Int32) (w3 : Int32) (t0 : Int32) : Option (Int32 × S32 × S32 × S32) := if t0 = (0 : Int32) then (tx_b1 (f_X8_advance fu u_P u_K) fun (u_K_38 : S32) => tx_let (w3 + (1 : Int32)) fun (y_39 : Int32) => K48 u_T u_La u_K_38 w2 y_39) else (some (t0, u_T, u_La, u_K))
def f_X4_read_J96 (fu : Nat) (v_La : S64) (u_P : S32) (K48 : S32 → S32 → S32 → Int32 → Int32 → Option (Int32 × S32 × S32 × S32)) (u_T : S32) (u_La : S32) (u_K : S32) (w2 : Int32) (w3 : Int32) : Option (Int32 × S32 × S32 × S32) := if (u_T 0 6) = (0 : Int32) then (tx_b1 (f_X8_isSign fu u_K (16 : Int32)) fun (r_22 : Int32) => if r_22 = (0 : Int32) then (tx_b3 (f_X4_takeOperator fu u_K v_La u_T u_La) fun (r_25 : Int32) (u_T_26 : S32) (u_La_27 : S32) => f_X4_read_J133 fu v_La u_P K48 u_T_26 u_La_27 u_K w2 w3 r_25) else (tx_b3 (f_X4_takeClosing fu v_La u_T u_La) fun (r_29 : Int32) (u_T_30 : S32) (u_La_31 : S32) => f_X4_read_J133 fu v_La u_P K48 u_T_30 u_La_31 u_K w2 w3 r_29)) else (tx_b3 (f_X4_takeOperand fu u_K v_La u_T u_La) fun (r_33 : Int32) (u_T_34 : S32) (u_La_35 : S32) => f_X4_read_J133 fu v_La u_P K48 u_T_34 u_La_35 u_K w2 w3 r_33)
def f_X4_read_J48 (fu : Nat) (v_La : S64) (u_P : S32) (K48 : S32 → S32 → S32 → Int32 → Int32 → Option (Int32 × S32 × S32 × S32)) (u_T : S32) (u_La : S32) (u_K : S32) (w2 : Int32) (w3 : Int32) : Option (Int32 × S32 × S32 × S32) := if (700 : Int32) < w3 then (some ((1 : Int32), u_T, u_La, u_K)) else (if (u_T 0 6) = (0 : Int32) then (if (u_T 0 4) = (0 : Int32) then (tx_b1 (f_X8_isSign fu u_K (17 : Int32)) fun (r_13 : Int32) => if r_13 = (0 : Int32) then (f_X4_read_J96 fu v_La u_P K48 u_T u_La u_K w2 w3) else (tx_b2 (f_X4_release fu v_La u_T u_La (0 : Int32)) fun (u_T_16 : S32) (u_La_17 : S32) => tx_b1 (f_X5_close fu v_La u_La_17 w2) fun (u_La_19 : S32) => some ((0 : Int32), u_T_16, u_La_19, u_K))) else (f_X4_read_J96 fu v_La u_P K48 u_T u_La u_K w2 w3)) else (f_X4_read_J96 fu v_La u_P K48 u_T u_La u_K w2 w3))
def f_X4_read_L48 (fu : Nat) (v_La : S64) (u_P : S32) : Nat → S32 → S32 → S32 → Int32 → Int32 → Option (Int32 × S32 × S32 × S32)
  | 0 => fun _ _ _ _ _ => none
  | n + 1 => f_X4_read_J48 fu v_La u_P (f_X4_read_L48 fu v_La u_P n)
def f_X4_read (fu : Nat) (v_La : S64) (u_P : S32) (u_T : S32) (u_La : S32) (u_K : S32) (x2 : Int32) : Option (Int32 × S32 × S32 × S32) := tx_b1 (f_X5_open fu v_La u_La x2) fun (u_La_2 : S32) => tx_let (up2 u_T 0 2 (0 : Int32)) fun (u_T_3 : S32) => tx_let (up2 u_T_3 0 4 (0 : Int32)) fun (u_T_4 : S32) => tx_let (up2 u_T_4 0 5 (u_La_2 0 5)) fun (u_T_5 : S32) => tx_b1 (f_X4_expectOperand fu u_T_5 (1 : Int32)) fun (u_T_7 : S32) => tx_let (up2 u_T_7 4 (0 : Int32).toNatClampNeg ((0 : Int32) &&& 1)) fun (u_T_8 : S32) => f_X4_read_L48 fu v_La u_P fu u_T_8 u_La_2 u_K x2 (0 : Int32)
set_option maxHeartbeats 4000000 in
set_option maxRecDepth 100000 in
theorem c_X4_read {l : Launch} {g : GG} {A : Nat → Prop} {X : va_W} {fu : Nat} {a_T a_La a_K a_P : Nat → Nat} {p_T_8 : Nat} {u_T : S32} {u_La : S32} {v_La : S64} {u_K : S32} {u_P : S32} {x2 : Int32} {r : Int32} {zu_T : S32} {zu_La : S32} {zu_K : S32} (hf : f_X4_read fu v_La u_P u_T u_La u_K x2 = some (r, zu_T, zu_La, zu_K)) : MI l yX4_read cX4_read 5 (some .int) 3 g A (cl_X4 g a_T (a_K 0) p_T_8 u_T ++ (cl_X5 g a_La u_La v_La ++ (cl_X8 g a_K (a_P 0) u_K ++ (cl_X6 g a_P u_P ++ X)))) [.ref (a_T 0), .ref (a_La 0), .int x2] r (cl_X4 g a_T (a_K 0) (a_La 0) zu_T ++ (cl_X5 g a_La zu_La v_La ++ (cl_X8 g a_K (a_P 0) zu_K ++ (cl_X6 g a_P u_P ++ X)))) := by
  refine tx_start (av := [.ref (a_T 0), .ref (a_La 0), .int x2]) (by decide) (Nat.le_of_ble_eq_true rfl) ?_
  intro p e s m below meth c ls S hr hlk hE hw hl
  have S : CallFix p m c cX4_read 5 s (List.toArray [.ref (a_T 0), .ref (a_La 0), .int x2]) (Cond.code yX4_read cX4_read 5 (some .int) :: allW) RX4 := S
  have hx := S.1
  have hb := S.2.1
  have hown := S.2.2.2.1
  have hts : ∀ w ∈ allW, w.before (List.toArray [.ref (a_T 0), .ref (a_La 0), .int x2]) s = true := fun w h => S.2.2.2.2 w (List.mem_cons_of_mem _ h)
  have hl : lv_has ls 5 [(0, .ref (a_T 0)), (1, .ref (a_La 0)), (2, .int x2)] := hl
  have J133 : ∀ {K48 : S32 → S32 → S32 → Int32 → Int32 → Option (Int32 × S32 × S32 × S32)} (hK48 : ∀ {u_T : S32} {u_La : S32} {u_K : S32} {w2 : Int32} {w3 : Int32} {H : Heap} {locs : List Loc} {ls : Array Slot}, K48 u_T u_La u_K w2 w3 = some (r, zu_T, zu_La, zu_K) → WD g A s.heap (cl_X4 g a_T (a_K 0) (a_La 0) u_T ++ (cl_X5 g a_La u_La v_La ++ (cl_X8 g a_K (a_P 0) u_K ++ (cl_X6 g a_P u_P ++ X)))) H locs → lv_has ls 5 [(0, .ref (a_T 0)), (2, .int w2), (3, .int w3)] → W p l e (rmH 3) s m (List.toArray [.ref (a_T 0), .ref (a_La 0), .int x2]) below meth c H locs 0 0 (MQ below (va_Qi (fun r2 (_ : Unit) => r2 = r) (fun _ t => POST g A (cl_X4 g a_T (a_K 0) (a_La 0) zu_T ++ (cl_X5 g a_La zu_La v_La ++ (cl_X8 g a_K (a_P 0) zu_K ++ (cl_X6 g a_P u_P ++ X)))) t) A) (List.toArray [.ref (a_T 0), .ref (a_La 0), .int x2]) s 0 0 A) (F0 m 48 ls [])), ∀ {u_T : S32} {u_La : S32} {u_K : S32} {w2 : Int32} {w3 : Int32} {t0 : Int32} {H : Heap} {locs : List Loc} {ls : Array Slot}, f_X4_read_J133 fu v_La u_P K48 u_T u_La u_K w2 w3 t0 = some (r, zu_T, zu_La, zu_K) → WD g A s.heap (cl_X4 g a_T (a_K 0) (a_La 0) u_T ++ (cl_X5 g a_La u_La v_La ++ (cl_X8 g a_K (a_P 0) u_K ++ (cl_X6 g a_P u_P ++ X)))) H locs → lv_has ls 5 [(0, .ref (a_T 0)), (2, .int w2), (3, .int w3)] → W p l e (rmH 3) s m (List.toArray [.ref (a_T 0), .ref (a_La 0), .int x2]) below meth c H locs 0 0 (MQ below (va_Qi (fun r2 (_ : Unit) => r2 = r) (fun _ t => POST g A (cl_X4 g a_T (a_K 0) (a_La 0) zu_T ++ (cl_X5 g a_La zu_La v_La ++ (cl_X8 g a_K (a_P 0) zu_K ++ (cl_X6 g a_P u_P ++ X)))) t) A) (List.toArray [.ref (a_T 0), .ref (a_La 0), .int x2]) s 0 0 A) (F0 m 133 ls [.int t0]) := by
    intro K48 hK48 u_T u_La u_K w2 w3 t0 H locs ls hf hw hl
    unfold f_X4_read_J133 at hf
    refine lv_istore (lv' := [(4, .int t0), (0, .ref (a_T 0)), (2, .int w2), (3, .int w3)]) hx hb dX4_read_133 hl (by decide) rfl (fun ls hl => ?_)
    refine lv_iload hx hb dX4_read_135 (lv_at hl 0 rfl) ?_
    refine lv_if_eq (tgt := 143) hx hb dX4_read_137 (by decide) (fun h_36 => ?_) (fun h_36 => ?_)
    · replace hf := tx_pos hf h_36
      refine lv_aload_n hx hb dX4_read_143 rfl (lv_at hl 1 rfl) ?_
      refine gf_X4_21 S hE hw 0 rfl rfl dX4_read_144 ?_
      have hw := hw.u3
      have hw := hw.u3
      obtain ⟨u_K_38, h_37, hf⟩ := tx_b1_e hf
      refine tx_cv hw (tx_runN S hE hw (c_X8_advance h_37) lk_X4_77 (q0 := 0) rfl rfl rfl hl.1 (rest := []) rfl (Nat.le_of_ble_eq_true rfl) ⟨by decide, by decide⟩ dX4_read_147 ⟨Nat.zero_le _, Nat.zero_le _⟩) (fun H locs hw => ?_)
      obtain ⟨y_39, ey_39⟩ : ∃ y : Int32, y = w3 + (1 : Int32) := ⟨_, rfl⟩
      replace hf := tx_let_e hf ey_39
      refine lv_iinc (v := y_39) (lv' := [(3, .int y_39), (4, .int t0), (0, .ref (a_T 0)), (2, .int w2)]) hx hb dX4_read_150 hl (k := 3) rfl (by rw [ey_39]; rfl) (by decide) rfl (fun ls hl => ?_)
      refine lv_goto (tgt := 48) hx hb dX4_read_153 (by decide) ?_
      have hw := hw.u1
      have hw := hw.u1
      have hw := hw.u3
      have hw := hw.u3
      exact hK48 hf hw (lv_sub hl [2, 3, 0] rfl)
    · replace hf := tx_neg hf h_36
      refine lv_iload hx hb dX4_read_140 (lv_at hl 0 rfl) ?_
      obtain ⟨e0, e1, e2, e3⟩ := tx_in4 hf
      rw [← e0, ← e1, ← e2, ← e3]
      exact tx_iret S hr hlk hw dX4_read_142
  have J96 : ∀ {K48 : S32 → S32 → S32 → Int32 → Int32 → Option (Int32 × S32 × S32 × S32)} (hK48 : ∀ {u_T : S32} {u_La : S32} {u_K : S32} {w2 : Int32} {w3 : Int32} {H : Heap} {locs : List Loc} {ls : Array Slot}, K48 u_T u_La u_K w2 w3 = some (r, zu_T, zu_La, zu_K) → WD g A s.heap (cl_X4 g a_T (a_K 0) (a_La 0) u_T ++ (cl_X5 g a_La u_La v_La ++ (cl_X8 g a_K (a_P 0) u_K ++ (cl_X6 g a_P u_P ++ X)))) H locs → lv_has ls 5 [(0, .ref (a_T 0)), (2, .int w2), (3, .int w3)] → W p l e (rmH 3) s m (List.toArray [.ref (a_T 0), .ref (a_La 0), .int x2]) below meth c H locs 0 0 (MQ below (va_Qi (fun r2 (_ : Unit) => r2 = r) (fun _ t => POST g A (cl_X4 g a_T (a_K 0) (a_La 0) zu_T ++ (cl_X5 g a_La zu_La v_La ++ (cl_X8 g a_K (a_P 0) zu_K ++ (cl_X6 g a_P u_P ++ X)))) t) A) (List.toArray [.ref (a_T 0), .ref (a_La 0), .int x2]) s 0 0 A) (F0 m 48 ls [])), ∀ {u_T : S32} {u_La : S32} {u_K : S32} {w2 : Int32} {w3 : Int32} {H : Heap} {locs : List Loc} {ls : Array Slot}, f_X4_read_J96 fu v_La u_P K48 u_T u_La u_K w2 w3 = some (r, zu_T, zu_La, zu_K) → WD g A s.heap (cl_X4 g a_T (a_K 0) (a_La 0) u_T ++ (cl_X5 g a_La u_La v_La ++ (cl_X8 g a_K (a_P 0) u_K ++ (cl_X6 g a_P u_P ++ X)))) H locs → lv_has ls 5 [(0, .ref (a_T 0)), (2, .int w2), (3, .int w3)] → W p l e (rmH 3) s m (List.toArray [.ref (a_T 0), .ref (a_La 0), .int x2]) below meth c H locs 0 0 (MQ below (va_Qi (fun r2 (_ : Unit) => r2 = r) (fun _ t => POST g A (cl_X4 g a_T (a_K 0) (a_La 0) zu_T ++ (cl_X5 g a_La zu_La v_La ++ (cl_X8 g a_K (a_P 0) zu_K ++ (cl_X6 g a_P u_P ++ X)))) t) A) (List.toArray [.ref (a_T 0), .ref (a_La 0), .int x2]) s 0 0 A) (F0 m 96 ls []) := by
    intro K48 hK48 u_T u_La u_K w2 w3 H locs ls hf hw hl
    unfold f_X4_read_J96 at hf
    refine lv_aload_n hx hb dX4_read_96 rfl (lv_at hl 0 rfl) ?_
    refine gf_X4_51 S hE hw 0 rfl rfl dX4_read_97 ?_
    refine lv_if_eq (tgt := 110) hx hb dX4_read_100 (by decide) (fun h_20 => ?_) (fun h_20 => ?_)
    · replace hf := tx_pos hf h_20
      refine lv_aload_n hx hb dX4_read_110 rfl (lv_at hl 0 rfl) ?_
      refine gf_X4_21 S hE hw 0 rfl rfl dX4_read_111 ?_
      refine lv_bipush (v := 16) hx hb dX4_read_114 (by decide) ?_
      have hw := hw.u2
      obtain ⟨r_22, h_21, hf⟩ := tx_b1_e hf
      refine tx_ci hw (tx_runN S hE hw (c_X8_isSign h_21) lk_X4_55 (q0 := 0) rfl rfl rfl hl.1 (rest := []) rfl (Nat.le_of_ble_eq_true rfl) ⟨by decide, by decide⟩ dX4_read_116 ⟨Nat.zero_le _, Nat.zero_le _⟩) (fun H locs hw => ?_)
      refine lv_if_eq (tgt := 129) hx hb dX4_read_119 (by decide) (fun h_23 => ?_) (fun h_23 => ?_)
      · replace hf := tx_pos hf h_23
        refine lv_aload_n hx hb dX4_read_129 rfl (lv_at hl 0 rfl) ?_
        have hw := hw.u2
        have hw := hw.u1
        have hw := hw.u2
        obtain ⟨r_25, u_T_26, u_La_27, h_24, hf⟩ := tx_b3_e hf
        refine tx_ci hw (tx_runV S hE hw (c_X4_takeOperator h_24) lk_X4_74 (q0 := 0) rfl rfl rfl hl.1 (rest := []) rfl (Nat.le_of_ble_eq_true rfl) ⟨by decide, by decide⟩ dX4_read_130 ⟨Nat.zero_le _, Nat.zero_le _⟩) (fun H locs hw => ?_)
        have hw := hw.u3
        have hw := hw.u2
        have hw := hw.u3
        have hw := hw.u3
        exact J133 hK48 hf hw (lv_sub hl [0, 1, 2] rfl)
      · replace hf := tx_neg hf h_23
        refine lv_aload_n hx hb dX4_read_122 rfl (lv_at hl 0 rfl) ?_
        have hw := hw.u2
        have hw := hw.u2
        obtain ⟨r_29, u_T_30, u_La_31, h_28, hf⟩ := tx_b3_e hf
        refine tx_ci hw (tx_runV S hE hw (c_X4_takeClosing h_28) lk_X4_71 (q0 := 0) rfl rfl rfl hl.1 (rest := []) rfl (Nat.le_of_ble_eq_true rfl) ⟨by decide, by decide⟩ dX4_read_123 ⟨Nat.zero_le _, Nat.zero_le _⟩) (fun H locs hw => ?_)
        refine lv_goto (tgt := 133) hx hb dX4_read_126 (by decide) ?_
        exact J133 hK48 hf hw (lv_sub hl [0, 1, 2] rfl)
    · replace hf := tx_neg hf h_20
      refine lv_aload_n hx hb dX4_read_103 rfl (lv_at hl 0 rfl) ?_
      have hw := hw.u1
      have hw := hw.u2
      have hw := hw.u2
      obtain ⟨r_33, u_T_34, u_La_35, h_32, hf⟩ := tx_b3_e hf
      refine tx_ci hw (tx_runV S hE hw (c_X4_takeOperand h_32) lk_X4_67 (q0 := 0) rfl rfl rfl hl.1 (rest := []) rfl (Nat.le_of_ble_eq_true rfl) ⟨by decide, by decide⟩ dX4_read_104 ⟨Nat.zero_le _, Nat.zero_le _⟩) (fun H locs hw => ?_)
      refine lv_goto (tgt := 133) hx hb dX4_read_107 (by decide) ?_
      have hw := hw.u3
      have hw := hw.u2
      have hw := hw.u3
      have hw := hw.u3
      exact J133 hK48 hf hw (lv_sub hl [0, 1, 2] rfl)
  have J48 : ∀ {K48 : S32 → S32 → S32 → Int32 → Int32 → Option (Int32 × S32 × S32 × S32)} (hK48 : ∀ {u_T : S32} {u_La : S32} {u_K : S32} {w2 : Int32} {w3 : Int32} {H : Heap} {locs : List Loc} {ls : Array Slot}, K48 u_T u_La u_K w2 w3 = some (r, zu_T, zu_La, zu_K) → WD g A s.heap (cl_X4 g a_T (a_K 0) (a_La 0) u_T ++ (cl_X5 g a_La u_La v_La ++ (cl_X8 g a_K (a_P 0) u_K ++ (cl_X6 g a_P u_P ++ X)))) H locs → lv_has ls 5 [(0, .ref (a_T 0)), (2, .int w2), (3, .int w3)] → W p l e (rmH 3) s m (List.toArray [.ref (a_T 0), .ref (a_La 0), .int x2]) below meth c H locs 0 0 (MQ below (va_Qi (fun r2 (_ : Unit) => r2 = r) (fun _ t => POST g A (cl_X4 g a_T (a_K 0) (a_La 0) zu_T ++ (cl_X5 g a_La zu_La v_La ++ (cl_X8 g a_K (a_P 0) zu_K ++ (cl_X6 g a_P u_P ++ X)))) t) A) (List.toArray [.ref (a_T 0), .ref (a_La 0), .int x2]) s 0 0 A) (F0 m 48 ls [])), ∀ {u_T : S32} {u_La : S32} {u_K : S32} {w2 : Int32} {w3 : Int32} {H : Heap} {locs : List Loc} {ls : Array Slot}, f_X4_read_J48 fu v_La u_P K48 u_T u_La u_K w2 w3 = some (r, zu_T, zu_La, zu_K) → WD g A s.heap (cl_X4 g a_T (a_K 0) (a_La 0) u_T ++ (cl_X5 g a_La u_La v_La ++ (cl_X8 g a_K (a_P 0) u_K ++ (cl_X6 g a_P u_P ++ X)))) H locs → lv_has ls 5 [(0, .ref (a_T 0)), (2, .int w2), (3, .int w3)] → W p l e (rmH 3) s m (List.toArray [.ref (a_T 0), .ref (a_La 0), .int x2]) below meth c H locs 0 0 (MQ below (va_Qi (fun r2 (_ : Unit) => r2 = r) (fun _ t => POST g A (cl_X4 g a_T (a_K 0) (a_La 0) zu_T ++ (cl_X5 g a_La zu_La v_La ++ (cl_X8 g a_K (a_P 0) zu_K ++ (cl_X6 g a_P u_P ++ X)))) t) A) (List.toArray [.ref (a_T 0), .ref (a_La 0), .int x2]) s 0 0 A) (F0 m 48 ls []) := by
    intro K48 hK48 u_T u_La u_K w2 w3 H locs ls hf hw hl
    unfold f_X4_read_J48 at hf
    refine lv_iload_n hx hb dX4_read_48 rfl (lv_at hl 2 rfl) ?_
    refine lv_sipush (v := 700) hx hb dX4_read_49 (by decide) ?_
    refine lv_icmp_gt (tgt := 156) hx hb dX4_read_52 (by decide) (fun h_9 => ?_) (fun h_9 => ?_)
    · replace hf := tx_pos hf h_9
      refine lv_iconst (v := 1) hx hb dX4_read_156 (by decide) ?_
      obtain ⟨e0, e1, e2, e3⟩ := tx_in4 hf
      rw [← e0, ← e1, ← e2, ← e3]
      exact tx_iret S hr hlk hw dX4_read_157
    · replace hf := tx_neg hf h_9
      refine lv_aload_n hx hb dX4_read_55 rfl (lv_at hl 0 rfl) ?_
      refine gf_X4_51 S hE hw 0 rfl rfl dX4_read_56 ?_
      refine lv_if_ne (tgt := 96) hx hb dX4_read_59 (by decide) (fun h_10 => ?_) (fun h_10 => ?_)
      · replace hf := tx_neg hf h_10
        exact J96 hK48 hf hw (lv_sub hl [0, 1, 2] rfl)
      · replace hf := tx_pos hf h_10
        refine lv_aload_n hx hb dX4_read_62 rfl (lv_at hl 0 rfl) ?_
        refine gf_X4_37 S hE hw 0 rfl rfl dX4_read_63 ?_
        refine lv_if_ne (tgt := 96) hx hb dX4_read_66 (by decide) (fun h_11 => ?_) (fun h_11 => ?_)
        · replace hf := tx_neg hf h_11
          exact J96 hK48 hf hw (lv_sub hl [0, 1, 2] rfl)
        · replace hf := tx_pos hf h_11
          refine lv_aload_n hx hb dX4_read_69 rfl (lv_at hl 0 rfl) ?_
          refine gf_X4_21 S hE hw 0 rfl rfl dX4_read_70 ?_
          refine lv_bipush (v := 17) hx hb dX4_read_73 (by decide) ?_
          have hw := hw.u2
          obtain ⟨r_13, h_12, hf⟩ := tx_b1_e hf
          refine tx_ci hw (tx_runN S hE hw (c_X8_isSign h_12) lk_X4_55 (q0 := 0) rfl rfl rfl hl.1 (rest := []) rfl (Nat.le_of_ble_eq_true rfl) ⟨by decide, by decide⟩ dX4_read_75 ⟨Nat.zero_le _, Nat.zero_le _⟩) (fun H locs hw => ?_)
          refine lv_if_eq (tgt := 96) hx hb dX4_read_78 (by decide) (fun h_14 => ?_) (fun h_14 => ?_)
          · replace hf := tx_pos hf h_14
            have hw := hw.u3
            have hw := hw.u1
            have hw := hw.u3
            have hw := hw.u3
            exact J96 hK48 hf hw (lv_sub hl [0, 1, 2] rfl)
          · replace hf := tx_neg hf h_14
            refine lv_aload_n hx hb dX4_read_81 rfl (lv_at hl 0 rfl) ?_
            refine lv_iconst (v := 0) hx hb dX4_read_82 (by decide) ?_
            have hw := hw.u2
            have hw := hw.u2
            obtain ⟨u_T_16, u_La_17, h_15, hf⟩ := tx_b2_e hf
            refine tx_cv hw (tx_runV S hE hw (c_X4_release h_15) lk_X4_61 (q0 := 0) rfl rfl rfl hl.1 (rest := []) rfl (Nat.le_of_ble_eq_true rfl) ⟨by decide, by decide⟩ dX4_read_83 ⟨Nat.zero_le _, Nat.zero_le _⟩) (fun H locs hw => ?_)
            refine lv_aload_n hx hb dX4_read_86 rfl (lv_at hl 0 rfl) ?_
            refine gf_X4_25 S hE hw 0 rfl rfl dX4_read_87 ?_
            refine lv_iload_n hx hb dX4_read_90 rfl (lv_at hl 1 rfl) ?_
            have hw := hw.u1
            obtain ⟨u_La_19, h_18, hf⟩ := tx_b1_e hf
            refine tx_cv hw (tx_runN S hE hw (c_X5_close h_18) lk_X4_64 (q0 := 0) rfl rfl rfl hl.1 (rest := []) rfl (Nat.le_of_ble_eq_true rfl) ⟨by decide, by decide⟩ dX4_read_91 ⟨Nat.zero_le _, Nat.zero_le _⟩) (fun H locs hw => ?_)
            refine lv_iconst (v := 0) hx hb dX4_read_94 (by decide) ?_
            have hw := hw.u3
            have hw := hw.u3
            have hw := hw.u2
            have hw := hw.u3
            obtain ⟨e0, e1, e2, e3⟩ := tx_in4 hf
            rw [← e0, ← e1, ← e2, ← e3]
            exact tx_iret S hr hlk hw dX4_read_95
  have L48 : ∀ (n : Nat), ∀ {u_T : S32} {u_La : S32} {u_K : S32} {w2 : Int32} {w3 : Int32} {H : Heap} {locs : List Loc} {ls : Array Slot}, f_X4_read_L48 fu v_La u_P n u_T u_La u_K w2 w3 = some (r, zu_T, zu_La, zu_K) → WD g A s.heap (cl_X4 g a_T (a_K 0) (a_La 0) u_T ++ (cl_X5 g a_La u_La v_La ++ (cl_X8 g a_K (a_P 0) u_K ++ (cl_X6 g a_P u_P ++ X)))) H locs → lv_has ls 5 [(0, .ref (a_T 0)), (2, .int w2), (3, .int w3)] → W p l e (rmH 3) s m (List.toArray [.ref (a_T 0), .ref (a_La 0), .int x2]) below meth c H locs 0 0 (MQ below (va_Qi (fun r2 (_ : Unit) => r2 = r) (fun _ t => POST g A (cl_X4 g a_T (a_K 0) (a_La 0) zu_T ++ (cl_X5 g a_La zu_La v_La ++ (cl_X8 g a_K (a_P 0) zu_K ++ (cl_X6 g a_P u_P ++ X)))) t) A) (List.toArray [.ref (a_T 0), .ref (a_La 0), .int x2]) s 0 0 A) (F0 m 48 ls []) := by
    intro  n
    induction n with
    | zero => intro u_T u_La u_K w2 w3 H locs ls hf; exact absurd hf (by intro q; cases q)
    | succ n ih => exact fun hf hw hl => J48 ih hf hw hl
  unfold f_X4_read at hf
  refine lv_aload_n hx hb dX4_read_0 rfl (lv_at hl 0 rfl) ?_
  refine lv_aload_n hx hb dX4_read_1 rfl (lv_at hl 1 rfl) ?_
  refine pf_X4_25 (ws' := cl_X4 g a_T (a_K 0) (a_La 0) u_T ++ (cl_X5 g a_La u_La v_La ++ (cl_X8 g a_K (a_P 0) u_K ++ (cl_X6 g a_P u_P ++ X)))) S hE hw rfl rfl 0 rfl (Nat.le_of_ble_eq_true rfl) rfl dX4_read_2 (fun H locs hw => ?_)
  refine lv_aload_n hx hb dX4_read_5 rfl (lv_at hl 0 rfl) ?_
  refine gf_X4_25 S hE hw 0 rfl rfl dX4_read_6 ?_
  refine lv_iload_n hx hb dX4_read_9 rfl (lv_at hl 2 rfl) ?_
  have hw := hw.u1
  obtain ⟨u_La_2, h_1, hf⟩ := tx_b1_e hf
  refine tx_cv hw (tx_runN S hE hw (c_X5_open h_1) lk_X4_29 (q0 := 0) rfl rfl rfl hl.1 (rest := []) rfl (Nat.le_of_ble_eq_true rfl) ⟨by decide, by decide⟩ dX4_read_10 ⟨Nat.zero_le _, Nat.zero_le _⟩) (fun H locs hw => ?_)
  refine lv_aload_n hx hb dX4_read_13 rfl (lv_at hl 0 rfl) ?_
  refine lv_iconst (v := 0) hx hb dX4_read_14 (by decide) ?_
  obtain ⟨u_T_3, eu_T_3⟩ : ∃ z : S32, z = up2 u_T 0 2 (0 : Int32) := ⟨_, rfl⟩
  replace hf := tx_let_e hf eu_T_3
  refine pf_X4_33 (ws' := cl_X5 g a_La u_La_2 v_La ++ (cl_X4 g a_T (a_K 0) (a_La 0) u_T_3 ++ (cl_X8 g a_K (a_P 0) u_K ++ (cl_X6 g a_P u_P ++ X)))) S hE hw rfl rfl 6 rfl (Nat.le_of_ble_eq_true rfl) (by rw [eu_T_3]; rfl) dX4_read_15 (fun H locs hw => ?_)
  refine lv_aload_n hx hb dX4_read_18 rfl (lv_at hl 0 rfl) ?_
  refine lv_iconst (v := 0) hx hb dX4_read_19 (by decide) ?_
  obtain ⟨u_T_4, eu_T_4⟩ : ∃ z : S32, z = up2 u_T_3 0 4 (0 : Int32) := ⟨_, rfl⟩
  replace hf := tx_let_e hf eu_T_4
  refine pf_X4_37 (ws' := cl_X5 g a_La u_La_2 v_La ++ (cl_X4 g a_T (a_K 0) (a_La 0) u_T_4 ++ (cl_X8 g a_K (a_P 0) u_K ++ (cl_X6 g a_P u_P ++ X)))) S hE hw rfl rfl 6 rfl (Nat.le_of_ble_eq_true rfl) (by rw [eu_T_4]; rfl) dX4_read_20 (fun H locs hw => ?_)
  refine lv_aload_n hx hb dX4_read_23 rfl (lv_at hl 0 rfl) ?_
  refine lv_aload_n hx hb dX4_read_24 rfl (lv_at hl 0 rfl) ?_
  refine gf_X4_25 S hE hw 6 rfl rfl dX4_read_25 ?_
  refine gf_X4_39 S hE hw 0 rfl rfl dX4_read_28 ?_
  obtain ⟨u_T_5, eu_T_5⟩ : ∃ z : S32, z = up2 u_T_4 0 5 (u_La_2 0 5) := ⟨_, rfl⟩
  replace hf := tx_let_e hf eu_T_5
  refine pf_X4_42 (ws' := cl_X5 g a_La u_La_2 v_La ++ (cl_X4 g a_T (a_K 0) (a_La 0) u_T_5 ++ (cl_X8 g a_K (a_P 0) u_K ++ (cl_X6 g a_P u_P ++ X)))) S hE hw rfl rfl 6 rfl (Nat.le_of_ble_eq_true rfl) (by rw [eu_T_5]; rfl) dX4_read_31 (fun H locs hw => ?_)
  refine lv_aload_n hx hb dX4_read_34 rfl (lv_at hl 0 rfl) ?_
  refine lv_iconst (v := 1) hx hb dX4_read_35 (by decide) ?_
  have hw := hw.u1
  obtain ⟨u_T_7, h_6, hf⟩ := tx_b1_e hf
  refine tx_cv hw (tx_runV S hE hw (c_X4_expectOperand h_6) lk_X4_45 (q0 := 0) rfl rfl rfl hl.1 (rest := []) rfl (Nat.le_of_ble_eq_true rfl) ⟨by decide, by decide⟩ dX4_read_36 ⟨Nat.zero_le _, Nat.zero_le _⟩) (fun H locs hw => ?_)
  refine lv_aload_n hx hb dX4_read_39 rfl (lv_at hl 0 rfl) ?_
  refine gf_X4_17 S hE hw 0 rfl rfl dX4_read_40 ?_
  refine lv_iconst (v := 0) hx hb dX4_read_43 (by decide) ?_
  refine lv_iconst (v := 0) hx hb dX4_read_44 (by decide) ?_
  obtain ⟨u_T_8, eu_T_8⟩ : ∃ z : S32, z = up2 u_T_7 4 (0 : Int32).toNatClampNeg ((0 : Int32) &&& 1) := ⟨_, rfl⟩
  replace hf := tx_let_e hf eu_T_8
  refine tx_zast (ws' := cl_X4 g a_T (a_K 0) (a_La 0) u_T_8 ++ (cl_X5 g a_La u_La_2 v_La ++ (cl_X8 g a_K (a_P 0) u_K ++ (cl_X6 g a_P u_P ++ X)))) S hE hw 2 rfl (by unfold vp_in; decide) (by rw [eu_T_8]; rfl) dX4_read_45 (fun H locs hw => ?_)
  refine lv_iconst (v := 0) hx hb dX4_read_46 (by decide) ?_
  refine lv_istore_n (lv' := [(3, .int (0 : Int32)), (0, .ref (a_T 0)), (1, .ref (a_La 0)), (2, .int x2)]) hx hb dX4_read_47 rfl hl (by decide) rfl (fun ls hl => ?_)
  exact L48 fu hf hw (lv_sub hl [1, 3, 0] rfl)
def f_X7_takeLaw_J42 (fu : Nat) (u_P : S32) (u_B : S32) (v_L : S64) (p_R_8 : Nat) (pa_L : Nat) (u_T : S32) (u_K : S32) (u_L : S32) (u_R : S32) : Option (Int32 × S32 × S32 × S32 × S32 × Nat) := tx_b2 (f_X7_blame fu u_K u_T (1 : Int32)) fun (r_27 : Int32) (u_T_28 : S32) => tx_bz r_27 <| some (r_27, u_T_28, u_K, u_L, u_R, p_R_8)
def f_X7_takeLaw_J114 (fu : Nat) (u_P : S32) (u_B : S32) (v_L : S64) (p_R_8 : Nat) (pa_L : Nat) (u_T : S32) (u_K : S32) (u_L : S32) (u_R : S32) : Option (Int32 × S32 × S32 × S32 × S32 × Nat) := some ((1 : Int32), u_T, u_K, u_L, u_R, pa_L)
def f_X7_takeLaw (fu : Nat) (u_P : S32) (u_B : S32) (v_L : S64) (p_R_8 : Nat) (pa_L : Nat) (u_T : S32) (u_K : S32) (u_L : S32) (u_R : S32) : Option (Int32 × S32 × S32 × S32 × S32 × Nat) := tx_b1 (f_X8_advance fu u_P u_K) fun (u_K_2 : S32) => if (u_K_2 0 4) = (4 : Int32) then (if (u_K_2 0 5) < (7 : Int32) then (f_X7_takeLaw_J42 fu u_P u_B v_L p_R_8 pa_L u_T u_K_2 u_L u_R) else (if (u_K_2 0 5) ≤ (9 : Int32) then (tx_let ((u_K_2 0 5) - (7 : Int32)) fun (y_6 : Int32) => tx_b1 (f_X5_isTold fu u_L v_L y_6) fun (r_8 : Int32) => if r_8 = (0 : Int32) then (tx_b1 (f_X8_advance fu u_P u_K_2) fun (u_K_11 : S32) => tx_b4 (f_X4_read fu v_L u_P u_R u_L u_K_11 y_6) fun (r_13 : Int32) (u_R_14 : S32) (u_L_15 : S32) (u_K_16 : S32) => if r_13 = (0 : Int32) then (f_X7_takeLaw_J114 fu u_P u_B v_L p_R_8 pa_L u_T u_K_16 u_L_15 u_R_14) else (tx_b2 (f_X7_blame fu u_K_16 u_T r_13) fun (r_19 : Int32) (u_T_20 : S32) => if r_19 = (0 : Int32) then (some ((0 : Int32), u_T_20, u_K_16, u_L_15, u_R_14, pa_L)) else (f_X7_takeLaw_J114 fu u_P u_B v_L p_R_8 pa_L u_T_20 u_K_16 u_L_15 u_R_14))) else (tx_b2 (f_X7_blame fu u_K_2 u_T (3 : Int32)) fun (r_23 : Int32) (u_T_24 : S32) => tx_bz r_23 <| some (r_23, u_T_24, u_K_2, u_L, u_R, p_R_8))) else (f_X7_takeLaw_J42 fu u_P u_B v_L p_R_8 pa_L u_T u_K_2 u_L u_R))) else (f_X7_takeLaw_J42 fu u_P u_B v_L p_R_8 pa_L u_T u_K_2 u_L u_R)
set_option maxHeartbeats 4000000 in
set_option maxRecDepth 100000 in
theorem c_X7_takeLaw {l : Launch} {g : GG} {A : Nat → Prop} {X : va_W} {fu : Nat} {a_T a_K a_P a_B a_L a_R : Nat → Nat} {p_R_8 : Nat} {u_T : S32} {u_K : S32} {u_P : S32} {u_B : S32} {u_L : S32} {v_L : S64} {u_R : S32} {r : Int32} {zu_T : S32} {zu_K : S32} {zu_L : S32} {zu_R : S32} {zq_R_8 : Nat} (hf : f_X7_takeLaw fu u_P u_B v_L p_R_8 (a_L 0) u_T u_K u_L u_R = some (r, zu_T, zu_K, zu_L, zu_R, zq_R_8)) : MI l yX7_takeLaw cX7_takeLaw 3 (some .boolean) 4 g A (cl_X7 g a_T (a_K 0) (a_R 0) (a_B 0) u_T ++ (cl_X8 g a_K (a_P 0) u_K ++ (cl_X6 g a_P u_P ++ (cl_X0 g a_B (a_L 0) u_B ++ (cl_X5 g a_L u_L v_L ++ (cl_X4 g a_R (a_K 0) p_R_8 u_R ++ X)))))) [.ref (a_T 0)] r (cl_X7 g a_T (a_K 0) (a_R 0) (a_B 0) zu_T ++ (cl_X8 g a_K (a_P 0) zu_K ++ (cl_X6 g a_P u_P ++ (cl_X0 g a_B (a_L 0) u_B ++ (cl_X5 g a_L zu_L v_L ++ (cl_X4 g a_R (a_K 0) zq_R_8 zu_R ++ X)))))) := by
  refine tx_start (av := [.ref (a_T 0)]) (by decide) (Nat.le_of_ble_eq_true rfl) ?_
  intro p e s m below meth c ls S hr hlk hE hw hl
  have S : CallFix p m c cX7_takeLaw 3 s (List.toArray [.ref (a_T 0)]) (Cond.code yX7_takeLaw cX7_takeLaw 3 (some .boolean) :: allW) RX7 := S
  have hx := S.1
  have hb := S.2.1
  have hown := S.2.2.2.1
  have hts : ∀ w ∈ allW, w.before (List.toArray [.ref (a_T 0)]) s = true := fun w h => S.2.2.2.2 w (List.mem_cons_of_mem _ h)
  have hl : lv_has ls 3 [(0, .ref (a_T 0))] := hl
  have J42 : ∀ {u_T : S32} {u_K : S32} {u_L : S32} {u_R : S32} {H : Heap} {locs : List Loc} {ls : Array Slot}, f_X7_takeLaw_J42 fu u_P u_B v_L p_R_8 (a_L 0) u_T u_K u_L u_R = some (r, zu_T, zu_K, zu_L, zu_R, zq_R_8) → WD g A s.heap (cl_X7 g a_T (a_K 0) (a_R 0) (a_B 0) u_T ++ (cl_X8 g a_K (a_P 0) u_K ++ (cl_X6 g a_P u_P ++ (cl_X0 g a_B (a_L 0) u_B ++ (cl_X5 g a_L u_L v_L ++ (cl_X4 g a_R (a_K 0) p_R_8 u_R ++ X)))))) H locs → lv_has ls 3 [(0, .ref (a_T 0))] → W p l e (rmH 4) s m (List.toArray [.ref (a_T 0)]) below meth c H locs 0 0 (MQ below (va_Qi (fun r2 (_ : Unit) => r2 = r) (fun _ t => POST g A (cl_X7 g a_T (a_K 0) (a_R 0) (a_B 0) zu_T ++ (cl_X8 g a_K (a_P 0) zu_K ++ (cl_X6 g a_P u_P ++ (cl_X0 g a_B (a_L 0) u_B ++ (cl_X5 g a_L zu_L v_L ++ (cl_X4 g a_R (a_K 0) zq_R_8 zu_R ++ X)))))) t) A) (List.toArray [.ref (a_T 0)]) s 0 0 A) (F0 m 42 ls []) := by
    intro u_T u_K u_L u_R H locs ls hf hw hl
    unfold f_X7_takeLaw_J42 at hf
    refine lv_aload_n hx hb dX7_takeLaw_42 rfl (lv_at hl 0 rfl) ?_
    refine lv_iconst (v := 1) hx hb dX7_takeLaw_43 (by decide) ?_
    obtain ⟨r_27, u_T_28, h_26, hf⟩ := tx_b2_e hf
    refine tx_ci hw (tx_runV S hE hw (c_X7_blame h_26) lk_X7_76 (q0 := 0) rfl rfl rfl hl.1 (rest := []) rfl (Nat.le_of_ble_eq_true rfl) ⟨by decide, by decide⟩ dX7_takeLaw_44 ⟨Nat.zero_le _, Nat.zero_le _⟩) (fun H locs hw => ?_)
    obtain ⟨h_29, hf⟩ := tx_bz_e hf
    obtain ⟨e0, e1, e2, e3, e4, e5⟩ := tx_in6 hf
    rw [← e0, ← e1, ← e2, ← e3, ← e4, ← e5]
    exact tx_zret S hr hlk h_29 hw dX7_takeLaw_47
  have J114 : ∀ {u_T : S32} {u_K : S32} {u_L : S32} {u_R : S32} {H : Heap} {locs : List Loc} {ls : Array Slot}, f_X7_takeLaw_J114 fu u_P u_B v_L p_R_8 (a_L 0) u_T u_K u_L u_R = some (r, zu_T, zu_K, zu_L, zu_R, zq_R_8) → WD g A s.heap (cl_X7 g a_T (a_K 0) (a_R 0) (a_B 0) u_T ++ (cl_X8 g a_K (a_P 0) u_K ++ (cl_X6 g a_P u_P ++ (cl_X0 g a_B (a_L 0) u_B ++ (cl_X5 g a_L u_L v_L ++ (cl_X4 g a_R (a_K 0) (a_L 0) u_R ++ X)))))) H locs → lv_has ls 3 [] → W p l e (rmH 4) s m (List.toArray [.ref (a_T 0)]) below meth c H locs 0 0 (MQ below (va_Qi (fun r2 (_ : Unit) => r2 = r) (fun _ t => POST g A (cl_X7 g a_T (a_K 0) (a_R 0) (a_B 0) zu_T ++ (cl_X8 g a_K (a_P 0) zu_K ++ (cl_X6 g a_P u_P ++ (cl_X0 g a_B (a_L 0) u_B ++ (cl_X5 g a_L zu_L v_L ++ (cl_X4 g a_R (a_K 0) zq_R_8 zu_R ++ X)))))) t) A) (List.toArray [.ref (a_T 0)]) s 0 0 A) (F0 m 114 ls []) := by
    intro u_T u_K u_L u_R H locs ls hf hw hl
    unfold f_X7_takeLaw_J114 at hf
    refine lv_iconst (v := 1) hx hb dX7_takeLaw_114 (by decide) ?_
    refine lv_goto (tgt := 119) hx hb dX7_takeLaw_115 (by decide) ?_
    obtain ⟨e0, e1, e2, e3, e4, e5⟩ := tx_in6 hf
    rw [← e0, ← e1, ← e2, ← e3, ← e4, ← e5]
    exact tx_zret S hr hlk (by decide) hw dX7_takeLaw_119
  unfold f_X7_takeLaw at hf
  refine lv_aload_n hx hb dX7_takeLaw_0 rfl (lv_at hl 0 rfl) ?_
  refine gf_X7_23 S hE hw 0 rfl rfl dX7_takeLaw_1 ?_
  have hw := hw.u2
  have hw := hw.u2
  obtain ⟨u_K_2, h_1, hf⟩ := tx_b1_e hf
  refine tx_cv hw (tx_runN S hE hw (c_X8_advance h_1) lk_X7_79 (q0 := 0) rfl rfl rfl hl.1 (rest := []) rfl (Nat.le_of_ble_eq_true rfl) ⟨by decide, by decide⟩ dX7_takeLaw_4 ⟨Nat.zero_le _, Nat.zero_le _⟩) (fun H locs hw => ?_)
  refine lv_aload_n hx hb dX7_takeLaw_7 rfl (lv_at hl 0 rfl) ?_
  refine gf_X7_23 S hE hw 3 rfl rfl dX7_takeLaw_8 ?_
  refine gf_X7_58 S hE hw 0 rfl rfl dX7_takeLaw_11 ?_
  refine lv_iconst (v := 4) hx hb dX7_takeLaw_14 (by decide) ?_
  refine lv_icmp_ne (tgt := 42) hx hb dX7_takeLaw_15 (by decide) (fun h_3 => ?_) (fun h_3 => ?_)
  · replace hf := tx_neg hf h_3
    have hw := hw.u5
    have hw := hw.u5
    have hw := hw.u5
    have hw := hw.u4
    have hw := hw.u4
    have hw := hw.u5
    exact J42 hf hw (lv_sub hl [0] rfl)
  · replace hf := tx_pos hf h_3
    refine lv_aload_n hx hb dX7_takeLaw_18 rfl (lv_at hl 0 rfl) ?_
    refine gf_X7_23 S hE hw 3 rfl rfl dX7_takeLaw_19 ?_
    refine gf_X7_82 S hE hw 0 rfl rfl dX7_takeLaw_22 ?_
    refine lv_bipush (v := 7) hx hb dX7_takeLaw_25 (by decide) ?_
    refine lv_icmp_lt (tgt := 42) hx hb dX7_takeLaw_27 (by decide) (fun h_4 => ?_) (fun h_4 => ?_)
    · replace hf := tx_pos hf h_4
      have hw := hw.u5
      have hw := hw.u5
      have hw := hw.u5
      have hw := hw.u4
      have hw := hw.u4
      have hw := hw.u5
      exact J42 hf hw (lv_sub hl [0] rfl)
    · replace hf := tx_neg hf h_4
      refine lv_aload_n hx hb dX7_takeLaw_30 rfl (lv_at hl 0 rfl) ?_
      refine gf_X7_23 S hE hw 3 rfl rfl dX7_takeLaw_31 ?_
      refine gf_X7_82 S hE hw 0 rfl rfl dX7_takeLaw_34 ?_
      refine lv_bipush (v := 9) hx hb dX7_takeLaw_37 (by decide) ?_
      refine lv_icmp_le (tgt := 48) hx hb dX7_takeLaw_39 (by decide) (fun h_5 => ?_) (fun h_5 => ?_)
      · replace hf := tx_pos hf h_5
        refine lv_aload_n hx hb dX7_takeLaw_48 rfl (lv_at hl 0 rfl) ?_
        refine gf_X7_23 S hE hw 3 rfl rfl dX7_takeLaw_49 ?_
        refine gf_X7_82 S hE hw 0 rfl rfl dX7_takeLaw_52 ?_
        refine lv_bipush (v := 7) hx hb dX7_takeLaw_55 (by decide) ?_
        refine lv_isub hx hb dX7_takeLaw_57 ?_
        refine lv_topi (fun y_6 ey_6 => ?_)
        replace hf := tx_let_e hf ey_6
        refine lv_istore_n (lv' := [(1, .int y_6), (0, .ref (a_T 0))]) hx hb dX7_takeLaw_58 rfl hl (by decide) rfl (fun ls hl => ?_)
        refine lv_aload_n hx hb dX7_takeLaw_59 rfl (lv_at hl 1 rfl) ?_
        refine gf_X7_42 S hE hw 3 rfl rfl dX7_takeLaw_60 ?_
        refine gf_X7_29 S hE hw 4 rfl rfl dX7_takeLaw_63 ?_
        refine lv_iload_n hx hb dX7_takeLaw_66 rfl (lv_at hl 0 rfl) ?_
        have hw := hw.u4
        obtain ⟨r_8, h_7, hf⟩ := tx_b1_e hf
        refine tx_ci hw (tx_runN S hE hw (c_X5_isTold h_7) lk_X7_176 (q0 := 0) rfl rfl rfl hl.1 (rest := []) rfl (Nat.le_of_ble_eq_true rfl) ⟨by decide, by decide⟩ dX7_takeLaw_67 ⟨Nat.zero_le _, Nat.zero_le _⟩) (fun H locs hw => ?_)
        refine lv_if_eq (tgt := 79) hx hb dX7_takeLaw_70 (by decide) (fun h_9 => ?_) (fun h_9 => ?_)
        · replace hf := tx_pos hf h_9
          refine lv_aload_n hx hb dX7_takeLaw_79 rfl (lv_at hl 1 rfl) ?_
          refine gf_X7_23 S hE hw 9 rfl rfl dX7_takeLaw_80 ?_
          have hw := hw.u2
          have hw := hw.u2
          obtain ⟨u_K_11, h_10, hf⟩ := tx_b1_e hf
          refine tx_cv hw (tx_runN S hE hw (c_X8_advance h_10) lk_X7_79 (q0 := 0) rfl rfl rfl hl.1 (rest := []) rfl (Nat.le_of_ble_eq_true rfl) ⟨by decide, by decide⟩ dX7_takeLaw_83 ⟨Nat.zero_le _, Nat.zero_le _⟩) (fun H locs hw => ?_)
          refine lv_aload_n hx hb dX7_takeLaw_86 rfl (lv_at hl 1 rfl) ?_
          refine gf_X7_38 S hE hw 9 rfl rfl dX7_takeLaw_87 ?_
          refine lv_aload_n hx hb dX7_takeLaw_90 rfl (lv_at hl 1 rfl) ?_
          refine gf_X7_42 S hE hw 9 rfl rfl dX7_takeLaw_91 ?_
          refine gf_X7_29 S hE hw 10 rfl rfl dX7_takeLaw_94 ?_
          refine lv_iload_n hx hb dX7_takeLaw_97 rfl (lv_at hl 0 rfl) ?_
          have hw := hw.u1
          have hw := hw.u1
          have hw := hw.u2
          have hw := hw.u5
          obtain ⟨r_13, u_R_14, u_L_15, u_K_16, h_12, hf⟩ := tx_b4_e hf
          refine tx_ci hw (tx_runN S hE hw (c_X4_read h_12) lk_X7_181 (q0 := 0) rfl rfl rfl hl.1 (rest := []) rfl (Nat.le_of_ble_eq_true rfl) ⟨by decide, by decide⟩ dX7_takeLaw_98 ⟨Nat.zero_le _, Nat.zero_le _⟩) (fun H locs hw => ?_)
          refine lv_istore_n (lv' := [(2, .int r_13), (1, .int y_6), (0, .ref (a_T 0))]) hx hb dX7_takeLaw_101 rfl hl (by decide) rfl (fun ls hl => ?_)
          refine lv_iload_n hx hb dX7_takeLaw_102 rfl (lv_at hl 0 rfl) ?_
          refine lv_if_eq (tgt := 114) hx hb dX7_takeLaw_103 (by decide) (fun h_17 => ?_) (fun h_17 => ?_)
          · replace hf := tx_pos hf h_17
            have hw := hw.u1
            have hw := hw.u5
            have hw := hw.u4
            have hw := hw.u4
            have hw := hw.u5
            exact J114 hf hw (lv_sub hl [] rfl)
          · replace hf := tx_neg hf h_17
            refine lv_aload_n hx hb dX7_takeLaw_106 rfl (lv_at hl 2 rfl) ?_
            refine lv_iload_n hx hb dX7_takeLaw_107 rfl (lv_at hl 0 rfl) ?_
            have hw := hw.u2
            have hw := hw.u4
            obtain ⟨r_19, u_T_20, h_18, hf⟩ := tx_b2_e hf
            refine tx_ci hw (tx_runV S hE hw (c_X7_blame h_18) lk_X7_76 (q0 := 0) rfl rfl rfl hl.1 (rest := []) rfl (Nat.le_of_ble_eq_true rfl) ⟨by decide, by decide⟩ dX7_takeLaw_108 ⟨Nat.zero_le _, Nat.zero_le _⟩) (fun H locs hw => ?_)
            refine lv_if_eq (tgt := 118) hx hb dX7_takeLaw_111 (by decide) (fun h_21 => ?_) (fun h_21 => ?_)
            · replace hf := tx_pos hf h_21
              refine lv_iconst (v := 0) hx hb dX7_takeLaw_118 (by decide) ?_
              have hw := hw.u2
              have hw := hw.u3
              have hw := hw.u5
              have hw := hw.u5
              have hw := hw.u5
              have hw := hw.u5
              obtain ⟨e0, e1, e2, e3, e4, e5⟩ := tx_in6 hf
              rw [← e0, ← e1, ← e2, ← e3, ← e4, ← e5]
              exact tx_zret S hr hlk (by decide) hw dX7_takeLaw_119
            · replace hf := tx_neg hf h_21
              have hw := hw.u2
              have hw := hw.u3
              have hw := hw.u5
              have hw := hw.u5
              have hw := hw.u5
              have hw := hw.u5
              exact J114 hf hw (lv_sub hl [] rfl)
        · replace hf := tx_neg hf h_9
          refine lv_aload_n hx hb dX7_takeLaw_73 rfl (lv_at hl 1 rfl) ?_
          refine lv_iconst (v := 3) hx hb dX7_takeLaw_74 (by decide) ?_
          have hw := hw.u1
          have hw := hw.u3
          obtain ⟨r_23, u_T_24, h_22, hf⟩ := tx_b2_e hf
          refine tx_ci hw (tx_runV S hE hw (c_X7_blame h_22) lk_X7_76 (q0 := 0) rfl rfl rfl hl.1 (rest := []) rfl (Nat.le_of_ble_eq_true rfl) ⟨by decide, by decide⟩ dX7_takeLaw_75 ⟨Nat.zero_le _, Nat.zero_le _⟩) (fun H locs hw => ?_)
          have hw := hw.u5
          have hw := hw.u3
          have hw := hw.u5
          have hw := hw.u5
          have hw := hw.u5
          have hw := hw.u5
          obtain ⟨h_25, hf⟩ := tx_bz_e hf
          obtain ⟨e0, e1, e2, e3, e4, e5⟩ := tx_in6 hf
          rw [← e0, ← e1, ← e2, ← e3, ← e4, ← e5]
          exact tx_zret S hr hlk h_25 hw dX7_takeLaw_78
      · replace hf := tx_neg hf h_5
        have hw := hw.u5
        have hw := hw.u5
        have hw := hw.u5
        have hw := hw.u4
        have hw := hw.u4
        have hw := hw.u5
        exact J42 hf hw (lv_sub hl [0] rfl)
def f_X7_takeLine (fu : Nat) (u_P : S32) (v_L : S64) (p_R_8 : Nat) (pa_L : Nat) (u_T : S32) (u_K : S32) (u_B : S32) (u_L : S32) (u_R : S32) : Option (Int32 × S32 × S32 × S32 × S32 × S32 × Nat) := if (u_K 0 4) = (4 : Int32) then (if u_K 0 5 = (0 : Int32) then (tx_b4 (f_X7_takeMan fu u_P u_T u_B u_K) fun (r_4 : Int32) (u_T_5 : S32) (u_B_6 : S32) (u_K_7 : S32) => tx_bz r_4 <| some (r_4, u_T_5, u_K_7, u_B_6, u_L, u_R, p_R_8)) else if u_K 0 5 = (1 : Int32) then (tx_b4 (f_X7_takeThought fu u_P u_T u_B u_K) fun (r_11 : Int32) (u_T_12 : S32) (u_B_13 : S32) (u_K_14 : S32) => tx_bz r_11 <| some (r_11, u_T_12, u_K_14, u_B_13, u_L, u_R, p_R_8)) else if u_K 0 5 = (2 : Int32) then (tx_b4 (f_X7_takeReader fu u_P u_T u_B u_K) fun (r_18 : Int32) (u_T_19 : S32) (u_B_20 : S32) (u_K_21 : S32) => tx_bz r_18 <| some (r_18, u_T_19, u_K_21, u_B_20, u_L, u_R, p_R_8)) else if u_K 0 5 = (3 : Int32) then (tx_b4 (f_X7_takeRate fu u_P u_T u_K u_B) fun (r_25 : Int32) (u_T_26 : S32) (u_K_27 : S32) (u_B_28 : S32) => tx_bz r_25 <| some (r_25, u_T_26, u_K_27, u_B_28, u_L, u_R, p_R_8)) else if u_K 0 5 = (4 : Int32) then (tx_b4 (f_X7_takeDull fu u_P u_T u_K u_B) fun (r_32 : Int32) (u_T_33 : S32) (u_K_34 : S32) (u_B_35 : S32) => tx_bz r_32 <| some (r_32, u_T_33, u_K_34, u_B_35, u_L, u_R, p_R_8)) else if u_K 0 5 = (5 : Int32) then (tx_b4 (f_X7_takeSeed fu u_P u_T u_K u_B) fun (r_39 : Int32) (u_T_40 : S32) (u_K_41 : S32) (u_B_42 : S32) => tx_bz r_39 <| some (r_39, u_T_40, u_K_41, u_B_42, u_L, u_R, p_R_8)) else if u_K 0 5 = (6 : Int32) then (tx_b6 (f_X7_takeLaw fu u_P u_B v_L p_R_8 pa_L u_T u_K u_L u_R) fun (r_46 : Int32) (u_T_47 : S32) (u_K_48 : S32) (u_L_49 : S32) (u_R_50 : S32) (q_51 : Nat) => tx_bz r_46 <| some (r_46, u_T_47, u_K_48, u_B, u_L_49, u_R_50, q_51)) else (tx_b2 (f_X7_blame fu u_K u_T (1 : Int32)) fun (r_54 : Int32) (u_T_55 : S32) => tx_bz r_54 <| some (r_54, u_T_55, u_K, u_B, u_L, u_R, p_R_8))) else (tx_b2 (f_X7_blame fu u_K u_T (1 : Int32)) fun (r_58 : Int32) (u_T_59 : S32) => tx_bz r_58 <| some (r_58, u_T_59, u_K, u_B, u_L, u_R, p_R_8))
set_option maxHeartbeats 4000000 in
set_option maxRecDepth 100000 in
theorem c_X7_takeLine {l : Launch} {g : GG} {A : Nat → Prop} {X : va_W} {fu : Nat} {a_T a_K a_B a_P a_L a_R : Nat → Nat} {p_R_8 : Nat} {u_T : S32} {u_K : S32} {u_B : S32} {u_P : S32} {u_L : S32} {v_L : S64} {u_R : S32} {r : Int32} {zu_T : S32} {zu_K : S32} {zu_B : S32} {zu_L : S32} {zu_R : S32} {zq_R_8 : Nat} (hf : f_X7_takeLine fu u_P v_L p_R_8 (a_L 0) u_T u_K u_B u_L u_R = some (r, zu_T, zu_K, zu_B, zu_L, zu_R, zq_R_8)) : MI l yX7_takeLine cX7_takeLine 1 (some .boolean) 5 g A (cl_X7 g a_T (a_K 0) (a_R 0) (a_B 0) u_T ++ (cl_X8 g a_K (a_P 0) u_K ++ (cl_X0 g a_B (a_L 0) u_B ++ (cl_X6 g a_P u_P ++ (cl_X5 g a_L u_L v_L ++ (cl_X4 g a_R (a_K 0) p_R_8 u_R ++ X)))))) [.ref (a_T 0)] r (cl_X7 g a_T (a_K 0) (a_R 0) (a_B 0) zu_T ++ (cl_X8 g a_K (a_P 0) zu_K ++ (cl_X0 g a_B (a_L 0) zu_B ++ (cl_X6 g a_P u_P ++ (cl_X5 g a_L zu_L v_L ++ (cl_X4 g a_R (a_K 0) zq_R_8 zu_R ++ X)))))) := by
  refine tx_start (av := [.ref (a_T 0)]) (by decide) (Nat.le_of_ble_eq_true rfl) ?_
  intro p e s m below meth c ls S hr hlk hE hw hl
  have S : CallFix p m c cX7_takeLine 1 s (List.toArray [.ref (a_T 0)]) (Cond.code yX7_takeLine cX7_takeLine 1 (some .boolean) :: allW) RX7 := S
  have hx := S.1
  have hb := S.2.1
  have hown := S.2.2.2.1
  have hts : ∀ w ∈ allW, w.before (List.toArray [.ref (a_T 0)]) s = true := fun w h => S.2.2.2.2 w (List.mem_cons_of_mem _ h)
  have hl : lv_has ls 1 [(0, .ref (a_T 0))] := hl
  unfold f_X7_takeLine at hf
  refine lv_aload_n hx hb dX7_takeLine_0 rfl (lv_at hl 0 rfl) ?_
  refine gf_X7_23 S hE hw 0 rfl rfl dX7_takeLine_1 ?_
  refine gf_X7_58 S hE hw 1 rfl rfl dX7_takeLine_4 ?_
  refine lv_iconst (v := 4) hx hb dX7_takeLine_7 (by decide) ?_
  refine lv_icmp_eq (tgt := 17) hx hb dX7_takeLine_8 (by decide) (fun h_1 => ?_) (fun h_1 => ?_)
  · replace hf := tx_pos hf h_1
    refine lv_aload_n hx hb dX7_takeLine_17 rfl (lv_at hl 0 rfl) ?_
    refine gf_X7_23 S hE hw 0 rfl rfl dX7_takeLine_18 ?_
    refine gf_X7_82 S hE hw 1 rfl rfl dX7_takeLine_21 ?_
    by_cases h_2 : u_K 0 5 = (0 : Int32)
    · replace hf := tx_pos hf h_2
      refine lv_tableIn (off := 44) (tgt := 68) hx hb dX7_takeLine_24 (by rw [h_2]; decide) (by rw [h_2]; decide) (by rw [h_2]; rfl) (by decide) ?_
      refine lv_aload_n hx hb dX7_takeLine_68 rfl (lv_at hl 0 rfl) ?_
      have hw := hw.u3
      have hw := hw.u2
      have hw := hw.u3
      have hw := hw.u3
      obtain ⟨r_4, u_T_5, u_B_6, u_K_7, h_3, hf⟩ := tx_b4_e hf
      refine tx_ci hw (tx_runV S hE hw (c_X7_takeMan h_3) lk_X7_85 (q0 := 0) rfl rfl rfl hl.1 (rest := []) rfl (Nat.le_of_ble_eq_true rfl) ⟨by decide, by decide⟩ dX7_takeLine_69 ⟨Nat.zero_le _, Nat.zero_le _⟩) (fun H locs hw => ?_)
      have hw := hw.u5
      have hw := hw.u5
      have hw := hw.u5
      have hw := hw.u4
      have hw := hw.u5
      have hw := hw.u5
      obtain ⟨h_8, hf⟩ := tx_bz_e hf
      obtain ⟨e0, e1, e2, e3, e4, e5, e6⟩ := tx_in7 hf
      rw [← e0, ← e1, ← e2, ← e3, ← e4, ← e5, ← e6]
      exact tx_zret S hr hlk h_8 hw dX7_takeLine_72
    replace hf := tx_neg hf h_2
    by_cases h_9 : u_K 0 5 = (1 : Int32)
    · replace hf := tx_pos hf h_9
      refine lv_tableIn (off := 49) (tgt := 73) hx hb dX7_takeLine_24 (by rw [h_9]; decide) (by rw [h_9]; decide) (by rw [h_9]; rfl) (by decide) ?_
      refine lv_aload_n hx hb dX7_takeLine_73 rfl (lv_at hl 0 rfl) ?_
      have hw := hw.u3
      have hw := hw.u2
      have hw := hw.u3
      have hw := hw.u3
      obtain ⟨r_11, u_T_12, u_B_13, u_K_14, h_10, hf⟩ := tx_b4_e hf
      refine tx_ci hw (tx_runV S hE hw (c_X7_takeThought h_10) lk_X7_88 (q0 := 0) rfl rfl rfl hl.1 (rest := []) rfl (Nat.le_of_ble_eq_true rfl) ⟨by decide, by decide⟩ dX7_takeLine_74 ⟨Nat.zero_le _, Nat.zero_le _⟩) (fun H locs hw => ?_)
      have hw := hw.u5
      have hw := hw.u5
      have hw := hw.u5
      have hw := hw.u4
      have hw := hw.u5
      have hw := hw.u5
      obtain ⟨h_15, hf⟩ := tx_bz_e hf
      obtain ⟨e0, e1, e2, e3, e4, e5, e6⟩ := tx_in7 hf
      rw [← e0, ← e1, ← e2, ← e3, ← e4, ← e5, ← e6]
      exact tx_zret S hr hlk h_15 hw dX7_takeLine_77
    replace hf := tx_neg hf h_9
    by_cases h_16 : u_K 0 5 = (2 : Int32)
    · replace hf := tx_pos hf h_16
      refine lv_tableIn (off := 54) (tgt := 78) hx hb dX7_takeLine_24 (by rw [h_16]; decide) (by rw [h_16]; decide) (by rw [h_16]; rfl) (by decide) ?_
      refine lv_aload_n hx hb dX7_takeLine_78 rfl (lv_at hl 0 rfl) ?_
      have hw := hw.u3
      have hw := hw.u2
      have hw := hw.u3
      have hw := hw.u3
      obtain ⟨r_18, u_T_19, u_B_20, u_K_21, h_17, hf⟩ := tx_b4_e hf
      refine tx_ci hw (tx_runV S hE hw (c_X7_takeReader h_17) lk_X7_91 (q0 := 0) rfl rfl rfl hl.1 (rest := []) rfl (Nat.le_of_ble_eq_true rfl) ⟨by decide, by decide⟩ dX7_takeLine_79 ⟨Nat.zero_le _, Nat.zero_le _⟩) (fun H locs hw => ?_)
      have hw := hw.u5
      have hw := hw.u5
      have hw := hw.u5
      have hw := hw.u4
      have hw := hw.u5
      have hw := hw.u5
      obtain ⟨h_22, hf⟩ := tx_bz_e hf
      obtain ⟨e0, e1, e2, e3, e4, e5, e6⟩ := tx_in7 hf
      rw [← e0, ← e1, ← e2, ← e3, ← e4, ← e5, ← e6]
      exact tx_zret S hr hlk h_22 hw dX7_takeLine_82
    replace hf := tx_neg hf h_16
    by_cases h_23 : u_K 0 5 = (3 : Int32)
    · replace hf := tx_pos hf h_23
      refine lv_tableIn (off := 59) (tgt := 83) hx hb dX7_takeLine_24 (by rw [h_23]; decide) (by rw [h_23]; decide) (by rw [h_23]; rfl) (by decide) ?_
      refine lv_aload_n hx hb dX7_takeLine_83 rfl (lv_at hl 0 rfl) ?_
      have hw := hw.u2
      have hw := hw.u3
      have hw := hw.u3
      have hw := hw.u3
      obtain ⟨r_25, u_T_26, u_K_27, u_B_28, h_24, hf⟩ := tx_b4_e hf
      refine tx_ci hw (tx_runV S hE hw (c_X7_takeRate h_24) lk_X7_94 (q0 := 0) rfl rfl rfl hl.1 (rest := []) rfl (Nat.le_of_ble_eq_true rfl) ⟨by decide, by decide⟩ dX7_takeLine_84 ⟨Nat.zero_le _, Nat.zero_le _⟩) (fun H locs hw => ?_)
      have hw := hw.u5
      have hw := hw.u5
      have hw := hw.u4
      have hw := hw.u5
      have hw := hw.u5
      have hw := hw.u5
      obtain ⟨h_29, hf⟩ := tx_bz_e hf
      obtain ⟨e0, e1, e2, e3, e4, e5, e6⟩ := tx_in7 hf
      rw [← e0, ← e1, ← e2, ← e3, ← e4, ← e5, ← e6]
      exact tx_zret S hr hlk h_29 hw dX7_takeLine_87
    replace hf := tx_neg hf h_23
    by_cases h_30 : u_K 0 5 = (4 : Int32)
    · replace hf := tx_pos hf h_30
      refine lv_tableIn (off := 64) (tgt := 88) hx hb dX7_takeLine_24 (by rw [h_30]; decide) (by rw [h_30]; decide) (by rw [h_30]; rfl) (by decide) ?_
      refine lv_aload_n hx hb dX7_takeLine_88 rfl (lv_at hl 0 rfl) ?_
      have hw := hw.u2
      have hw := hw.u3
      have hw := hw.u3
      have hw := hw.u3
      obtain ⟨r_32, u_T_33, u_K_34, u_B_35, h_31, hf⟩ := tx_b4_e hf
      refine tx_ci hw (tx_runV S hE hw (c_X7_takeDull h_31) lk_X7_97 (q0 := 0) rfl rfl rfl hl.1 (rest := []) rfl (Nat.le_of_ble_eq_true rfl) ⟨by decide, by decide⟩ dX7_takeLine_89 ⟨Nat.zero_le _, Nat.zero_le _⟩) (fun H locs hw => ?_)
      have hw := hw.u5
      have hw := hw.u5
      have hw := hw.u4
      have hw := hw.u5
      have hw := hw.u5
      have hw := hw.u5
      obtain ⟨h_36, hf⟩ := tx_bz_e hf
      obtain ⟨e0, e1, e2, e3, e4, e5, e6⟩ := tx_in7 hf
      rw [← e0, ← e1, ← e2, ← e3, ← e4, ← e5, ← e6]
      exact tx_zret S hr hlk h_36 hw dX7_takeLine_92
    replace hf := tx_neg hf h_30
    by_cases h_37 : u_K 0 5 = (5 : Int32)
    · replace hf := tx_pos hf h_37
      refine lv_tableIn (off := 69) (tgt := 93) hx hb dX7_takeLine_24 (by rw [h_37]; decide) (by rw [h_37]; decide) (by rw [h_37]; rfl) (by decide) ?_
      refine lv_aload_n hx hb dX7_takeLine_93 rfl (lv_at hl 0 rfl) ?_
      have hw := hw.u2
      have hw := hw.u3
      have hw := hw.u3
      have hw := hw.u3
      obtain ⟨r_39, u_T_40, u_K_41, u_B_42, h_38, hf⟩ := tx_b4_e hf
      refine tx_ci hw (tx_runV S hE hw (c_X7_takeSeed h_38) lk_X7_100 (q0 := 0) rfl rfl rfl hl.1 (rest := []) rfl (Nat.le_of_ble_eq_true rfl) ⟨by decide, by decide⟩ dX7_takeLine_94 ⟨Nat.zero_le _, Nat.zero_le _⟩) (fun H locs hw => ?_)
      have hw := hw.u5
      have hw := hw.u5
      have hw := hw.u4
      have hw := hw.u5
      have hw := hw.u5
      have hw := hw.u5
      obtain ⟨h_43, hf⟩ := tx_bz_e hf
      obtain ⟨e0, e1, e2, e3, e4, e5, e6⟩ := tx_in7 hf
      rw [← e0, ← e1, ← e2, ← e3, ← e4, ← e5, ← e6]
      exact tx_zret S hr hlk h_43 hw dX7_takeLine_97
    replace hf := tx_neg hf h_37
    by_cases h_44 : u_K 0 5 = (6 : Int32)
    · replace hf := tx_pos hf h_44
      refine lv_tableIn (off := 74) (tgt := 98) hx hb dX7_takeLine_24 (by rw [h_44]; decide) (by rw [h_44]; decide) (by rw [h_44]; rfl) (by decide) ?_
      refine lv_aload_n hx hb dX7_takeLine_98 rfl (lv_at hl 0 rfl) ?_
      have hw := hw.u5
      have hw := hw.u5
      have hw := hw.u4
      have hw := hw.u5
      have hw := hw.u5
      have hw := hw.u5
      obtain ⟨r_46, u_T_47, u_K_48, u_L_49, u_R_50, q_51, h_45, hf⟩ := tx_b6_e hf
      refine tx_ci hw (tx_runV S hE hw (c_X7_takeLaw h_45) lk_X7_103 (q0 := 0) rfl rfl rfl hl.1 (rest := []) rfl (Nat.le_of_ble_eq_true rfl) ⟨by decide, by decide⟩ dX7_takeLine_99 ⟨Nat.zero_le _, Nat.zero_le _⟩) (fun H locs hw => ?_)
      have hw := hw.u5
      have hw := hw.u5
      have hw := hw.u4
      have hw := hw.u5
      have hw := hw.u5
      have hw := hw.u5
      obtain ⟨h_52, hf⟩ := tx_bz_e hf
      obtain ⟨e0, e1, e2, e3, e4, e5, e6⟩ := tx_in7 hf
      rw [← e0, ← e1, ← e2, ← e3, ← e4, ← e5, ← e6]
      exact tx_zret S hr hlk h_52 hw dX7_takeLine_102
    replace hf := tx_neg hf h_44
    have eh_2 : (u_K 0 5).toInt ≠ 0 := tx_ne h_2
    have eh_9 : (u_K 0 5).toInt ≠ 1 := tx_ne h_9
    have eh_16 : (u_K 0 5).toInt ≠ 2 := tx_ne h_16
    have eh_23 : (u_K 0 5).toInt ≠ 3 := tx_ne h_23
    have eh_30 : (u_K 0 5).toInt ≠ 4 := tx_ne h_30
    have eh_37 : (u_K 0 5).toInt ≠ 5 := tx_ne h_37
    have eh_44 : (u_K 0 5).toInt ≠ 6 := tx_ne h_44
    refine lv_tableOut (tgt := 103) hx hb dX7_takeLine_24 (by omega) (by decide) ?_
    refine lv_aload_n hx hb dX7_takeLine_103 rfl (lv_at hl 0 rfl) ?_
    refine lv_iconst (v := 1) hx hb dX7_takeLine_104 (by decide) ?_
    obtain ⟨r_54, u_T_55, h_53, hf⟩ := tx_b2_e hf
    refine tx_ci hw (tx_runV S hE hw (c_X7_blame h_53) lk_X7_76 (q0 := 0) rfl rfl rfl hl.1 (rest := []) rfl (Nat.le_of_ble_eq_true rfl) ⟨by decide, by decide⟩ dX7_takeLine_105 ⟨Nat.zero_le _, Nat.zero_le _⟩) (fun H locs hw => ?_)
    obtain ⟨h_56, hf⟩ := tx_bz_e hf
    obtain ⟨e0, e1, e2, e3, e4, e5, e6⟩ := tx_in7 hf
    rw [← e0, ← e1, ← e2, ← e3, ← e4, ← e5, ← e6]
    exact tx_zret S hr hlk h_56 hw dX7_takeLine_108
  · replace hf := tx_neg hf h_1
    refine lv_aload_n hx hb dX7_takeLine_11 rfl (lv_at hl 0 rfl) ?_
    refine lv_iconst (v := 1) hx hb dX7_takeLine_12 (by decide) ?_
    obtain ⟨r_58, u_T_59, h_57, hf⟩ := tx_b2_e hf
    refine tx_ci hw (tx_runV S hE hw (c_X7_blame h_57) lk_X7_76 (q0 := 0) rfl rfl rfl hl.1 (rest := []) rfl (Nat.le_of_ble_eq_true rfl) ⟨by decide, by decide⟩ dX7_takeLine_13 ⟨Nat.zero_le _, Nat.zero_le _⟩) (fun H locs hw => ?_)
    obtain ⟨h_60, hf⟩ := tx_bz_e hf
    obtain ⟨e0, e1, e2, e3, e4, e5, e6⟩ := tx_in7 hf
    rw [← e0, ← e1, ← e2, ← e3, ← e4, ← e5, ← e6]
    exact tx_zret S hr hlk h_60 hw dX7_takeLine_16
