def f_X12_number1 (fu : Nat) (u_T : S32) (v_T : S64) (x1 : Int32) : Option (Int32 × S64) := tx_let (up4 v_T 0 59 ((((v_T 0 59) * (1103515245 : Int64)) + (12345 : Int64)) &&& (2147483647 : Int64))) fun (v_T_1 : S64) => tx_nl (x1.toInt64) <| some ((((v_T_1 0 59) / (65536 : Int64)) - ((v_T_1 0 59) / (65536 : Int64)) / (x1.toInt64) * (x1.toInt64)).toInt32, v_T_1)
set_option maxHeartbeats 4000000 in
set_option maxRecDepth 100000 in
theorem c_X12_number1 {l : Launch} {g : GG} {A : Nat → Prop} {X : va_W} {fu : Nat} {a_T : Nat → Nat} {u_T : S32} {v_T : S64} {x1 : Int32} {r : Int32} {zv_T : S64} (hf : f_X12_number1 fu u_T v_T x1 = some (r, zv_T)) : MI l yX12_number1 cX12_number1 2 (some .int) 0 g A (cl_X12 g a_T u_T v_T ++ X) [.ref (a_T 0), .int x1] r (cl_X12 g a_T u_T zv_T ++ X) := by
  refine tx_start (av := [.ref (a_T 0), .int x1]) (by decide) (Nat.le_of_ble_eq_true rfl) ?_
  intro p e s m below meth c ls S hr hlk hE hw hl
  have S : CallFix p m c cX12_number1 2 s (List.toArray [.ref (a_T 0), .int x1]) (Cond.code yX12_number1 cX12_number1 2 (some .int) :: allW) RX12 := S
  have hx := S.1
  have hb := S.2.1
  have hown := S.2.2.2.1
  have hts : ∀ w ∈ allW, w.before (List.toArray [.ref (a_T 0), .int x1]) s = true := fun w h => S.2.2.2.2 w (List.mem_cons_of_mem _ h)
  have hl : lv_has ls 2 [(0, .ref (a_T 0)), (1, .int x1)] := hl
  unfold f_X12_number1 at hf
  refine lv_aload_n hx hb dX12_number1_0 rfl (lv_at hl 0 rfl) ?_
  refine lv_aload_n hx hb dX12_number1_1 rfl (lv_at hl 0 rfl) ?_
  refine gf_X12_340 S hE hw 0 rfl rfl dX12_number1_2 ?_
  refine lv_ldc2 (v := 1103515245) hx hb hown (hts _ kw_1857) dX12_number1_5 ?_
  refine lv_lmul hx hb dX12_number1_8 ?_
  refine lv_ldc2 (v := 12345) hx hb hown (hts _ kw_1858) dX12_number1_9 ?_
  refine lv_ladd hx hb dX12_number1_12 ?_
  refine lv_ldc2 (v := 2147483647) hx hb hown (hts _ kw_1859) dX12_number1_13 ?_
  refine lv_land hx hb dX12_number1_16 ?_
  obtain ⟨v_T_1, ev_T_1⟩ : ∃ z : S64, z = up4 v_T 0 59 ((((v_T 0 59) * (1103515245 : Int64)) + (12345 : Int64)) &&& (2147483647 : Int64)) := ⟨_, rfl⟩
  replace hf := tx_let_e hf ev_T_1
  refine pf_X12_340 (ws' := cl_X12 g a_T u_T v_T_1 ++ X) S hE hw rfl rfl 0 rfl (Nat.le_of_ble_eq_true rfl) (by rw [ev_T_1]; rfl) dX12_number1_17 (fun H locs hw => ?_)
  refine lv_aload_n hx hb dX12_number1_20 rfl (lv_at hl 0 rfl) ?_
  refine gf_X12_340 S hE hw 0 rfl rfl dX12_number1_21 ?_
  refine lv_ldc2 (v := 65536) hx hb hown (hts _ kw_1860) dX12_number1_24 ?_
  refine lv_ldiv hx hb dX12_number1_27 (by decide) ?_
  refine lv_iload_n hx hb dX12_number1_28 rfl (lv_at hl 1 rfl) ?_
  refine lv_i2l (v := x1.toInt64) hx hb dX12_number1_29 rfl ?_
  obtain ⟨h_2, hf⟩ := tx_nl_e hf
  refine lv_lrem hx hb dX12_number1_30 h_2 ?_
  refine lv_l2i (v := (((v_T_1 0 59) / (65536 : Int64)) - ((v_T_1 0 59) / (65536 : Int64)) / (x1.toInt64) * (x1.toInt64)).toInt32) hx hb dX12_number1_31 rfl ?_
  obtain ⟨e0, e1⟩ := tx_in2 hf
  rw [← e0, ← e1]
  exact tx_iret S hr hlk hw dX12_number1_32
def f_X12_isReadAt_J35 (fu : Nat) (u_T : S32) (v_T : S64) (w5 : Int32) : Option (Int32 × S32 × S64) := if w5 = (100 : Int32) then (some ((1 : Int32), u_T, v_T)) else (some ((0 : Int32), u_T, v_T))
def f_X12_isReadAt (fu : Nat) (u_T : S32) (v_T : S64) (x1 : Int32) (x2 : Int32) (x3 : Int32) (x4 : Int32) : Option (Int32 × S32 × S64) := tx_b1 (f_X12_knows fu u_T v_T x4 x2) fun (r_2 : Int32) => if r_2 = (0 : Int32) then (some ((0 : Int32), u_T, v_T)) else (tx_b3 (f_X12_readOf fu u_T v_T x1 x2 x3 x4) fun (r_5 : Int32) (u_T_6 : S32) (v_T_7 : S64) => if r_5 = (0 : Int32) then (f_X12_isReadAt_J35 fu u_T_6 v_T_7 r_5) else (if r_5 = (100 : Int32) then (f_X12_isReadAt_J35 fu u_T_6 v_T_7 r_5) else (if (u_T_6 0 61) = (0 : Int32) then (if r_5 < (50 : Int32) then (some ((0 : Int32), u_T_6, v_T_7)) else (some ((1 : Int32), u_T_6, v_T_7))) else (tx_b2 (f_X12_number1 fu u_T_6 v_T_7 (100 : Int32)) fun (r_13 : Int32) (v_T_14 : S64) => if r_5 ≤ r_13 then (some ((0 : Int32), u_T_6, v_T_14)) else (some ((1 : Int32), u_T_6, v_T_14))))))
set_option maxHeartbeats 4000000 in
set_option maxRecDepth 100000 in
theorem c_X12_isReadAt {l : Launch} {g : GG} {A : Nat → Prop} {X : va_W} {fu : Nat} {a_T : Nat → Nat} {u_T : S32} {v_T : S64} {x1 : Int32} {x2 : Int32} {x3 : Int32} {x4 : Int32} {r : Int32} {zu_T : S32} {zv_T : S64} (hf : f_X12_isReadAt fu  u_T v_T x1 x2 x3 x4 = some (r, zu_T, zv_T)) : MI l yX12_isReadAt cX12_isReadAt 6 (some .boolean) 5 g A (cl_X12 g a_T u_T v_T ++ X) [.ref (a_T 0), .int x1, .int x2, .int x3, .int x4] r (cl_X12 g a_T zu_T zv_T ++ X) := by
  refine tx_start (av := [.ref (a_T 0), .int x1, .int x2, .int x3, .int x4]) (by decide) (Nat.le_of_ble_eq_true rfl) ?_
  intro p e s m below meth c ls S hr hlk hE hw hl
  have S : CallFix p m c cX12_isReadAt 6 s (List.toArray [.ref (a_T 0), .int x1, .int x2, .int x3, .int x4]) (Cond.code yX12_isReadAt cX12_isReadAt 6 (some .boolean) :: allW) RX12 := S
  have hx := S.1
  have hb := S.2.1
  have hown := S.2.2.2.1
  have hts : ∀ w ∈ allW, w.before (List.toArray [.ref (a_T 0), .int x1, .int x2, .int x3, .int x4]) s = true := fun w h => S.2.2.2.2 w (List.mem_cons_of_mem _ h)
  have hl : lv_has ls 6 [(0, .ref (a_T 0)), (1, .int x1), (2, .int x2), (3, .int x3), (4, .int x4)] := hl
  have J35 : ∀ {u_T : S32} {v_T : S64} {w5 : Int32} {H : Heap} {locs : List Loc} {ls : Array Slot}, f_X12_isReadAt_J35 fu u_T v_T w5 = some (r, zu_T, zv_T) → WD g A s.heap (cl_X12 g a_T u_T v_T ++ X) H locs → lv_has ls 6 [(5, .int w5)] → W p l e (rmH 5) s m (List.toArray [.ref (a_T 0), .int x1, .int x2, .int x3, .int x4]) below meth c H locs 0 0 (MQ below (va_Qi (fun r2 (_ : Unit) => r2 = r) (fun _ t => POST g A (cl_X12 g a_T zu_T zv_T ++ X) t) A) (List.toArray [.ref (a_T 0), .int x1, .int x2, .int x3, .int x4]) s 0 0 A) (F0 m 35 ls []) := by
    intro u_T v_T w5 H locs ls hf hw hl
    unfold f_X12_isReadAt_J35 at hf
    refine lv_iload hx hb dX12_isReadAt_35 (lv_at hl 0 rfl) ?_
    refine lv_bipush (v := 100) hx hb dX12_isReadAt_37 (by decide) ?_
    refine lv_icmp_ne (tgt := 46) hx hb dX12_isReadAt_39 (by decide) (fun h_16 => ?_) (fun h_16 => ?_)
    · replace hf := tx_neg hf h_16
      refine lv_iconst (v := 0) hx hb dX12_isReadAt_46 (by decide) ?_
      obtain ⟨e0, e1, e2⟩ := tx_in3 hf
      rw [← e0, ← e1, ← e2]
      exact tx_zret S hr hlk (by decide) hw dX12_isReadAt_47
    · replace hf := tx_pos hf h_16
      refine lv_iconst (v := 1) hx hb dX12_isReadAt_42 (by decide) ?_
      refine lv_goto (tgt := 47) hx hb dX12_isReadAt_43 (by decide) ?_
      obtain ⟨e0, e1, e2⟩ := tx_in3 hf
      rw [← e0, ← e1, ← e2]
      exact tx_zret S hr hlk (by decide) hw dX12_isReadAt_47
  unfold f_X12_isReadAt at hf
  refine lv_aload_n hx hb dX12_isReadAt_0 rfl (lv_at hl 0 rfl) ?_
  refine lv_iload hx hb dX12_isReadAt_1 (lv_at hl 4 rfl) ?_
  refine lv_iload_n hx hb dX12_isReadAt_3 rfl (lv_at hl 2 rfl) ?_
  obtain ⟨r_2, h_1, hf⟩ := tx_b1_e hf
  refine tx_ci hw (tx_runV S hE hw (c_X12_knows h_1) lk_X12_421 (q0 := 0) rfl rfl rfl hl.1 (rest := []) rfl (Nat.le_of_ble_eq_true rfl) ⟨by decide, by decide⟩ dX12_isReadAt_4 ⟨Nat.zero_le _, Nat.zero_le _⟩) (fun H locs hw => ?_)
  refine lv_if_ne (tgt := 12) hx hb dX12_isReadAt_7 (by decide) (fun h_3 => ?_) (fun h_3 => ?_)
  · replace hf := tx_neg hf h_3
    refine lv_aload_n hx hb dX12_isReadAt_12 rfl (lv_at hl 0 rfl) ?_
    refine lv_iload_n hx hb dX12_isReadAt_13 rfl (lv_at hl 1 rfl) ?_
    refine lv_iload_n hx hb dX12_isReadAt_14 rfl (lv_at hl 2 rfl) ?_
    refine lv_iload_n hx hb dX12_isReadAt_15 rfl (lv_at hl 3 rfl) ?_
    refine lv_iload hx hb dX12_isReadAt_16 (lv_at hl 4 rfl) ?_
    obtain ⟨r_5, u_T_6, v_T_7, h_4, hf⟩ := tx_b3_e hf
    refine tx_ci hw (tx_runV S hE hw (c_X12_readOf h_4) lk_X12_424 (q0 := 0) rfl rfl rfl hl.1 (rest := []) rfl (Nat.le_of_ble_eq_true rfl) ⟨by decide, by decide⟩ dX12_isReadAt_18 ⟨Nat.zero_le _, Nat.zero_le _⟩) (fun H locs hw => ?_)
    refine lv_istore (lv' := [(5, .int r_5), (0, .ref (a_T 0)), (1, .int x1), (2, .int x2), (3, .int x3), (4, .int x4)]) hx hb dX12_isReadAt_21 hl (by decide) rfl (fun ls hl => ?_)
    refine lv_iload hx hb dX12_isReadAt_23 (lv_at hl 0 rfl) ?_
    refine lv_if_eq (tgt := 35) hx hb dX12_isReadAt_25 (by decide) (fun h_8 => ?_) (fun h_8 => ?_)
    · replace hf := tx_pos hf h_8
      exact J35 hf hw (lv_sub hl [0] rfl)
    · replace hf := tx_neg hf h_8
      refine lv_iload hx hb dX12_isReadAt_28 (lv_at hl 0 rfl) ?_
      refine lv_bipush (v := 100) hx hb dX12_isReadAt_30 (by decide) ?_
      refine lv_icmp_ne (tgt := 48) hx hb dX12_isReadAt_32 (by decide) (fun h_9 => ?_) (fun h_9 => ?_)
      · replace hf := tx_neg hf h_9
        refine lv_aload_n hx hb dX12_isReadAt_48 rfl (lv_at hl 1 rfl) ?_
        refine gf_X12_356 S hE hw 0 rfl rfl dX12_isReadAt_49 ?_
        refine lv_if_eq (tgt := 74) hx hb dX12_isReadAt_52 (by decide) (fun h_10 => ?_) (fun h_10 => ?_)
        · replace hf := tx_pos hf h_10
          refine lv_iload hx hb dX12_isReadAt_74 (lv_at hl 0 rfl) ?_
          refine lv_bipush (v := 50) hx hb dX12_isReadAt_76 (by decide) ?_
          refine lv_icmp_lt (tgt := 85) hx hb dX12_isReadAt_78 (by decide) (fun h_11 => ?_) (fun h_11 => ?_)
          · replace hf := tx_pos hf h_11
            refine lv_iconst (v := 0) hx hb dX12_isReadAt_85 (by decide) ?_
            obtain ⟨e0, e1, e2⟩ := tx_in3 hf
            rw [← e0, ← e1, ← e2]
            exact tx_zret S hr hlk (by decide) hw dX12_isReadAt_86
          · replace hf := tx_neg hf h_11
            refine lv_iconst (v := 1) hx hb dX12_isReadAt_81 (by decide) ?_
            refine lv_goto (tgt := 86) hx hb dX12_isReadAt_82 (by decide) ?_
            obtain ⟨e0, e1, e2⟩ := tx_in3 hf
            rw [← e0, ← e1, ← e2]
            exact tx_zret S hr hlk (by decide) hw dX12_isReadAt_86
        · replace hf := tx_neg hf h_10
          refine lv_iload hx hb dX12_isReadAt_55 (lv_at hl 0 rfl) ?_
          refine lv_aload_n hx hb dX12_isReadAt_57 rfl (lv_at hl 1 rfl) ?_
          refine lv_bipush (v := 100) hx hb dX12_isReadAt_58 (by decide) ?_
          obtain ⟨r_13, v_T_14, h_12, hf⟩ := tx_b2_e hf
          refine tx_ci hw (tx_runV S hE hw (c_X12_number1 h_12) lk_X12_428 (q0 := 0) rfl rfl rfl hl.1 (rest := [.int r_5]) rfl (Nat.le_of_ble_eq_true rfl) ⟨by decide, by decide⟩ dX12_isReadAt_60 ⟨Nat.zero_le _, Nat.zero_le _⟩) (fun H locs hw => ?_)
          refine lv_icmp_le (tgt := 70) hx hb dX12_isReadAt_63 (by decide) (fun h_15 => ?_) (fun h_15 => ?_)
          · replace hf := tx_pos hf h_15
            refine lv_iconst (v := 0) hx hb dX12_isReadAt_70 (by decide) ?_
            refine lv_goto (tgt := 86) hx hb dX12_isReadAt_71 (by decide) ?_
            obtain ⟨e0, e1, e2⟩ := tx_in3 hf
            rw [← e0, ← e1, ← e2]
            exact tx_zret S hr hlk (by decide) hw dX12_isReadAt_86
          · replace hf := tx_neg hf h_15
            refine lv_iconst (v := 1) hx hb dX12_isReadAt_66 (by decide) ?_
            refine lv_goto (tgt := 86) hx hb dX12_isReadAt_67 (by decide) ?_
            obtain ⟨e0, e1, e2⟩ := tx_in3 hf
            rw [← e0, ← e1, ← e2]
            exact tx_zret S hr hlk (by decide) hw dX12_isReadAt_86
      · replace hf := tx_pos hf h_9
        exact J35 hf hw (lv_sub hl [0] rfl)
  · replace hf := tx_pos hf h_3
    refine lv_iconst (v := 0) hx hb dX12_isReadAt_10 (by decide) ?_
    obtain ⟨e0, e1, e2⟩ := tx_in3 hf
    rw [← e0, ← e1, ← e2]
    exact tx_zret S hr hlk (by decide) hw dX12_isReadAt_11
def f_X12_visits_J131 (fu : Nat) (K23 : S32 → S64 → Int32 → Int32 → Int32 → Int32 → Int32 → Option (S32 × S64)) (u_T : S32) (v_T : S64) (w1 : Int32) (w2 : Int32) (w3 : Int32) (w4 : Int32) (w5 : Int32) : Option (S32 × S64) := tx_let (w5 + (1 : Int32)) fun (y_45 : Int32) => K23 u_T v_T w1 w2 w3 w4 y_45
def f_X12_visits_J129 (fu : Nat) (K23 : S32 → S64 → Int32 → Int32 → Int32 → Int32 → Int32 → Option (S32 × S64)) (u_T : S32) (v_T : S64) (w1 : Int32) (w2 : Int32) (w3 : Int32) (w5 : Int32) (t0 : Int32) : Option (S32 × S64) := f_X12_visits_J131 fu K23 u_T v_T w1 w2 w3 t0 w5
def f_X12_visits_J250 (fu : Nat) (u_T : S32) (v_T : S64) (w1 : Int32) (w2 : Int32) : Option (S32 × S64) := tx_ck (((6 : Int32) * w1) + w2) 12 <| tx_let (up2 u_T 56 (((6 : Int32) * w1) + w2).toNatClampNeg (0 : Int32)) fun (u_T_44 : S32) => some (u_T_44, v_T)
def f_X12_visits_J209 (fu : Nat) (u_T : S32) (v_T : S64) (w1 : Int32) (w2 : Int32) (w5 : Int32) (w6 : Int32) (t0 : Int32) : Option (S32 × S64) := tx_ck w6 12 <| tx_ck w6 12 <| tx_let (up2 u_T 53 w6.toNatClampNeg ((u_T 53 w6.toNatClampNeg) - t0)) fun (u_T_36 : S32) => tx_ck w6 12 <| tx_ck w6 12 <| tx_let (up2 u_T_36 54 w6.toNatClampNeg ((u_T_36 54 w6.toNatClampNeg) + t0)) fun (u_T_39 : S32) => tx_ck w6 12 <| tx_ck w6 12 <| tx_let (up2 u_T_39 55 w6.toNatClampNeg ((u_T_39 55 w6.toNatClampNeg) + (w5 - t0))) fun (u_T_42 : S32) => f_X12_visits_J250 fu u_T_42 v_T w1 w2
def f_X12_visits_J23 (fu : Nat) (K23 : S32 → S64 → Int32 → Int32 → Int32 → Int32 → Int32 → Option (S32 × S64)) (u_T : S32) (v_T : S64) (w1 : Int32) (w2 : Int32) (w3 : Int32) (w4 : Int32) (w5 : Int32) : Option (S32 × S64) := if (u_T 0 13) ≤ w5 then (if w4 ≤ (0 : Int32) then (f_X12_visits_J250 fu u_T v_T w1 w2) else (tx_b1 (f_X12_skillIn fu u_T v_T w3) fun (r_7 : Int32) => tx_b1 (f_X12_layNames fu u_T v_T w1 w4 r_7 w2) fun (v_T_9 : S64) => tx_ck w1 2 <| tx_b3 (f_X12_boundLaw fu u_T v_T_9 (1 : Int32) ((w4 * (u_T 58 w1.toNatClampNeg)) / (100 : Int32)) (999 : Int32)) fun (r_12 : Int32) (u_T_13 : S32) (v_T_14 : S64) => tx_let (((6 : Int32) * w1) + w2) fun (y_15 : Int32) => tx_ck y_15 12 <| if (u_T_13 53 y_15.toNatClampNeg) ≤ r_12 then (tx_ck y_15 12 <| f_X12_visits_J209 fu u_T_13 v_T_14 w1 w2 r_12 y_15 (u_T_13 53 y_15.toNatClampNeg)) else (f_X12_visits_J209 fu u_T_13 v_T_14 w1 w2 r_12 y_15 r_12))) else (tx_ck (((12 : Int32) * w1) + w5) 24 <| if (u_T 50 (((12 : Int32) * w1) + w5).toNatClampNeg) = (1 : Int32) then (tx_ck (((12 : Int32) * w1) + w5) 24 <| if (u_T 51 (((12 : Int32) * w1) + w5).toNatClampNeg) = w2 then (tx_b3 (f_X12_isReadAt fu u_T v_T w1 w5 w2 w3) fun (r_24 : Int32) (u_T_25 : S32) (v_T_26 : S64) => if r_24 = (0 : Int32) then (f_X12_visits_J131 fu K23 u_T_25 v_T_26 w1 w2 w3 w4 w5) else (tx_ck (((12 : Int32) * w1) + w5) 24 <| tx_let (up2 u_T_25 52 (((12 : Int32) * w1) + w5).toNatClampNeg ((1 : Int32) &&& 1)) fun (u_T_29 : S32) => tx_let (up2 u_T_29 0 60 ((u_T_29 0 60) ||| ((1 : Int32) <<< (w5 &&& 31)))) fun (u_T_30 : S32) => tx_ck w5 24 <| if (u_T_30 27 w5.toNatClampNeg) ≤ w4 then (f_X12_visits_J129 fu K23 u_T_30 v_T_26 w1 w2 w3 w5 w4) else (tx_ck w5 24 <| f_X12_visits_J129 fu K23 u_T_30 v_T_26 w1 w2 w3 w5 (u_T_30 27 w5.toNatClampNeg)))) else (f_X12_visits_J131 fu K23 u_T v_T w1 w2 w3 w4 w5)) else (f_X12_visits_J131 fu K23 u_T v_T w1 w2 w3 w4 w5))
def f_X12_visits_L23 (fu : Nat) : Nat → S32 → S64 → Int32 → Int32 → Int32 → Int32 → Int32 → Option (S32 × S64)
  | 0 => fun _ _ _ _ _ _ _ => none
  | n + 1 => f_X12_visits_J23 fu (f_X12_visits_L23 fu n)
def f_X12_visits (fu : Nat) (u_T : S32) (v_T : S64) (x1 : Int32) (x2 : Int32) : Option (S32 × S64) := tx_ck (((6 : Int32) * x1) + x2) 12 <| tx_let (u_T 57 (((6 : Int32) * x1) + x2).toNatClampNeg) fun (y_2 : Int32) => if (0 : Int32) ≤ y_2 then (f_X12_visits_L23 fu fu u_T v_T x1 x2 y_2 (0 : Int32) (0 : Int32)) else (some (u_T, v_T))
set_option maxHeartbeats 4000000 in
set_option maxRecDepth 100000 in
theorem c_X12_visits {l : Launch} {g : GG} {A : Nat → Prop} {X : va_W} {fu : Nat} {a_T : Nat → Nat} {u_T : S32} {v_T : S64} {x1 : Int32} {x2 : Int32} {zu_T : S32} {zv_T : S64} (hf : f_X12_visits fu  u_T v_T x1 x2 = some (zu_T, zv_T)) : MV l yX12_visits cX12_visits 8 none 6 g A (cl_X12 g a_T u_T v_T ++ X) [.ref (a_T 0), .int x1, .int x2] (cl_X12 g a_T zu_T zv_T ++ X) := by
  refine tx_start (av := [.ref (a_T 0), .int x1, .int x2]) (by decide) (Nat.le_of_ble_eq_true rfl) ?_
  intro p e s m below meth c ls S hr hlk hE hw hl
  have S : CallFix p m c cX12_visits 8 s (List.toArray [.ref (a_T 0), .int x1, .int x2]) (Cond.code yX12_visits cX12_visits 8 none :: allW) RX12 := S
  have hx := S.1
  have hb := S.2.1
  have hown := S.2.2.2.1
  have hts : ∀ w ∈ allW, w.before (List.toArray [.ref (a_T 0), .int x1, .int x2]) s = true := fun w h => S.2.2.2.2 w (List.mem_cons_of_mem _ h)
  have hl : lv_has ls 8 [(0, .ref (a_T 0)), (1, .int x1), (2, .int x2)] := hl
  have J131 : ∀ {K23 : S32 → S64 → Int32 → Int32 → Int32 → Int32 → Int32 → Option (S32 × S64)} (hK23 : ∀ {u_T : S32} {v_T : S64} {w1 : Int32} {w2 : Int32} {w3 : Int32} {w4 : Int32} {w5 : Int32} {H : Heap} {locs : List Loc} {ls : Array Slot}, K23 u_T v_T w1 w2 w3 w4 w5 = some (zu_T, zv_T) → WD g A s.heap (cl_X12 g a_T u_T v_T ++ X) H locs → lv_has ls 8 [(0, .ref (a_T 0)), (1, .int w1), (2, .int w2), (3, .int w3), (4, .int w4), (5, .int w5)] → W p l e (rmH 6) s m (List.toArray [.ref (a_T 0), .int x1, .int x2]) below meth c H locs 0 0 (MQ below (va_Qv (fun (_ : Unit) => True) (fun _ t => POST g A (cl_X12 g a_T zu_T zv_T ++ X) t) A) (List.toArray [.ref (a_T 0), .int x1, .int x2]) s 0 0 A) (F0 m 23 ls [])), ∀ {u_T : S32} {v_T : S64} {w1 : Int32} {w2 : Int32} {w3 : Int32} {w4 : Int32} {w5 : Int32} {H : Heap} {locs : List Loc} {ls : Array Slot}, f_X12_visits_J131 fu K23 u_T v_T w1 w2 w3 w4 w5 = some (zu_T, zv_T) → WD g A s.heap (cl_X12 g a_T u_T v_T ++ X) H locs → lv_has ls 8 [(0, .ref (a_T 0)), (1, .int w1), (2, .int w2), (3, .int w3), (4, .int w4), (5, .int w5)] → W p l e (rmH 6) s m (List.toArray [.ref (a_T 0), .int x1, .int x2]) below meth c H locs 0 0 (MQ below (va_Qv (fun (_ : Unit) => True) (fun _ t => POST g A (cl_X12 g a_T zu_T zv_T ++ X) t) A) (List.toArray [.ref (a_T 0), .int x1, .int x2]) s 0 0 A) (F0 m 131 ls []) := by
    intro K23 hK23 u_T v_T w1 w2 w3 w4 w5 H locs ls hf hw hl
    unfold f_X12_visits_J131 at hf
    obtain ⟨y_45, ey_45⟩ : ∃ y : Int32, y = w5 + (1 : Int32) := ⟨_, rfl⟩
    replace hf := tx_let_e hf ey_45
    refine lv_iinc (v := y_45) (lv' := [(5, .int y_45), (0, .ref (a_T 0)), (1, .int w1), (2, .int w2), (3, .int w3), (4, .int w4)]) hx hb dX12_visits_131 hl (k := 5) rfl (by rw [ey_45]; rfl) (by decide) rfl (fun ls hl => ?_)
    refine lv_goto (tgt := 23) hx hb dX12_visits_134 (by decide) ?_
    exact hK23 hf hw (lv_sub hl [1, 2, 3, 4, 5, 0] rfl)
  have J129 : ∀ {K23 : S32 → S64 → Int32 → Int32 → Int32 → Int32 → Int32 → Option (S32 × S64)} (hK23 : ∀ {u_T : S32} {v_T : S64} {w1 : Int32} {w2 : Int32} {w3 : Int32} {w4 : Int32} {w5 : Int32} {H : Heap} {locs : List Loc} {ls : Array Slot}, K23 u_T v_T w1 w2 w3 w4 w5 = some (zu_T, zv_T) → WD g A s.heap (cl_X12 g a_T u_T v_T ++ X) H locs → lv_has ls 8 [(0, .ref (a_T 0)), (1, .int w1), (2, .int w2), (3, .int w3), (4, .int w4), (5, .int w5)] → W p l e (rmH 6) s m (List.toArray [.ref (a_T 0), .int x1, .int x2]) below meth c H locs 0 0 (MQ below (va_Qv (fun (_ : Unit) => True) (fun _ t => POST g A (cl_X12 g a_T zu_T zv_T ++ X) t) A) (List.toArray [.ref (a_T 0), .int x1, .int x2]) s 0 0 A) (F0 m 23 ls [])), ∀ {u_T : S32} {v_T : S64} {w1 : Int32} {w2 : Int32} {w3 : Int32} {w5 : Int32} {t0 : Int32} {H : Heap} {locs : List Loc} {ls : Array Slot}, f_X12_visits_J129 fu K23 u_T v_T w1 w2 w3 w5 t0 = some (zu_T, zv_T) → WD g A s.heap (cl_X12 g a_T u_T v_T ++ X) H locs → lv_has ls 8 [(0, .ref (a_T 0)), (1, .int w1), (2, .int w2), (3, .int w3), (5, .int w5)] → W p l e (rmH 6) s m (List.toArray [.ref (a_T 0), .int x1, .int x2]) below meth c H locs 0 0 (MQ below (va_Qv (fun (_ : Unit) => True) (fun _ t => POST g A (cl_X12 g a_T zu_T zv_T ++ X) t) A) (List.toArray [.ref (a_T 0), .int x1, .int x2]) s 0 0 A) (F0 m 129 ls [.int t0]) := by
    intro K23 hK23 u_T v_T w1 w2 w3 w5 t0 H locs ls hf hw hl
    unfold f_X12_visits_J129 at hf
    refine lv_istore (lv' := [(4, .int t0), (0, .ref (a_T 0)), (1, .int w1), (2, .int w2), (3, .int w3), (5, .int w5)]) hx hb dX12_visits_129 hl (by decide) rfl (fun ls hl => ?_)
    exact J131 hK23 hf hw (lv_sub hl [1, 2, 3, 4, 0, 5] rfl)
  have J250 : ∀ {u_T : S32} {v_T : S64} {w1 : Int32} {w2 : Int32} {H : Heap} {locs : List Loc} {ls : Array Slot}, f_X12_visits_J250 fu u_T v_T w1 w2 = some (zu_T, zv_T) → WD g A s.heap (cl_X12 g a_T u_T v_T ++ X) H locs → lv_has ls 8 [(0, .ref (a_T 0)), (1, .int w1), (2, .int w2)] → W p l e (rmH 6) s m (List.toArray [.ref (a_T 0), .int x1, .int x2]) below meth c H locs 0 0 (MQ below (va_Qv (fun (_ : Unit) => True) (fun _ t => POST g A (cl_X12 g a_T zu_T zv_T ++ X) t) A) (List.toArray [.ref (a_T 0), .int x1, .int x2]) s 0 0 A) (F0 m 250 ls []) := by
    intro u_T v_T w1 w2 H locs ls hf hw hl
    unfold f_X12_visits_J250 at hf
    refine lv_aload_n hx hb dX12_visits_250 rfl (lv_at hl 0 rfl) ?_
    refine gf_X12_106 S hE hw 0 rfl rfl dX12_visits_251 ?_
    refine lv_bipush (v := 6) hx hb dX12_visits_254 (by decide) ?_
    refine lv_iload_n hx hb dX12_visits_256 rfl (lv_at hl 1 rfl) ?_
    refine lv_imul hx hb dX12_visits_257 ?_
    refine lv_iload_n hx hb dX12_visits_258 rfl (lv_at hl 2 rfl) ?_
    refine lv_iadd hx hb dX12_visits_259 ?_
    refine lv_iconst (v := 0) hx hb dX12_visits_260 (by decide) ?_
    obtain ⟨h_43, hf⟩ := tx_ck_e hf
    obtain ⟨u_T_44, eu_T_44⟩ : ∃ z : S32, z = up2 u_T 56 (((6 : Int32) * w1) + w2).toNatClampNeg (0 : Int32) := ⟨_, rfl⟩
    replace hf := tx_let_e hf eu_T_44
    refine tx_iast (ws' := cl_X12 g a_T u_T_44 v_T ++ X) S hE hw 31 rfl h_43 (by rw [eu_T_44]; rfl) dX12_visits_261 (fun H locs hw => ?_)
    obtain ⟨e0, e1⟩ := tx_in2 hf
    rw [← e0, ← e1]
    exact tx_vret S hr hlk hw dX12_visits_262
  have J209 : ∀ {u_T : S32} {v_T : S64} {w1 : Int32} {w2 : Int32} {w5 : Int32} {w6 : Int32} {t0 : Int32} {H : Heap} {locs : List Loc} {ls : Array Slot}, f_X12_visits_J209 fu u_T v_T w1 w2 w5 w6 t0 = some (zu_T, zv_T) → WD g A s.heap (cl_X12 g a_T u_T v_T ++ X) H locs → lv_has ls 8 [(0, .ref (a_T 0)), (1, .int w1), (2, .int w2), (5, .int w5), (6, .int w6)] → W p l e (rmH 6) s m (List.toArray [.ref (a_T 0), .int x1, .int x2]) below meth c H locs 0 0 (MQ below (va_Qv (fun (_ : Unit) => True) (fun _ t => POST g A (cl_X12 g a_T zu_T zv_T ++ X) t) A) (List.toArray [.ref (a_T 0), .int x1, .int x2]) s 0 0 A) (F0 m 209 ls [.int t0]) := by
    intro u_T v_T w1 w2 w5 w6 t0 H locs ls hf hw hl
    unfold f_X12_visits_J209 at hf
    refine lv_istore (lv' := [(7, .int t0), (0, .ref (a_T 0)), (1, .int w1), (2, .int w2), (5, .int w5), (6, .int w6)]) hx hb dX12_visits_209 hl (by decide) rfl (fun ls hl => ?_)
    refine lv_aload_n hx hb dX12_visits_211 rfl (lv_at hl 1 rfl) ?_
    refine gf_X12_97 S hE hw 0 rfl rfl dX12_visits_212 ?_
    refine lv_iload hx hb dX12_visits_215 (lv_at hl 5 rfl) ?_
    refine lv_dup2_11 hx hb dX12_visits_217 rfl rfl ?_
    obtain ⟨h_34, hf⟩ := tx_ck_e hf
    refine tx_iald S hE hw 28 rfl h_34 dX12_visits_218 ?_
    refine lv_iload hx hb dX12_visits_219 (lv_at hl 0 rfl) ?_
    refine lv_isub hx hb dX12_visits_221 ?_
    obtain ⟨h_35, hf⟩ := tx_ck_e hf
    obtain ⟨u_T_36, eu_T_36⟩ : ∃ z : S32, z = up2 u_T 53 w6.toNatClampNeg ((u_T 53 w6.toNatClampNeg) - t0) := ⟨_, rfl⟩
    replace hf := tx_let_e hf eu_T_36
    refine tx_iast (ws' := cl_X12 g a_T u_T_36 v_T ++ X) S hE hw 28 rfl h_35 (by rw [eu_T_36]; rfl) dX12_visits_222 (fun H locs hw => ?_)
    refine lv_aload_n hx hb dX12_visits_223 rfl (lv_at hl 1 rfl) ?_
    refine gf_X12_100 S hE hw 0 rfl rfl dX12_visits_224 ?_
    refine lv_iload hx hb dX12_visits_227 (lv_at hl 5 rfl) ?_
    refine lv_dup2_11 hx hb dX12_visits_229 rfl rfl ?_
    obtain ⟨h_37, hf⟩ := tx_ck_e hf
    refine tx_iald S hE hw 29 rfl h_37 dX12_visits_230 ?_
    refine lv_iload hx hb dX12_visits_231 (lv_at hl 0 rfl) ?_
    refine lv_iadd hx hb dX12_visits_233 ?_
    obtain ⟨h_38, hf⟩ := tx_ck_e hf
    obtain ⟨u_T_39, eu_T_39⟩ : ∃ z : S32, z = up2 u_T_36 54 w6.toNatClampNeg ((u_T_36 54 w6.toNatClampNeg) + t0) := ⟨_, rfl⟩
    replace hf := tx_let_e hf eu_T_39
    refine tx_iast (ws' := cl_X12 g a_T u_T_39 v_T ++ X) S hE hw 29 rfl h_38 (by rw [eu_T_39]; rfl) dX12_visits_234 (fun H locs hw => ?_)
    refine lv_aload_n hx hb dX12_visits_235 rfl (lv_at hl 1 rfl) ?_
    refine gf_X12_103 S hE hw 0 rfl rfl dX12_visits_236 ?_
    refine lv_iload hx hb dX12_visits_239 (lv_at hl 5 rfl) ?_
    refine lv_dup2_11 hx hb dX12_visits_241 rfl rfl ?_
    obtain ⟨h_40, hf⟩ := tx_ck_e hf
    refine tx_iald S hE hw 30 rfl h_40 dX12_visits_242 ?_
    refine lv_iload hx hb dX12_visits_243 (lv_at hl 4 rfl) ?_
    refine lv_iload hx hb dX12_visits_245 (lv_at hl 0 rfl) ?_
    refine lv_isub hx hb dX12_visits_247 ?_
    refine lv_iadd hx hb dX12_visits_248 ?_
    obtain ⟨h_41, hf⟩ := tx_ck_e hf
    obtain ⟨u_T_42, eu_T_42⟩ : ∃ z : S32, z = up2 u_T_39 55 w6.toNatClampNeg ((u_T_39 55 w6.toNatClampNeg) + (w5 - t0)) := ⟨_, rfl⟩
    replace hf := tx_let_e hf eu_T_42
    refine tx_iast (ws' := cl_X12 g a_T u_T_42 v_T ++ X) S hE hw 30 rfl h_41 (by rw [eu_T_42]; rfl) dX12_visits_249 (fun H locs hw => ?_)
    exact J250 hf hw (lv_sub hl [1, 2, 3] rfl)
  have J23 : ∀ {K23 : S32 → S64 → Int32 → Int32 → Int32 → Int32 → Int32 → Option (S32 × S64)} (hK23 : ∀ {u_T : S32} {v_T : S64} {w1 : Int32} {w2 : Int32} {w3 : Int32} {w4 : Int32} {w5 : Int32} {H : Heap} {locs : List Loc} {ls : Array Slot}, K23 u_T v_T w1 w2 w3 w4 w5 = some (zu_T, zv_T) → WD g A s.heap (cl_X12 g a_T u_T v_T ++ X) H locs → lv_has ls 8 [(0, .ref (a_T 0)), (1, .int w1), (2, .int w2), (3, .int w3), (4, .int w4), (5, .int w5)] → W p l e (rmH 6) s m (List.toArray [.ref (a_T 0), .int x1, .int x2]) below meth c H locs 0 0 (MQ below (va_Qv (fun (_ : Unit) => True) (fun _ t => POST g A (cl_X12 g a_T zu_T zv_T ++ X) t) A) (List.toArray [.ref (a_T 0), .int x1, .int x2]) s 0 0 A) (F0 m 23 ls [])), ∀ {u_T : S32} {v_T : S64} {w1 : Int32} {w2 : Int32} {w3 : Int32} {w4 : Int32} {w5 : Int32} {H : Heap} {locs : List Loc} {ls : Array Slot}, f_X12_visits_J23 fu K23 u_T v_T w1 w2 w3 w4 w5 = some (zu_T, zv_T) → WD g A s.heap (cl_X12 g a_T u_T v_T ++ X) H locs → lv_has ls 8 [(0, .ref (a_T 0)), (1, .int w1), (2, .int w2), (3, .int w3), (4, .int w4), (5, .int w5)] → W p l e (rmH 6) s m (List.toArray [.ref (a_T 0), .int x1, .int x2]) below meth c H locs 0 0 (MQ below (va_Qv (fun (_ : Unit) => True) (fun _ t => POST g A (cl_X12 g a_T zu_T zv_T ++ X) t) A) (List.toArray [.ref (a_T 0), .int x1, .int x2]) s 0 0 A) (F0 m 23 ls []) := by
    intro K23 hK23 u_T v_T w1 w2 w3 w4 w5 H locs ls hf hw hl
    unfold f_X12_visits_J23 at hf
    refine lv_iload hx hb dX12_visits_23 (lv_at hl 5 rfl) ?_
    refine lv_aload_n hx hb dX12_visits_25 rfl (lv_at hl 0 rfl) ?_
    refine gf_X12_225 S hE hw 0 rfl rfl dX12_visits_26 ?_
    refine lv_icmp_ge (tgt := 137) hx hb dX12_visits_29 (by decide) (fun h_4 => ?_) (fun h_4 => ?_)
    · replace hf := tx_pos hf h_4
      refine lv_iload hx hb dX12_visits_137 (lv_at hl 4 rfl) ?_
      refine lv_if_le (tgt := 250) hx hb dX12_visits_139 (by decide) (fun h_5 => ?_) (fun h_5 => ?_)
      · replace hf := tx_pos hf h_5
        exact J250 hf hw (lv_sub hl [0, 1, 2] rfl)
      · replace hf := tx_neg hf h_5
        refine lv_aload_n hx hb dX12_visits_142 rfl (lv_at hl 0 rfl) ?_
        refine lv_iload_n hx hb dX12_visits_143 rfl (lv_at hl 1 rfl) ?_
        refine lv_iload hx hb dX12_visits_144 (lv_at hl 4 rfl) ?_
        refine lv_aload_n hx hb dX12_visits_146 rfl (lv_at hl 0 rfl) ?_
        refine lv_iload_n hx hb dX12_visits_147 rfl (lv_at hl 3 rfl) ?_
        obtain ⟨r_7, h_6, hf⟩ := tx_b1_e hf
        refine tx_ci hw (tx_runV S hE hw (c_X12_skillIn h_6) lk_X12_399 (q0 := 0) rfl rfl rfl hl.1 (rest := [.int w4, .int w1, .ref (a_T 0)]) rfl (Nat.le_of_ble_eq_true rfl) ⟨by decide, by decide⟩ dX12_visits_148 ⟨Nat.zero_le _, Nat.zero_le _⟩) (fun H locs hw => ?_)
        refine lv_iload_n hx hb dX12_visits_151 rfl (lv_at hl 2 rfl) ?_
        obtain ⟨v_T_9, h_8, hf⟩ := tx_b1_e hf
        refine tx_cv hw (tx_runV S hE hw (c_X12_layNames h_8) lk_X12_402 (q0 := 0) rfl rfl rfl hl.1 (rest := []) rfl (Nat.le_of_ble_eq_true rfl) ⟨by decide, by decide⟩ dX12_visits_152 ⟨Nat.zero_le _, Nat.zero_le _⟩) (fun H locs hw => ?_)
        refine lv_aload_n hx hb dX12_visits_155 rfl (lv_at hl 0 rfl) ?_
        refine lv_iconst (v := 1) hx hb dX12_visits_156 (by decide) ?_
        refine lv_iload hx hb dX12_visits_157 (lv_at hl 4 rfl) ?_
        refine lv_aload_n hx hb dX12_visits_159 rfl (lv_at hl 0 rfl) ?_
        refine gf_X12_112 S hE hw 0 rfl rfl dX12_visits_160 ?_
        refine lv_iload_n hx hb dX12_visits_163 rfl (lv_at hl 1 rfl) ?_
        obtain ⟨h_10, hf⟩ := tx_ck_e hf
        refine tx_iald S hE hw 33 rfl h_10 dX12_visits_164 ?_
        refine lv_imul hx hb dX12_visits_165 ?_
        refine lv_bipush (v := 100) hx hb dX12_visits_166 (by decide) ?_
        refine lv_idiv hx hb dX12_visits_168 (by decide) ?_
        refine lv_sipush (v := 999) hx hb dX12_visits_169 (by decide) ?_
        obtain ⟨r_12, u_T_13, v_T_14, h_11, hf⟩ := tx_b3_e hf
        refine tx_ci hw (tx_runV S hE hw (c_X12_boundLaw h_11) lk_X12_409 (q0 := 0) rfl rfl rfl hl.1 (rest := []) rfl (Nat.le_of_ble_eq_true rfl) ⟨by decide, by decide⟩ dX12_visits_172 ⟨Nat.zero_le _, Nat.zero_le _⟩) (fun H locs hw => ?_)
        refine lv_istore (lv' := [(5, .int r_12), (0, .ref (a_T 0)), (1, .int w1), (2, .int w2), (3, .int w3), (4, .int w4)]) hx hb dX12_visits_175 hl (by decide) rfl (fun ls hl => ?_)
        refine lv_bipush (v := 6) hx hb dX12_visits_177 (by decide) ?_
        refine lv_iload_n hx hb dX12_visits_179 rfl (lv_at hl 2 rfl) ?_
        refine lv_imul hx hb dX12_visits_180 ?_
        refine lv_iload_n hx hb dX12_visits_181 rfl (lv_at hl 3 rfl) ?_
        refine lv_iadd hx hb dX12_visits_182 ?_
        refine lv_topi (fun y_15 ey_15 => ?_)
        replace hf := tx_let_e hf ey_15
        refine lv_istore (lv' := [(6, .int y_15), (5, .int r_12), (0, .ref (a_T 0)), (1, .int w1), (2, .int w2), (3, .int w3), (4, .int w4)]) hx hb dX12_visits_183 hl (by decide) rfl (fun ls hl => ?_)
        refine lv_iload hx hb dX12_visits_185 (lv_at hl 1 rfl) ?_
        refine lv_aload_n hx hb dX12_visits_187 rfl (lv_at hl 2 rfl) ?_
        refine gf_X12_97 S hE hw 0 rfl rfl dX12_visits_188 ?_
        refine lv_iload hx hb dX12_visits_191 (lv_at hl 0 rfl) ?_
        obtain ⟨h_16, hf⟩ := tx_ck_e hf
        refine tx_iald S hE hw 28 rfl h_16 dX12_visits_193 ?_
        refine lv_icmp_ge (tgt := 202) hx hb dX12_visits_194 (by decide) (fun h_17 => ?_) (fun h_17 => ?_)
        · replace hf := tx_pos hf h_17
          refine lv_aload_n hx hb dX12_visits_202 rfl (lv_at hl 2 rfl) ?_
          refine gf_X12_97 S hE hw 0 rfl rfl dX12_visits_203 ?_
          refine lv_iload hx hb dX12_visits_206 (lv_at hl 0 rfl) ?_
          obtain ⟨h_18, hf⟩ := tx_ck_e hf
          refine tx_iald S hE hw 28 rfl h_18 dX12_visits_208 ?_
          exact J209 hf hw (lv_sub hl [2, 3, 4, 1, 0] rfl)
        · replace hf := tx_neg hf h_17
          refine lv_iload hx hb dX12_visits_197 (lv_at hl 1 rfl) ?_
          refine lv_goto (tgt := 209) hx hb dX12_visits_199 (by decide) ?_
          exact J209 hf hw (lv_sub hl [2, 3, 4, 1, 0] rfl)
    · replace hf := tx_neg hf h_4
      refine lv_aload_n hx hb dX12_visits_32 rfl (lv_at hl 0 rfl) ?_
      refine gf_X12_88 S hE hw 0 rfl rfl dX12_visits_33 ?_
      refine lv_bipush (v := 12) hx hb dX12_visits_36 (by decide) ?_
      refine lv_iload_n hx hb dX12_visits_38 rfl (lv_at hl 1 rfl) ?_
      refine lv_imul hx hb dX12_visits_39 ?_
      refine lv_iload hx hb dX12_visits_40 (lv_at hl 5 rfl) ?_
      refine lv_iadd hx hb dX12_visits_42 ?_
      obtain ⟨h_19, hf⟩ := tx_ck_e hf
      refine tx_iald S hE hw 25 rfl h_19 dX12_visits_43 ?_
      refine lv_iconst (v := 1) hx hb dX12_visits_44 (by decide) ?_
      refine lv_icmp_ne (tgt := 131) hx hb dX12_visits_45 (by decide) (fun h_20 => ?_) (fun h_20 => ?_)
      · replace hf := tx_neg hf h_20
        exact J131 hK23 hf hw (lv_sub hl [0, 1, 2, 3, 4, 5] rfl)
      · replace hf := tx_pos hf h_20
        refine lv_aload_n hx hb dX12_visits_48 rfl (lv_at hl 0 rfl) ?_
        refine gf_X12_91 S hE hw 0 rfl rfl dX12_visits_49 ?_
        refine lv_bipush (v := 12) hx hb dX12_visits_52 (by decide) ?_
        refine lv_iload_n hx hb dX12_visits_54 rfl (lv_at hl 1 rfl) ?_
        refine lv_imul hx hb dX12_visits_55 ?_
        refine lv_iload hx hb dX12_visits_56 (lv_at hl 5 rfl) ?_
        refine lv_iadd hx hb dX12_visits_58 ?_
        obtain ⟨h_21, hf⟩ := tx_ck_e hf
        refine tx_iald S hE hw 26 rfl h_21 dX12_visits_59 ?_
        refine lv_iload_n hx hb dX12_visits_60 rfl (lv_at hl 2 rfl) ?_
        refine lv_icmp_ne (tgt := 131) hx hb dX12_visits_61 (by decide) (fun h_22 => ?_) (fun h_22 => ?_)
        · replace hf := tx_neg hf h_22
          exact J131 hK23 hf hw (lv_sub hl [0, 1, 2, 3, 4, 5] rfl)
        · replace hf := tx_pos hf h_22
          refine lv_aload_n hx hb dX12_visits_64 rfl (lv_at hl 0 rfl) ?_
          refine lv_iload_n hx hb dX12_visits_65 rfl (lv_at hl 1 rfl) ?_
          refine lv_iload hx hb dX12_visits_66 (lv_at hl 5 rfl) ?_
          refine lv_iload_n hx hb dX12_visits_68 rfl (lv_at hl 2 rfl) ?_
          refine lv_iload_n hx hb dX12_visits_69 rfl (lv_at hl 3 rfl) ?_
          obtain ⟨r_24, u_T_25, v_T_26, h_23, hf⟩ := tx_b3_e hf
          refine tx_ci hw (tx_runV S hE hw (c_X12_isReadAt h_23) lk_X12_431 (q0 := 0) rfl rfl rfl hl.1 (rest := []) rfl (Nat.le_of_ble_eq_true rfl) ⟨by decide, by decide⟩ dX12_visits_70 ⟨Nat.zero_le _, Nat.zero_le _⟩) (fun H locs hw => ?_)
          refine lv_if_ne (tgt := 79) hx hb dX12_visits_73 (by decide) (fun h_27 => ?_) (fun h_27 => ?_)
          · replace hf := tx_neg hf h_27
            refine lv_aload_n hx hb dX12_visits_79 rfl (lv_at hl 0 rfl) ?_
            refine gf_X12_94 S hE hw 0 rfl rfl dX12_visits_80 ?_
            refine lv_bipush (v := 12) hx hb dX12_visits_83 (by decide) ?_
            refine lv_iload_n hx hb dX12_visits_85 rfl (lv_at hl 1 rfl) ?_
            refine lv_imul hx hb dX12_visits_86 ?_
            refine lv_iload hx hb dX12_visits_87 (lv_at hl 5 rfl) ?_
            refine lv_iadd hx hb dX12_visits_89 ?_
            refine lv_iconst (v := 1) hx hb dX12_visits_90 (by decide) ?_
            obtain ⟨h_28, hf⟩ := tx_ck_e hf
            obtain ⟨u_T_29, eu_T_29⟩ : ∃ z : S32, z = up2 u_T_25 52 (((12 : Int32) * w1) + w5).toNatClampNeg ((1 : Int32) &&& 1) := ⟨_, rfl⟩
            replace hf := tx_let_e hf eu_T_29
            refine tx_zast (ws' := cl_X12 g a_T u_T_29 v_T_26 ++ X) S hE hw 27 rfl h_28 (by rw [eu_T_29]; rfl) dX12_visits_91 (fun H locs hw => ?_)
            refine lv_aload_n hx hb dX12_visits_92 rfl (lv_at hl 0 rfl) ?_
            refine lv_dup hx hb dX12_visits_93 rfl ?_
            refine gf_X12_435 S hE hw 0 rfl rfl dX12_visits_94 ?_
            refine lv_iconst (v := 1) hx hb dX12_visits_97 (by decide) ?_
            refine lv_iload hx hb dX12_visits_98 (lv_at hl 5 rfl) ?_
            refine lv_ishl hx hb dX12_visits_100 ?_
            refine lv_ior hx hb dX12_visits_101 ?_
            obtain ⟨u_T_30, eu_T_30⟩ : ∃ z : S32, z = up2 u_T_29 0 60 ((u_T_29 0 60) ||| ((1 : Int32) <<< (w5 &&& 31))) := ⟨_, rfl⟩
            replace hf := tx_let_e hf eu_T_30
            refine pf_X12_435 (ws' := cl_X12 g a_T u_T_30 v_T_26 ++ X) S hE hw rfl rfl 0 rfl (Nat.le_of_ble_eq_true rfl) (by rw [eu_T_30]; rfl) dX12_visits_102 (fun H locs hw => ?_)
            refine lv_aload_n hx hb dX12_visits_105 rfl (lv_at hl 0 rfl) ?_
            refine gf_X12_39 S hE hw 0 rfl rfl dX12_visits_106 ?_
            refine lv_iload hx hb dX12_visits_109 (lv_at hl 5 rfl) ?_
            obtain ⟨h_31, hf⟩ := tx_ck_e hf
            refine tx_iald S hE hw 9 rfl h_31 dX12_visits_111 ?_
            refine lv_iload hx hb dX12_visits_112 (lv_at hl 4 rfl) ?_
            refine lv_icmp_le (tgt := 127) hx hb dX12_visits_114 (by decide) (fun h_32 => ?_) (fun h_32 => ?_)
            · replace hf := tx_pos hf h_32
              refine lv_iload hx hb dX12_visits_127 (lv_at hl 4 rfl) ?_
              exact J129 hK23 hf hw (lv_sub hl [0, 1, 2, 3, 5] rfl)
            · replace hf := tx_neg hf h_32
              refine lv_aload_n hx hb dX12_visits_117 rfl (lv_at hl 0 rfl) ?_
              refine gf_X12_39 S hE hw 0 rfl rfl dX12_visits_118 ?_
              refine lv_iload hx hb dX12_visits_121 (lv_at hl 5 rfl) ?_
              obtain ⟨h_33, hf⟩ := tx_ck_e hf
              refine tx_iald S hE hw 9 rfl h_33 dX12_visits_123 ?_
              refine lv_goto (tgt := 129) hx hb dX12_visits_124 (by decide) ?_
              exact J129 hK23 hf hw (lv_sub hl [0, 1, 2, 3, 5] rfl)
          · replace hf := tx_pos hf h_27
            refine lv_goto (tgt := 131) hx hb dX12_visits_76 (by decide) ?_
            exact J131 hK23 hf hw (lv_sub hl [0, 1, 2, 3, 4, 5] rfl)
  have L23 : ∀ (n : Nat), ∀ {u_T : S32} {v_T : S64} {w1 : Int32} {w2 : Int32} {w3 : Int32} {w4 : Int32} {w5 : Int32} {H : Heap} {locs : List Loc} {ls : Array Slot}, f_X12_visits_L23 fu n u_T v_T w1 w2 w3 w4 w5 = some (zu_T, zv_T) → WD g A s.heap (cl_X12 g a_T u_T v_T ++ X) H locs → lv_has ls 8 [(0, .ref (a_T 0)), (1, .int w1), (2, .int w2), (3, .int w3), (4, .int w4), (5, .int w5)] → W p l e (rmH 6) s m (List.toArray [.ref (a_T 0), .int x1, .int x2]) below meth c H locs 0 0 (MQ below (va_Qv (fun (_ : Unit) => True) (fun _ t => POST g A (cl_X12 g a_T zu_T zv_T ++ X) t) A) (List.toArray [.ref (a_T 0), .int x1, .int x2]) s 0 0 A) (F0 m 23 ls []) := by
    intro  n
    induction n with
    | zero => intro u_T v_T w1 w2 w3 w4 w5 H locs ls hf; exact absurd hf (by intro q; cases q)
    | succ n ih => exact fun hf hw hl => J23 ih hf hw hl
  unfold f_X12_visits at hf
  refine lv_aload_n hx hb dX12_visits_0 rfl (lv_at hl 0 rfl) ?_
  refine gf_X12_109 S hE hw 0 rfl rfl dX12_visits_1 ?_
  refine lv_bipush (v := 6) hx hb dX12_visits_4 (by decide) ?_
  refine lv_iload_n hx hb dX12_visits_6 rfl (lv_at hl 1 rfl) ?_
  refine lv_imul hx hb dX12_visits_7 ?_
  refine lv_iload_n hx hb dX12_visits_8 rfl (lv_at hl 2 rfl) ?_
  refine lv_iadd hx hb dX12_visits_9 ?_
  obtain ⟨h_1, hf⟩ := tx_ck_e hf
  refine tx_iald S hE hw 32 rfl h_1 dX12_visits_10 ?_
  refine lv_topi (fun y_2 ey_2 => ?_)
  replace hf := tx_let_e hf ey_2
  refine lv_istore_n (lv' := [(3, .int y_2), (0, .ref (a_T 0)), (1, .int x1), (2, .int x2)]) hx hb dX12_visits_11 rfl hl (by decide) rfl (fun ls hl => ?_)
  refine lv_iload_n hx hb dX12_visits_12 rfl (lv_at hl 0 rfl) ?_
  refine lv_if_ge (tgt := 17) hx hb dX12_visits_13 (by decide) (fun h_3 => ?_) (fun h_3 => ?_)
  · replace hf := tx_pos hf h_3
    refine lv_iconst (v := 0) hx hb dX12_visits_17 (by decide) ?_
    refine lv_istore (lv' := [(4, .int (0 : Int32)), (3, .int y_2), (0, .ref (a_T 0)), (1, .int x1), (2, .int x2)]) hx hb dX12_visits_18 hl (by decide) rfl (fun ls hl => ?_)
    refine lv_iconst (v := 0) hx hb dX12_visits_20 (by decide) ?_
    refine lv_istore (lv' := [(5, .int (0 : Int32)), (4, .int (0 : Int32)), (3, .int y_2), (0, .ref (a_T 0)), (1, .int x1), (2, .int x2)]) hx hb dX12_visits_21 hl (by decide) rfl (fun ls hl => ?_)
    exact L23 fu hf hw (lv_sub hl [3, 4, 5, 2, 1, 0] rfl)
  · replace hf := tx_neg hf h_3
    obtain ⟨e0, e1⟩ := tx_in2 hf
    rw [← e0, ← e1]
    exact tx_vret S hr hlk hw dX12_visits_16
def f_X12_fades (fu : Nat) (u_T : S32) (v_T : S64) (x1 : Int32) (x2 : Int32) : Option (S32 × S64) := tx_ck (((12 : Int32) * x1) + x2) 24 <| tx_let (u_T 51 (((12 : Int32) * x1) + x2).toNatClampNeg) fun (y_2 : Int32) => tx_ck x2 24 <| tx_b1 (f_X12_layNames fu u_T v_T x1 (u_T 27 x2.toNatClampNeg) (0 : Int32) y_2) fun (v_T_5 : S64) => tx_b1 (f_X12_wilesOf fu u_T v_T_5 y_2) fun (r_7 : Int32) => tx_b3 (f_X12_boundLaw fu u_T v_T_5 (2 : Int32) ((8 : Int32) + r_7) (99 : Int32)) fun (r_9 : Int32) (u_T_10 : S32) (v_T_11 : S64) => tx_ck x1 2 <| tx_ck x2 24 <| if r_9 < ((u_T_10 59 x1.toNatClampNeg) - (u_T_10 28 x2.toNatClampNeg)) then (tx_ck (((12 : Int32) * x1) + x2) 24 <| tx_let (up2 u_T_10 50 (((12 : Int32) * x1) + x2).toNatClampNeg (2 : Int32)) fun (u_T_16 : S32) => tx_ck (((12 : Int32) * x1) + x2) 24 <| tx_let (up2 u_T_16 51 (((12 : Int32) * x1) + x2).toNatClampNeg (-1 : Int32)) fun (u_T_18 : S32) => some (u_T_18, v_T_11)) else (some (u_T_10, v_T_11))
set_option maxHeartbeats 4000000 in
set_option maxRecDepth 100000 in
theorem c_X12_fades {l : Launch} {g : GG} {A : Nat → Prop} {X : va_W} {fu : Nat} {a_T : Nat → Nat} {u_T : S32} {v_T : S64} {x1 : Int32} {x2 : Int32} {zu_T : S32} {zv_T : S64} (hf : f_X12_fades fu  u_T v_T x1 x2 = some (zu_T, zv_T)) : MV l yX12_fades cX12_fades 5 none 4 g A (cl_X12 g a_T u_T v_T ++ X) [.ref (a_T 0), .int x1, .int x2] (cl_X12 g a_T zu_T zv_T ++ X) := by
  refine tx_start (av := [.ref (a_T 0), .int x1, .int x2]) (by decide) (Nat.le_of_ble_eq_true rfl) ?_
  intro p e s m below meth c ls S hr hlk hE hw hl
  have S : CallFix p m c cX12_fades 5 s (List.toArray [.ref (a_T 0), .int x1, .int x2]) (Cond.code yX12_fades cX12_fades 5 none :: allW) RX12 := S
  have hx := S.1
  have hb := S.2.1
  have hown := S.2.2.2.1
  have hts : ∀ w ∈ allW, w.before (List.toArray [.ref (a_T 0), .int x1, .int x2]) s = true := fun w h => S.2.2.2.2 w (List.mem_cons_of_mem _ h)
  have hl : lv_has ls 5 [(0, .ref (a_T 0)), (1, .int x1), (2, .int x2)] := hl
  unfold f_X12_fades at hf
  refine lv_aload_n hx hb dX12_fades_0 rfl (lv_at hl 0 rfl) ?_
  refine gf_X12_91 S hE hw 0 rfl rfl dX12_fades_1 ?_
  refine lv_bipush (v := 12) hx hb dX12_fades_4 (by decide) ?_
  refine lv_iload_n hx hb dX12_fades_6 rfl (lv_at hl 1 rfl) ?_
  refine lv_imul hx hb dX12_fades_7 ?_
  refine lv_iload_n hx hb dX12_fades_8 rfl (lv_at hl 2 rfl) ?_
  refine lv_iadd hx hb dX12_fades_9 ?_
  obtain ⟨h_1, hf⟩ := tx_ck_e hf
  refine tx_iald S hE hw 26 rfl h_1 dX12_fades_10 ?_
  refine lv_topi (fun y_2 ey_2 => ?_)
  replace hf := tx_let_e hf ey_2
  refine lv_istore_n (lv' := [(3, .int y_2), (0, .ref (a_T 0)), (1, .int x1), (2, .int x2)]) hx hb dX12_fades_11 rfl hl (by decide) rfl (fun ls hl => ?_)
  refine lv_aload_n hx hb dX12_fades_12 rfl (lv_at hl 1 rfl) ?_
  refine lv_iload_n hx hb dX12_fades_13 rfl (lv_at hl 2 rfl) ?_
  refine lv_aload_n hx hb dX12_fades_14 rfl (lv_at hl 1 rfl) ?_
  refine gf_X12_39 S hE hw 0 rfl rfl dX12_fades_15 ?_
  refine lv_iload_n hx hb dX12_fades_18 rfl (lv_at hl 3 rfl) ?_
  obtain ⟨h_3, hf⟩ := tx_ck_e hf
  refine tx_iald S hE hw 9 rfl h_3 dX12_fades_19 ?_
  refine lv_iconst (v := 0) hx hb dX12_fades_20 (by decide) ?_
  refine lv_iload_n hx hb dX12_fades_21 rfl (lv_at hl 0 rfl) ?_
  obtain ⟨v_T_5, h_4, hf⟩ := tx_b1_e hf
  refine tx_cv hw (tx_runV S hE hw (c_X12_layNames h_4) lk_X12_402 (q0 := 0) rfl rfl rfl hl.1 (rest := []) rfl (Nat.le_of_ble_eq_true rfl) ⟨by decide, by decide⟩ dX12_fades_22 ⟨Nat.zero_le _, Nat.zero_le _⟩) (fun H locs hw => ?_)
  refine lv_aload_n hx hb dX12_fades_25 rfl (lv_at hl 1 rfl) ?_
  refine lv_iconst (v := 2) hx hb dX12_fades_26 (by decide) ?_
  refine lv_bipush (v := 8) hx hb dX12_fades_27 (by decide) ?_
  refine lv_aload_n hx hb dX12_fades_29 rfl (lv_at hl 1 rfl) ?_
  refine lv_iload_n hx hb dX12_fades_30 rfl (lv_at hl 0 rfl) ?_
  obtain ⟨r_7, h_6, hf⟩ := tx_b1_e hf
  refine tx_ci hw (tx_runV S hE hw (c_X12_wilesOf h_6) lk_X12_386 (q0 := 0) rfl rfl rfl hl.1 (rest := [.int (8 : Int32), .int (2 : Int32), .ref (a_T 0)]) rfl (Nat.le_of_ble_eq_true rfl) ⟨by decide, by decide⟩ dX12_fades_31 ⟨Nat.zero_le _, Nat.zero_le _⟩) (fun H locs hw => ?_)
  refine lv_iadd hx hb dX12_fades_34 ?_
  refine lv_bipush (v := 99) hx hb dX12_fades_35 (by decide) ?_
  obtain ⟨r_9, u_T_10, v_T_11, h_8, hf⟩ := tx_b3_e hf
  refine tx_ci hw (tx_runV S hE hw (c_X12_boundLaw h_8) lk_X12_409 (q0 := 0) rfl rfl rfl hl.1 (rest := []) rfl (Nat.le_of_ble_eq_true rfl) ⟨by decide, by decide⟩ dX12_fades_37 ⟨Nat.zero_le _, Nat.zero_le _⟩) (fun H locs hw => ?_)
  refine lv_istore (lv' := [(4, .int r_9), (3, .int y_2), (0, .ref (a_T 0)), (1, .int x1), (2, .int x2)]) hx hb dX12_fades_40 hl (by decide) rfl (fun ls hl => ?_)
  refine lv_aload_n hx hb dX12_fades_42 rfl (lv_at hl 2 rfl) ?_
  refine gf_X12_115 S hE hw 0 rfl rfl dX12_fades_43 ?_
  refine lv_iload_n hx hb dX12_fades_46 rfl (lv_at hl 3 rfl) ?_
  obtain ⟨h_12, hf⟩ := tx_ck_e hf
  refine tx_iald S hE hw 34 rfl h_12 dX12_fades_47 ?_
  refine lv_aload_n hx hb dX12_fades_48 rfl (lv_at hl 2 rfl) ?_
  refine gf_X12_42 S hE hw 0 rfl rfl dX12_fades_49 ?_
  refine lv_iload_n hx hb dX12_fades_52 rfl (lv_at hl 4 rfl) ?_
  obtain ⟨h_13, hf⟩ := tx_ck_e hf
  refine tx_iald S hE hw 10 rfl h_13 dX12_fades_53 ?_
  refine lv_isub hx hb dX12_fades_54 ?_
  refine lv_iload hx hb dX12_fades_55 (lv_at hl 0 rfl) ?_
  refine lv_icmp_gt (tgt := 61) hx hb dX12_fades_57 (by decide) (fun h_14 => ?_) (fun h_14 => ?_)
  · replace hf := tx_pos hf h_14
    refine lv_aload_n hx hb dX12_fades_61 rfl (lv_at hl 2 rfl) ?_
    refine gf_X12_88 S hE hw 0 rfl rfl dX12_fades_62 ?_
    refine lv_bipush (v := 12) hx hb dX12_fades_65 (by decide) ?_
    refine lv_iload_n hx hb dX12_fades_67 rfl (lv_at hl 3 rfl) ?_
    refine lv_imul hx hb dX12_fades_68 ?_
    refine lv_iload_n hx hb dX12_fades_69 rfl (lv_at hl 4 rfl) ?_
    refine lv_iadd hx hb dX12_fades_70 ?_
    refine lv_iconst (v := 2) hx hb dX12_fades_71 (by decide) ?_
    obtain ⟨h_15, hf⟩ := tx_ck_e hf
    obtain ⟨u_T_16, eu_T_16⟩ : ∃ z : S32, z = up2 u_T_10 50 (((12 : Int32) * x1) + x2).toNatClampNeg (2 : Int32) := ⟨_, rfl⟩
    replace hf := tx_let_e hf eu_T_16
    refine tx_iast (ws' := cl_X12 g a_T u_T_16 v_T_11 ++ X) S hE hw 25 rfl h_15 (by rw [eu_T_16]; rfl) dX12_fades_72 (fun H locs hw => ?_)
    refine lv_aload_n hx hb dX12_fades_73 rfl (lv_at hl 2 rfl) ?_
    refine gf_X12_91 S hE hw 0 rfl rfl dX12_fades_74 ?_
    refine lv_bipush (v := 12) hx hb dX12_fades_77 (by decide) ?_
    refine lv_iload_n hx hb dX12_fades_79 rfl (lv_at hl 3 rfl) ?_
    refine lv_imul hx hb dX12_fades_80 ?_
    refine lv_iload_n hx hb dX12_fades_81 rfl (lv_at hl 4 rfl) ?_
    refine lv_iadd hx hb dX12_fades_82 ?_
    refine lv_iconst (v := -1) hx hb dX12_fades_83 (by decide) ?_
    obtain ⟨h_17, hf⟩ := tx_ck_e hf
    obtain ⟨u_T_18, eu_T_18⟩ : ∃ z : S32, z = up2 u_T_16 51 (((12 : Int32) * x1) + x2).toNatClampNeg (-1 : Int32) := ⟨_, rfl⟩
    replace hf := tx_let_e hf eu_T_18
    refine tx_iast (ws' := cl_X12 g a_T u_T_18 v_T_11 ++ X) S hE hw 26 rfl h_17 (by rw [eu_T_18]; rfl) dX12_fades_84 (fun H locs hw => ?_)
    obtain ⟨e0, e1⟩ := tx_in2 hf
    rw [← e0, ← e1]
    exact tx_vret S hr hlk hw dX12_fades_85
  · replace hf := tx_neg hf h_14
    obtain ⟨e0, e1⟩ := tx_in2 hf
    rw [← e0, ← e1]
    exact tx_vret S hr hlk hw dX12_fades_60
def f_X12_weekGoes_J97 (fu : Nat) (K7 : S32 → S64 → Int32 → Int32 → Option (S32 × S64)) (u_T : S32) (v_T : S64) (w1 : Int32) (w2 : Int32) : Option (S32 × S64) := tx_let (w2 + (1 : Int32)) fun (y_34 : Int32) => K7 u_T v_T w1 y_34
def f_X12_weekGoes_J132 (fu : Nat) (K105 : S32 → S64 → Int32 → Int32 → Option (S32 × S64)) (u_T : S32) (v_T : S64) (w1 : Int32) (w2 : Int32) : Option (S32 × S64) := tx_b2 (f_X12_visits fu u_T v_T w1 w2) fun (u_T_31 : S32) (v_T_32 : S64) => tx_let (w2 + (1 : Int32)) fun (y_33 : Int32) => K105 u_T_31 v_T_32 w1 y_33
def f_X12_weekGoes_J175 (fu : Nat) (K146 : S32 → S64 → Int32 → Int32 → Option (S32 × S64)) (u_T : S32) (v_T : S64) (w1 : Int32) (w2 : Int32) : Option (S32 × S64) := tx_let (w2 + (1 : Int32)) fun (y_29 : Int32) => K146 u_T v_T w1 y_29
def f_X12_weekGoes_J146 (fu : Nat) (K146 : S32 → S64 → Int32 → Int32 → Option (S32 × S64)) (u_T : S32) (v_T : S64) (w1 : Int32) (w2 : Int32) : Option (S32 × S64) := if (u_T 0 13) ≤ w2 then (tx_ck w1 2 <| tx_ck w1 2 <| tx_let (up2 u_T 59 w1.toNatClampNeg ((u_T 59 w1.toNatClampNeg) + (1 : Int32))) fun (u_T_23 : S32) => some (u_T_23, v_T)) else (tx_ck (((12 : Int32) * w1) + w2) 24 <| if (u_T 50 (((12 : Int32) * w1) + w2).toNatClampNeg) = (1 : Int32) then (tx_b2 (f_X12_fades fu u_T v_T w1 w2) fun (u_T_27 : S32) (v_T_28 : S64) => f_X12_weekGoes_J175 fu K146 u_T_27 v_T_28 w1 w2) else (f_X12_weekGoes_J175 fu K146 u_T v_T w1 w2))
def f_X12_weekGoes_L146 (fu : Nat) : Nat → S32 → S64 → Int32 → Int32 → Option (S32 × S64)
  | 0 => fun _ _ _ _ => none
  | n + 1 => f_X12_weekGoes_J146 fu (f_X12_weekGoes_L146 fu n)
def f_X12_weekGoes_J144 (fu : Nat) (u_T : S32) (v_T : S64) (w1 : Int32) : Option (S32 × S64) := f_X12_weekGoes_L146 fu fu u_T v_T w1 (0 : Int32)
def f_X12_weekGoes_J105 (fu : Nat) (K105 : S32 → S64 → Int32 → Int32 → Option (S32 × S64)) (u_T : S32) (v_T : S64) (w1 : Int32) (w2 : Int32) : Option (S32 × S64) := if (u_T 0 12) ≤ w2 then (f_X12_weekGoes_J144 fu u_T v_T w1) else (if (u_T 0 65) = (0 : Int32) then (tx_ck w1 2 <| if ((u_T 59 w1.toNatClampNeg) - (u_T 59 w1.toNatClampNeg) / (4 : Int32) * (4 : Int32)) = (3 : Int32) then (f_X12_weekGoes_J132 fu K105 u_T v_T w1 w2) else (f_X12_weekGoes_J144 fu u_T v_T w1)) else (f_X12_weekGoes_J132 fu K105 u_T v_T w1 w2))
def f_X12_weekGoes_L105 (fu : Nat) : Nat → S32 → S64 → Int32 → Int32 → Option (S32 × S64)
  | 0 => fun _ _ _ _ => none
  | n + 1 => f_X12_weekGoes_J105 fu (f_X12_weekGoes_L105 fu n)
def f_X12_weekGoes_J7 (fu : Nat) (K7 : S32 → S64 → Int32 → Int32 → Option (S32 × S64)) (u_T : S32) (v_T : S64) (w1 : Int32) (w2 : Int32) : Option (S32 × S64) := if (u_T 0 13) ≤ w2 then (f_X12_weekGoes_L105 fu fu u_T v_T w1 (0 : Int32)) else (tx_ck (((12 : Int32) * w1) + w2) 24 <| if (u_T 50 (((12 : Int32) * w1) + w2).toNatClampNeg) = (0 : Int32) then (tx_ck w2 24 <| tx_ck w1 2 <| if (u_T 28 w2.toNatClampNeg) = (u_T 59 w1.toNatClampNeg) then (tx_ck w2 24 <| if (u_T 26 w2.toNatClampNeg) = (u_T 0 66) then (f_X12_weekGoes_J97 fu K7 u_T v_T w1 w2) else (if w2 = (u_T 0 67) then (f_X12_weekGoes_J97 fu K7 u_T v_T w1 w2) else (tx_ck (((12 : Int32) * w1) + w2) 24 <| tx_let (up2 u_T 50 (((12 : Int32) * w1) + w2).toNatClampNeg (1 : Int32)) fun (u_T_12 : S32) => tx_ck w2 24 <| tx_ck (((12 : Int32) * w1) + w2) 24 <| tx_let (up2 u_T_12 51 (((12 : Int32) * w1) + w2).toNatClampNeg (u_T_12 26 w2.toNatClampNeg)) fun (u_T_15 : S32) => f_X12_weekGoes_J97 fu K7 u_T_15 v_T w1 w2))) else (f_X12_weekGoes_J97 fu K7 u_T v_T w1 w2)) else (f_X12_weekGoes_J97 fu K7 u_T v_T w1 w2))
def f_X12_weekGoes_L7 (fu : Nat) : Nat → S32 → S64 → Int32 → Int32 → Option (S32 × S64)
  | 0 => fun _ _ _ _ => none
  | n + 1 => f_X12_weekGoes_J7 fu (f_X12_weekGoes_L7 fu n)
def f_X12_weekGoes (fu : Nat) (u_T : S32) (v_T : S64) (x1 : Int32) : Option (S32 × S64) := tx_let (up2 u_T 0 60 (0 : Int32)) fun (u_T_1 : S32) => f_X12_weekGoes_L7 fu fu u_T_1 v_T x1 (0 : Int32)
set_option maxHeartbeats 4000000 in
set_option maxRecDepth 100000 in
theorem c_X12_weekGoes {l : Launch} {g : GG} {A : Nat → Prop} {X : va_W} {fu : Nat} {a_T : Nat → Nat} {u_T : S32} {v_T : S64} {x1 : Int32} {zu_T : S32} {zv_T : S64} (hf : f_X12_weekGoes fu  u_T v_T x1 = some (zu_T, zv_T)) : MV l yX12_weekGoes cX12_weekGoes 3 none 7 g A (cl_X12 g a_T u_T v_T ++ X) [.ref (a_T 0), .int x1] (cl_X12 g a_T zu_T zv_T ++ X) := by
  refine tx_start (av := [.ref (a_T 0), .int x1]) (by decide) (Nat.le_of_ble_eq_true rfl) ?_
  intro p e s m below meth c ls S hr hlk hE hw hl
  have S : CallFix p m c cX12_weekGoes 3 s (List.toArray [.ref (a_T 0), .int x1]) (Cond.code yX12_weekGoes cX12_weekGoes 3 none :: allW) RX12 := S
  have hx := S.1
  have hb := S.2.1
  have hown := S.2.2.2.1
  have hts : ∀ w ∈ allW, w.before (List.toArray [.ref (a_T 0), .int x1]) s = true := fun w h => S.2.2.2.2 w (List.mem_cons_of_mem _ h)
  have hl : lv_has ls 3 [(0, .ref (a_T 0)), (1, .int x1)] := hl
  have J97 : ∀ {K7 : S32 → S64 → Int32 → Int32 → Option (S32 × S64)} (hK7 : ∀ {u_T : S32} {v_T : S64} {w1 : Int32} {w2 : Int32} {H : Heap} {locs : List Loc} {ls : Array Slot}, K7 u_T v_T w1 w2 = some (zu_T, zv_T) → WD g A s.heap (cl_X12 g a_T u_T v_T ++ X) H locs → lv_has ls 3 [(0, .ref (a_T 0)), (1, .int w1), (2, .int w2)] → W p l e (rmH 7) s m (List.toArray [.ref (a_T 0), .int x1]) below meth c H locs 0 0 (MQ below (va_Qv (fun (_ : Unit) => True) (fun _ t => POST g A (cl_X12 g a_T zu_T zv_T ++ X) t) A) (List.toArray [.ref (a_T 0), .int x1]) s 0 0 A) (F0 m 7 ls [])), ∀ {u_T : S32} {v_T : S64} {w1 : Int32} {w2 : Int32} {H : Heap} {locs : List Loc} {ls : Array Slot}, f_X12_weekGoes_J97 fu K7 u_T v_T w1 w2 = some (zu_T, zv_T) → WD g A s.heap (cl_X12 g a_T u_T v_T ++ X) H locs → lv_has ls 3 [(0, .ref (a_T 0)), (1, .int w1), (2, .int w2)] → W p l e (rmH 7) s m (List.toArray [.ref (a_T 0), .int x1]) below meth c H locs 0 0 (MQ below (va_Qv (fun (_ : Unit) => True) (fun _ t => POST g A (cl_X12 g a_T zu_T zv_T ++ X) t) A) (List.toArray [.ref (a_T 0), .int x1]) s 0 0 A) (F0 m 97 ls []) := by
    intro K7 hK7 u_T v_T w1 w2 H locs ls hf hw hl
    unfold f_X12_weekGoes_J97 at hf
    obtain ⟨y_34, ey_34⟩ : ∃ y : Int32, y = w2 + (1 : Int32) := ⟨_, rfl⟩
    replace hf := tx_let_e hf ey_34
    refine lv_iinc (v := y_34) (lv' := [(2, .int y_34), (0, .ref (a_T 0)), (1, .int w1)]) hx hb dX12_weekGoes_97 hl (k := 2) rfl (by rw [ey_34]; rfl) (by decide) rfl (fun ls hl => ?_)
    refine lv_goto (tgt := 7) hx hb dX12_weekGoes_100 (by decide) ?_
    exact hK7 hf hw (lv_sub hl [1, 2, 0] rfl)
  have J132 : ∀ {K105 : S32 → S64 → Int32 → Int32 → Option (S32 × S64)} (hK105 : ∀ {u_T : S32} {v_T : S64} {w1 : Int32} {w2 : Int32} {H : Heap} {locs : List Loc} {ls : Array Slot}, K105 u_T v_T w1 w2 = some (zu_T, zv_T) → WD g A s.heap (cl_X12 g a_T u_T v_T ++ X) H locs → lv_has ls 3 [(0, .ref (a_T 0)), (1, .int w1), (2, .int w2)] → W p l e (rmH 7) s m (List.toArray [.ref (a_T 0), .int x1]) below meth c H locs 0 0 (MQ below (va_Qv (fun (_ : Unit) => True) (fun _ t => POST g A (cl_X12 g a_T zu_T zv_T ++ X) t) A) (List.toArray [.ref (a_T 0), .int x1]) s 0 0 A) (F0 m 105 ls [])), ∀ {u_T : S32} {v_T : S64} {w1 : Int32} {w2 : Int32} {H : Heap} {locs : List Loc} {ls : Array Slot}, f_X12_weekGoes_J132 fu K105 u_T v_T w1 w2 = some (zu_T, zv_T) → WD g A s.heap (cl_X12 g a_T u_T v_T ++ X) H locs → lv_has ls 3 [(0, .ref (a_T 0)), (1, .int w1), (2, .int w2)] → W p l e (rmH 7) s m (List.toArray [.ref (a_T 0), .int x1]) below meth c H locs 0 0 (MQ below (va_Qv (fun (_ : Unit) => True) (fun _ t => POST g A (cl_X12 g a_T zu_T zv_T ++ X) t) A) (List.toArray [.ref (a_T 0), .int x1]) s 0 0 A) (F0 m 132 ls []) := by
    intro K105 hK105 u_T v_T w1 w2 H locs ls hf hw hl
    unfold f_X12_weekGoes_J132 at hf
    refine lv_aload_n hx hb dX12_weekGoes_132 rfl (lv_at hl 0 rfl) ?_
    refine lv_iload_n hx hb dX12_weekGoes_133 rfl (lv_at hl 1 rfl) ?_
    refine lv_iload_n hx hb dX12_weekGoes_134 rfl (lv_at hl 2 rfl) ?_
    obtain ⟨u_T_31, v_T_32, h_30, hf⟩ := tx_b2_e hf
    refine tx_cv hw (tx_runV S hE hw (c_X12_visits h_30) lk_X12_438 (q0 := 0) rfl rfl rfl hl.1 (rest := []) rfl (Nat.le_of_ble_eq_true rfl) ⟨by decide, by decide⟩ dX12_weekGoes_135 ⟨Nat.zero_le _, Nat.zero_le _⟩) (fun H locs hw => ?_)
    obtain ⟨y_33, ey_33⟩ : ∃ y : Int32, y = w2 + (1 : Int32) := ⟨_, rfl⟩
    replace hf := tx_let_e hf ey_33
    refine lv_iinc (v := y_33) (lv' := [(2, .int y_33), (0, .ref (a_T 0)), (1, .int w1)]) hx hb dX12_weekGoes_138 hl (k := 2) rfl (by rw [ey_33]; rfl) (by decide) rfl (fun ls hl => ?_)
    refine lv_goto (tgt := 105) hx hb dX12_weekGoes_141 (by decide) ?_
    exact hK105 hf hw (lv_sub hl [1, 2, 0] rfl)
  have J175 : ∀ {K146 : S32 → S64 → Int32 → Int32 → Option (S32 × S64)} (hK146 : ∀ {u_T : S32} {v_T : S64} {w1 : Int32} {w2 : Int32} {H : Heap} {locs : List Loc} {ls : Array Slot}, K146 u_T v_T w1 w2 = some (zu_T, zv_T) → WD g A s.heap (cl_X12 g a_T u_T v_T ++ X) H locs → lv_has ls 3 [(0, .ref (a_T 0)), (1, .int w1), (2, .int w2)] → W p l e (rmH 7) s m (List.toArray [.ref (a_T 0), .int x1]) below meth c H locs 0 0 (MQ below (va_Qv (fun (_ : Unit) => True) (fun _ t => POST g A (cl_X12 g a_T zu_T zv_T ++ X) t) A) (List.toArray [.ref (a_T 0), .int x1]) s 0 0 A) (F0 m 146 ls [])), ∀ {u_T : S32} {v_T : S64} {w1 : Int32} {w2 : Int32} {H : Heap} {locs : List Loc} {ls : Array Slot}, f_X12_weekGoes_J175 fu K146 u_T v_T w1 w2 = some (zu_T, zv_T) → WD g A s.heap (cl_X12 g a_T u_T v_T ++ X) H locs → lv_has ls 3 [(0, .ref (a_T 0)), (1, .int w1), (2, .int w2)] → W p l e (rmH 7) s m (List.toArray [.ref (a_T 0), .int x1]) below meth c H locs 0 0 (MQ below (va_Qv (fun (_ : Unit) => True) (fun _ t => POST g A (cl_X12 g a_T zu_T zv_T ++ X) t) A) (List.toArray [.ref (a_T 0), .int x1]) s 0 0 A) (F0 m 175 ls []) := by
    intro K146 hK146 u_T v_T w1 w2 H locs ls hf hw hl
    unfold f_X12_weekGoes_J175 at hf
    obtain ⟨y_29, ey_29⟩ : ∃ y : Int32, y = w2 + (1 : Int32) := ⟨_, rfl⟩
    replace hf := tx_let_e hf ey_29
    refine lv_iinc (v := y_29) (lv' := [(2, .int y_29), (0, .ref (a_T 0)), (1, .int w1)]) hx hb dX12_weekGoes_175 hl (k := 2) rfl (by rw [ey_29]; rfl) (by decide) rfl (fun ls hl => ?_)
    refine lv_goto (tgt := 146) hx hb dX12_weekGoes_178 (by decide) ?_
    exact hK146 hf hw (lv_sub hl [1, 2, 0] rfl)
  have J146 : ∀ {K146 : S32 → S64 → Int32 → Int32 → Option (S32 × S64)} (hK146 : ∀ {u_T : S32} {v_T : S64} {w1 : Int32} {w2 : Int32} {H : Heap} {locs : List Loc} {ls : Array Slot}, K146 u_T v_T w1 w2 = some (zu_T, zv_T) → WD g A s.heap (cl_X12 g a_T u_T v_T ++ X) H locs → lv_has ls 3 [(0, .ref (a_T 0)), (1, .int w1), (2, .int w2)] → W p l e (rmH 7) s m (List.toArray [.ref (a_T 0), .int x1]) below meth c H locs 0 0 (MQ below (va_Qv (fun (_ : Unit) => True) (fun _ t => POST g A (cl_X12 g a_T zu_T zv_T ++ X) t) A) (List.toArray [.ref (a_T 0), .int x1]) s 0 0 A) (F0 m 146 ls [])), ∀ {u_T : S32} {v_T : S64} {w1 : Int32} {w2 : Int32} {H : Heap} {locs : List Loc} {ls : Array Slot}, f_X12_weekGoes_J146 fu K146 u_T v_T w1 w2 = some (zu_T, zv_T) → WD g A s.heap (cl_X12 g a_T u_T v_T ++ X) H locs → lv_has ls 3 [(0, .ref (a_T 0)), (1, .int w1), (2, .int w2)] → W p l e (rmH 7) s m (List.toArray [.ref (a_T 0), .int x1]) below meth c H locs 0 0 (MQ below (va_Qv (fun (_ : Unit) => True) (fun _ t => POST g A (cl_X12 g a_T zu_T zv_T ++ X) t) A) (List.toArray [.ref (a_T 0), .int x1]) s 0 0 A) (F0 m 146 ls []) := by
    intro K146 hK146 u_T v_T w1 w2 H locs ls hf hw hl
    unfold f_X12_weekGoes_J146 at hf
    refine lv_iload_n hx hb dX12_weekGoes_146 rfl (lv_at hl 2 rfl) ?_
    refine lv_aload_n hx hb dX12_weekGoes_147 rfl (lv_at hl 0 rfl) ?_
    refine gf_X12_225 S hE hw 0 rfl rfl dX12_weekGoes_148 ?_
    refine lv_icmp_ge (tgt := 181) hx hb dX12_weekGoes_151 (by decide) (fun h_20 => ?_) (fun h_20 => ?_)
    · replace hf := tx_pos hf h_20
      refine lv_aload_n hx hb dX12_weekGoes_181 rfl (lv_at hl 0 rfl) ?_
      refine gf_X12_115 S hE hw 0 rfl rfl dX12_weekGoes_182 ?_
      refine lv_iload_n hx hb dX12_weekGoes_185 rfl (lv_at hl 1 rfl) ?_
      refine lv_dup2_11 hx hb dX12_weekGoes_186 rfl rfl ?_
      obtain ⟨h_21, hf⟩ := tx_ck_e hf
      refine tx_iald S hE hw 34 rfl h_21 dX12_weekGoes_187 ?_
      refine lv_iconst (v := 1) hx hb dX12_weekGoes_188 (by decide) ?_
      refine lv_iadd hx hb dX12_weekGoes_189 ?_
      obtain ⟨h_22, hf⟩ := tx_ck_e hf
      obtain ⟨u_T_23, eu_T_23⟩ : ∃ z : S32, z = up2 u_T 59 w1.toNatClampNeg ((u_T 59 w1.toNatClampNeg) + (1 : Int32)) := ⟨_, rfl⟩
      replace hf := tx_let_e hf eu_T_23
      refine tx_iast (ws' := cl_X12 g a_T u_T_23 v_T ++ X) S hE hw 34 rfl h_22 (by rw [eu_T_23]; rfl) dX12_weekGoes_190 (fun H locs hw => ?_)
      obtain ⟨e0, e1⟩ := tx_in2 hf
      rw [← e0, ← e1]
      exact tx_vret S hr hlk hw dX12_weekGoes_191
    · replace hf := tx_neg hf h_20
      refine lv_aload_n hx hb dX12_weekGoes_154 rfl (lv_at hl 0 rfl) ?_
      refine gf_X12_88 S hE hw 0 rfl rfl dX12_weekGoes_155 ?_
      refine lv_bipush (v := 12) hx hb dX12_weekGoes_158 (by decide) ?_
      refine lv_iload_n hx hb dX12_weekGoes_160 rfl (lv_at hl 1 rfl) ?_
      refine lv_imul hx hb dX12_weekGoes_161 ?_
      refine lv_iload_n hx hb dX12_weekGoes_162 rfl (lv_at hl 2 rfl) ?_
      refine lv_iadd hx hb dX12_weekGoes_163 ?_
      obtain ⟨h_24, hf⟩ := tx_ck_e hf
      refine tx_iald S hE hw 25 rfl h_24 dX12_weekGoes_164 ?_
      refine lv_iconst (v := 1) hx hb dX12_weekGoes_165 (by decide) ?_
      refine lv_icmp_ne (tgt := 175) hx hb dX12_weekGoes_166 (by decide) (fun h_25 => ?_) (fun h_25 => ?_)
      · replace hf := tx_neg hf h_25
        exact J175 hK146 hf hw (lv_sub hl [0, 1, 2] rfl)
      · replace hf := tx_pos hf h_25
        refine lv_aload_n hx hb dX12_weekGoes_169 rfl (lv_at hl 0 rfl) ?_
        refine lv_iload_n hx hb dX12_weekGoes_170 rfl (lv_at hl 1 rfl) ?_
        refine lv_iload_n hx hb dX12_weekGoes_171 rfl (lv_at hl 2 rfl) ?_
        obtain ⟨u_T_27, v_T_28, h_26, hf⟩ := tx_b2_e hf
        refine tx_cv hw (tx_runV S hE hw (c_X12_fades h_26) lk_X12_442 (q0 := 0) rfl rfl rfl hl.1 (rest := []) rfl (Nat.le_of_ble_eq_true rfl) ⟨by decide, by decide⟩ dX12_weekGoes_172 ⟨Nat.zero_le _, Nat.zero_le _⟩) (fun H locs hw => ?_)
        exact J175 hK146 hf hw (lv_sub hl [0, 1, 2] rfl)
  have L146 : ∀ (n : Nat), ∀ {u_T : S32} {v_T : S64} {w1 : Int32} {w2 : Int32} {H : Heap} {locs : List Loc} {ls : Array Slot}, f_X12_weekGoes_L146 fu n u_T v_T w1 w2 = some (zu_T, zv_T) → WD g A s.heap (cl_X12 g a_T u_T v_T ++ X) H locs → lv_has ls 3 [(0, .ref (a_T 0)), (1, .int w1), (2, .int w2)] → W p l e (rmH 7) s m (List.toArray [.ref (a_T 0), .int x1]) below meth c H locs 0 0 (MQ below (va_Qv (fun (_ : Unit) => True) (fun _ t => POST g A (cl_X12 g a_T zu_T zv_T ++ X) t) A) (List.toArray [.ref (a_T 0), .int x1]) s 0 0 A) (F0 m 146 ls []) := by
    intro  n
    induction n with
    | zero => intro u_T v_T w1 w2 H locs ls hf; exact absurd hf (by intro q; cases q)
    | succ n ih => exact fun hf hw hl => J146 ih hf hw hl
  have J144 : ∀ {u_T : S32} {v_T : S64} {w1 : Int32} {H : Heap} {locs : List Loc} {ls : Array Slot}, f_X12_weekGoes_J144 fu u_T v_T w1 = some (zu_T, zv_T) → WD g A s.heap (cl_X12 g a_T u_T v_T ++ X) H locs → lv_has ls 3 [(0, .ref (a_T 0)), (1, .int w1)] → W p l e (rmH 7) s m (List.toArray [.ref (a_T 0), .int x1]) below meth c H locs 0 0 (MQ below (va_Qv (fun (_ : Unit) => True) (fun _ t => POST g A (cl_X12 g a_T zu_T zv_T ++ X) t) A) (List.toArray [.ref (a_T 0), .int x1]) s 0 0 A) (F0 m 144 ls []) := by
    intro u_T v_T w1 H locs ls hf hw hl
    unfold f_X12_weekGoes_J144 at hf
    refine lv_iconst (v := 0) hx hb dX12_weekGoes_144 (by decide) ?_
    refine lv_istore_n (lv' := [(2, .int (0 : Int32)), (0, .ref (a_T 0)), (1, .int w1)]) hx hb dX12_weekGoes_145 rfl hl (by decide) rfl (fun ls hl => ?_)
    exact L146 fu hf hw (lv_sub hl [1, 2, 0] rfl)
  have J105 : ∀ {K105 : S32 → S64 → Int32 → Int32 → Option (S32 × S64)} (hK105 : ∀ {u_T : S32} {v_T : S64} {w1 : Int32} {w2 : Int32} {H : Heap} {locs : List Loc} {ls : Array Slot}, K105 u_T v_T w1 w2 = some (zu_T, zv_T) → WD g A s.heap (cl_X12 g a_T u_T v_T ++ X) H locs → lv_has ls 3 [(0, .ref (a_T 0)), (1, .int w1), (2, .int w2)] → W p l e (rmH 7) s m (List.toArray [.ref (a_T 0), .int x1]) below meth c H locs 0 0 (MQ below (va_Qv (fun (_ : Unit) => True) (fun _ t => POST g A (cl_X12 g a_T zu_T zv_T ++ X) t) A) (List.toArray [.ref (a_T 0), .int x1]) s 0 0 A) (F0 m 105 ls [])), ∀ {u_T : S32} {v_T : S64} {w1 : Int32} {w2 : Int32} {H : Heap} {locs : List Loc} {ls : Array Slot}, f_X12_weekGoes_J105 fu K105 u_T v_T w1 w2 = some (zu_T, zv_T) → WD g A s.heap (cl_X12 g a_T u_T v_T ++ X) H locs → lv_has ls 3 [(0, .ref (a_T 0)), (1, .int w1), (2, .int w2)] → W p l e (rmH 7) s m (List.toArray [.ref (a_T 0), .int x1]) below meth c H locs 0 0 (MQ below (va_Qv (fun (_ : Unit) => True) (fun _ t => POST g A (cl_X12 g a_T zu_T zv_T ++ X) t) A) (List.toArray [.ref (a_T 0), .int x1]) s 0 0 A) (F0 m 105 ls []) := by
    intro K105 hK105 u_T v_T w1 w2 H locs ls hf hw hl
    unfold f_X12_weekGoes_J105 at hf
    refine lv_iload_n hx hb dX12_weekGoes_105 rfl (lv_at hl 2 rfl) ?_
    refine lv_aload_n hx hb dX12_weekGoes_106 rfl (lv_at hl 0 rfl) ?_
    refine gf_X12_222 S hE hw 0 rfl rfl dX12_weekGoes_107 ?_
    refine lv_icmp_ge (tgt := 144) hx hb dX12_weekGoes_110 (by decide) (fun h_16 => ?_) (fun h_16 => ?_)
    · replace hf := tx_pos hf h_16
      exact J144 hf hw (lv_sub hl [0, 1] rfl)
    · replace hf := tx_neg hf h_16
      refine lv_aload_n hx hb dX12_weekGoes_113 rfl (lv_at hl 0 rfl) ?_
      refine gf_X12_368 S hE hw 0 rfl rfl dX12_weekGoes_114 ?_
      refine lv_if_ne (tgt := 132) hx hb dX12_weekGoes_117 (by decide) (fun h_17 => ?_) (fun h_17 => ?_)
      · replace hf := tx_neg hf h_17
        exact J132 hK105 hf hw (lv_sub hl [0, 1, 2] rfl)
      · replace hf := tx_pos hf h_17
        refine lv_aload_n hx hb dX12_weekGoes_120 rfl (lv_at hl 0 rfl) ?_
        refine gf_X12_115 S hE hw 0 rfl rfl dX12_weekGoes_121 ?_
        refine lv_iload_n hx hb dX12_weekGoes_124 rfl (lv_at hl 1 rfl) ?_
        obtain ⟨h_18, hf⟩ := tx_ck_e hf
        refine tx_iald S hE hw 34 rfl h_18 dX12_weekGoes_125 ?_
        refine lv_iconst (v := 4) hx hb dX12_weekGoes_126 (by decide) ?_
        refine lv_irem hx hb dX12_weekGoes_127 (by decide) ?_
        refine lv_iconst (v := 3) hx hb dX12_weekGoes_128 (by decide) ?_
        refine lv_icmp_ne (tgt := 144) hx hb dX12_weekGoes_129 (by decide) (fun h_19 => ?_) (fun h_19 => ?_)
        · replace hf := tx_neg hf h_19
          exact J144 hf hw (lv_sub hl [0, 1] rfl)
        · replace hf := tx_pos hf h_19
          exact J132 hK105 hf hw (lv_sub hl [0, 1, 2] rfl)
  have L105 : ∀ (n : Nat), ∀ {u_T : S32} {v_T : S64} {w1 : Int32} {w2 : Int32} {H : Heap} {locs : List Loc} {ls : Array Slot}, f_X12_weekGoes_L105 fu n u_T v_T w1 w2 = some (zu_T, zv_T) → WD g A s.heap (cl_X12 g a_T u_T v_T ++ X) H locs → lv_has ls 3 [(0, .ref (a_T 0)), (1, .int w1), (2, .int w2)] → W p l e (rmH 7) s m (List.toArray [.ref (a_T 0), .int x1]) below meth c H locs 0 0 (MQ below (va_Qv (fun (_ : Unit) => True) (fun _ t => POST g A (cl_X12 g a_T zu_T zv_T ++ X) t) A) (List.toArray [.ref (a_T 0), .int x1]) s 0 0 A) (F0 m 105 ls []) := by
    intro  n
    induction n with
    | zero => intro u_T v_T w1 w2 H locs ls hf; exact absurd hf (by intro q; cases q)
    | succ n ih => exact fun hf hw hl => J105 ih hf hw hl
  have J7 : ∀ {K7 : S32 → S64 → Int32 → Int32 → Option (S32 × S64)} (hK7 : ∀ {u_T : S32} {v_T : S64} {w1 : Int32} {w2 : Int32} {H : Heap} {locs : List Loc} {ls : Array Slot}, K7 u_T v_T w1 w2 = some (zu_T, zv_T) → WD g A s.heap (cl_X12 g a_T u_T v_T ++ X) H locs → lv_has ls 3 [(0, .ref (a_T 0)), (1, .int w1), (2, .int w2)] → W p l e (rmH 7) s m (List.toArray [.ref (a_T 0), .int x1]) below meth c H locs 0 0 (MQ below (va_Qv (fun (_ : Unit) => True) (fun _ t => POST g A (cl_X12 g a_T zu_T zv_T ++ X) t) A) (List.toArray [.ref (a_T 0), .int x1]) s 0 0 A) (F0 m 7 ls [])), ∀ {u_T : S32} {v_T : S64} {w1 : Int32} {w2 : Int32} {H : Heap} {locs : List Loc} {ls : Array Slot}, f_X12_weekGoes_J7 fu K7 u_T v_T w1 w2 = some (zu_T, zv_T) → WD g A s.heap (cl_X12 g a_T u_T v_T ++ X) H locs → lv_has ls 3 [(0, .ref (a_T 0)), (1, .int w1), (2, .int w2)] → W p l e (rmH 7) s m (List.toArray [.ref (a_T 0), .int x1]) below meth c H locs 0 0 (MQ below (va_Qv (fun (_ : Unit) => True) (fun _ t => POST g A (cl_X12 g a_T zu_T zv_T ++ X) t) A) (List.toArray [.ref (a_T 0), .int x1]) s 0 0 A) (F0 m 7 ls []) := by
    intro K7 hK7 u_T v_T w1 w2 H locs ls hf hw hl
    unfold f_X12_weekGoes_J7 at hf
    refine lv_iload_n hx hb dX12_weekGoes_7 rfl (lv_at hl 2 rfl) ?_
    refine lv_aload_n hx hb dX12_weekGoes_8 rfl (lv_at hl 0 rfl) ?_
    refine gf_X12_225 S hE hw 0 rfl rfl dX12_weekGoes_9 ?_
    refine lv_icmp_ge (tgt := 103) hx hb dX12_weekGoes_12 (by decide) (fun h_2 => ?_) (fun h_2 => ?_)
    · replace hf := tx_pos hf h_2
      refine lv_iconst (v := 0) hx hb dX12_weekGoes_103 (by decide) ?_
      refine lv_istore_n (lv' := [(2, .int (0 : Int32)), (0, .ref (a_T 0)), (1, .int w1)]) hx hb dX12_weekGoes_104 rfl hl (by decide) rfl (fun ls hl => ?_)
      exact L105 fu hf hw (lv_sub hl [1, 2, 0] rfl)
    · replace hf := tx_neg hf h_2
      refine lv_aload_n hx hb dX12_weekGoes_15 rfl (lv_at hl 0 rfl) ?_
      refine gf_X12_88 S hE hw 0 rfl rfl dX12_weekGoes_16 ?_
      refine lv_bipush (v := 12) hx hb dX12_weekGoes_19 (by decide) ?_
      refine lv_iload_n hx hb dX12_weekGoes_21 rfl (lv_at hl 1 rfl) ?_
      refine lv_imul hx hb dX12_weekGoes_22 ?_
      refine lv_iload_n hx hb dX12_weekGoes_23 rfl (lv_at hl 2 rfl) ?_
      refine lv_iadd hx hb dX12_weekGoes_24 ?_
      obtain ⟨h_3, hf⟩ := tx_ck_e hf
      refine tx_iald S hE hw 25 rfl h_3 dX12_weekGoes_25 ?_
      refine lv_if_ne (tgt := 97) hx hb dX12_weekGoes_26 (by decide) (fun h_4 => ?_) (fun h_4 => ?_)
      · replace hf := tx_neg hf h_4
        exact J97 hK7 hf hw (lv_sub hl [0, 1, 2] rfl)
      · replace hf := tx_pos hf h_4
        refine lv_aload_n hx hb dX12_weekGoes_29 rfl (lv_at hl 0 rfl) ?_
        refine gf_X12_42 S hE hw 0 rfl rfl dX12_weekGoes_30 ?_
        refine lv_iload_n hx hb dX12_weekGoes_33 rfl (lv_at hl 2 rfl) ?_
        obtain ⟨h_5, hf⟩ := tx_ck_e hf
        refine tx_iald S hE hw 10 rfl h_5 dX12_weekGoes_34 ?_
        refine lv_aload_n hx hb dX12_weekGoes_35 rfl (lv_at hl 0 rfl) ?_
        refine gf_X12_115 S hE hw 0 rfl rfl dX12_weekGoes_36 ?_
        refine lv_iload_n hx hb dX12_weekGoes_39 rfl (lv_at hl 1 rfl) ?_
        obtain ⟨h_6, hf⟩ := tx_ck_e hf
        refine tx_iald S hE hw 34 rfl h_6 dX12_weekGoes_40 ?_
        refine lv_icmp_ne (tgt := 97) hx hb dX12_weekGoes_41 (by decide) (fun h_7 => ?_) (fun h_7 => ?_)
        · replace hf := tx_neg hf h_7
          exact J97 hK7 hf hw (lv_sub hl [0, 1, 2] rfl)
        · replace hf := tx_pos hf h_7
          refine lv_aload_n hx hb dX12_weekGoes_44 rfl (lv_at hl 0 rfl) ?_
          refine gf_X12_36 S hE hw 0 rfl rfl dX12_weekGoes_45 ?_
          refine lv_iload_n hx hb dX12_weekGoes_48 rfl (lv_at hl 2 rfl) ?_
          obtain ⟨h_8, hf⟩ := tx_ck_e hf
          refine tx_iald S hE hw 8 rfl h_8 dX12_weekGoes_49 ?_
          refine lv_aload_n hx hb dX12_weekGoes_50 rfl (lv_at hl 0 rfl) ?_
          refine gf_X12_371 S hE hw 0 rfl rfl dX12_weekGoes_51 ?_
          refine lv_icmp_eq (tgt := 97) hx hb dX12_weekGoes_54 (by decide) (fun h_9 => ?_) (fun h_9 => ?_)
          · replace hf := tx_pos hf h_9
            exact J97 hK7 hf hw (lv_sub hl [0, 1, 2] rfl)
          · replace hf := tx_neg hf h_9
            refine lv_iload_n hx hb dX12_weekGoes_57 rfl (lv_at hl 2 rfl) ?_
            refine lv_aload_n hx hb dX12_weekGoes_58 rfl (lv_at hl 0 rfl) ?_
            refine gf_X12_374 S hE hw 0 rfl rfl dX12_weekGoes_59 ?_
            refine lv_icmp_ne (tgt := 68) hx hb dX12_weekGoes_62 (by decide) (fun h_10 => ?_) (fun h_10 => ?_)
            · replace hf := tx_neg hf h_10
              refine lv_aload_n hx hb dX12_weekGoes_68 rfl (lv_at hl 0 rfl) ?_
              refine gf_X12_88 S hE hw 0 rfl rfl dX12_weekGoes_69 ?_
              refine lv_bipush (v := 12) hx hb dX12_weekGoes_72 (by decide) ?_
              refine lv_iload_n hx hb dX12_weekGoes_74 rfl (lv_at hl 1 rfl) ?_
              refine lv_imul hx hb dX12_weekGoes_75 ?_
              refine lv_iload_n hx hb dX12_weekGoes_76 rfl (lv_at hl 2 rfl) ?_
              refine lv_iadd hx hb dX12_weekGoes_77 ?_
              refine lv_iconst (v := 1) hx hb dX12_weekGoes_78 (by decide) ?_
              obtain ⟨h_11, hf⟩ := tx_ck_e hf
              obtain ⟨u_T_12, eu_T_12⟩ : ∃ z : S32, z = up2 u_T 50 (((12 : Int32) * w1) + w2).toNatClampNeg (1 : Int32) := ⟨_, rfl⟩
              replace hf := tx_let_e hf eu_T_12
              refine tx_iast (ws' := cl_X12 g a_T u_T_12 v_T ++ X) S hE hw 25 rfl h_11 (by rw [eu_T_12]; rfl) dX12_weekGoes_79 (fun H locs hw => ?_)
              refine lv_aload_n hx hb dX12_weekGoes_80 rfl (lv_at hl 0 rfl) ?_
              refine gf_X12_91 S hE hw 0 rfl rfl dX12_weekGoes_81 ?_
              refine lv_bipush (v := 12) hx hb dX12_weekGoes_84 (by decide) ?_
              refine lv_iload_n hx hb dX12_weekGoes_86 rfl (lv_at hl 1 rfl) ?_
              refine lv_imul hx hb dX12_weekGoes_87 ?_
              refine lv_iload_n hx hb dX12_weekGoes_88 rfl (lv_at hl 2 rfl) ?_
              refine lv_iadd hx hb dX12_weekGoes_89 ?_
              refine lv_aload_n hx hb dX12_weekGoes_90 rfl (lv_at hl 0 rfl) ?_
              refine gf_X12_36 S hE hw 0 rfl rfl dX12_weekGoes_91 ?_
              refine lv_iload_n hx hb dX12_weekGoes_94 rfl (lv_at hl 2 rfl) ?_
              obtain ⟨h_13, hf⟩ := tx_ck_e hf
              refine tx_iald S hE hw 8 rfl h_13 dX12_weekGoes_95 ?_
              obtain ⟨h_14, hf⟩ := tx_ck_e hf
              obtain ⟨u_T_15, eu_T_15⟩ : ∃ z : S32, z = up2 u_T_12 51 (((12 : Int32) * w1) + w2).toNatClampNeg (u_T_12 26 w2.toNatClampNeg) := ⟨_, rfl⟩
              replace hf := tx_let_e hf eu_T_15
              refine tx_iast (ws' := cl_X12 g a_T u_T_15 v_T ++ X) S hE hw 26 rfl h_14 (by rw [eu_T_15]; rfl) dX12_weekGoes_96 (fun H locs hw => ?_)
              exact J97 hK7 hf hw (lv_sub hl [0, 1, 2] rfl)
            · replace hf := tx_pos hf h_10
              refine lv_goto (tgt := 97) hx hb dX12_weekGoes_65 (by decide) ?_
              exact J97 hK7 hf hw (lv_sub hl [0, 1, 2] rfl)
  have L7 : ∀ (n : Nat), ∀ {u_T : S32} {v_T : S64} {w1 : Int32} {w2 : Int32} {H : Heap} {locs : List Loc} {ls : Array Slot}, f_X12_weekGoes_L7 fu n u_T v_T w1 w2 = some (zu_T, zv_T) → WD g A s.heap (cl_X12 g a_T u_T v_T ++ X) H locs → lv_has ls 3 [(0, .ref (a_T 0)), (1, .int w1), (2, .int w2)] → W p l e (rmH 7) s m (List.toArray [.ref (a_T 0), .int x1]) below meth c H locs 0 0 (MQ below (va_Qv (fun (_ : Unit) => True) (fun _ t => POST g A (cl_X12 g a_T zu_T zv_T ++ X) t) A) (List.toArray [.ref (a_T 0), .int x1]) s 0 0 A) (F0 m 7 ls []) := by
    intro  n
    induction n with
    | zero => intro u_T v_T w1 w2 H locs ls hf; exact absurd hf (by intro q; cases q)
    | succ n ih => exact fun hf hw hl => J7 ih hf hw hl
  unfold f_X12_weekGoes at hf
  refine lv_aload_n hx hb dX12_weekGoes_0 rfl (lv_at hl 0 rfl) ?_
  refine lv_iconst (v := 0) hx hb dX12_weekGoes_1 (by decide) ?_
  obtain ⟨u_T_1, eu_T_1⟩ : ∃ z : S32, z = up2 u_T 0 60 (0 : Int32) := ⟨_, rfl⟩
  replace hf := tx_let_e hf eu_T_1
  refine pf_X12_435 (ws' := cl_X12 g a_T u_T_1 v_T ++ X) S hE hw rfl rfl 0 rfl (Nat.le_of_ble_eq_true rfl) (by rw [eu_T_1]; rfl) dX12_weekGoes_2 (fun H locs hw => ?_)
  refine lv_iconst (v := 0) hx hb dX12_weekGoes_5 (by decide) ?_
  refine lv_istore_n (lv' := [(2, .int (0 : Int32)), (0, .ref (a_T 0)), (1, .int x1)]) hx hb dX12_weekGoes_6 rfl hl (by decide) rfl (fun ls hl => ?_)
  exact L7 fu hf hw (lv_sub hl [1, 2, 0] rfl)
def f_X12_goMany_J2 (fu : Nat) (K2 : S32 → S64 → Int32 → Int32 → Option (S32 × S64)) (u_T : S32) (v_T : S64) (w1 : Int32) (w2 : Int32) : Option (S32 × S64) := if w1 ≤ w2 then (some (u_T, v_T)) else (tx_b2 (f_X12_weekGoes fu u_T v_T (1 : Int32)) fun (u_T_3 : S32) (v_T_4 : S64) => tx_let (w2 + (1 : Int32)) fun (y_5 : Int32) => K2 u_T_3 v_T_4 w1 y_5)
def f_X12_goMany_L2 (fu : Nat) : Nat → S32 → S64 → Int32 → Int32 → Option (S32 × S64)
  | 0 => fun _ _ _ _ => none
  | n + 1 => f_X12_goMany_J2 fu (f_X12_goMany_L2 fu n)
def f_X12_goMany (fu : Nat) (u_T : S32) (v_T : S64) (x1 : Int32) : Option (S32 × S64) := f_X12_goMany_L2 fu fu u_T v_T x1 (0 : Int32)
set_option maxHeartbeats 4000000 in
set_option maxRecDepth 100000 in
theorem c_X12_goMany {l : Launch} {g : GG} {A : Nat → Prop} {X : va_W} {fu : Nat} {a_T : Nat → Nat} {u_T : S32} {v_T : S64} {x1 : Int32} {zu_T : S32} {zv_T : S64} (hf : f_X12_goMany fu  u_T v_T x1 = some (zu_T, zv_T)) : MV l yX12_goMany cX12_goMany 3 none 8 g A (cl_X12 g a_T u_T v_T ++ X) [.ref (a_T 0), .int x1] (cl_X12 g a_T zu_T zv_T ++ X) := by
  refine tx_start (av := [.ref (a_T 0), .int x1]) (by decide) (Nat.le_of_ble_eq_true rfl) ?_
  intro p e s m below meth c ls S hr hlk hE hw hl
  have S : CallFix p m c cX12_goMany 3 s (List.toArray [.ref (a_T 0), .int x1]) (Cond.code yX12_goMany cX12_goMany 3 none :: allW) RX12 := S
  have hx := S.1
  have hb := S.2.1
  have hown := S.2.2.2.1
  have hts : ∀ w ∈ allW, w.before (List.toArray [.ref (a_T 0), .int x1]) s = true := fun w h => S.2.2.2.2 w (List.mem_cons_of_mem _ h)
  have hl : lv_has ls 3 [(0, .ref (a_T 0)), (1, .int x1)] := hl
  have J2 : ∀ {K2 : S32 → S64 → Int32 → Int32 → Option (S32 × S64)} (hK2 : ∀ {u_T : S32} {v_T : S64} {w1 : Int32} {w2 : Int32} {H : Heap} {locs : List Loc} {ls : Array Slot}, K2 u_T v_T w1 w2 = some (zu_T, zv_T) → WD g A s.heap (cl_X12 g a_T u_T v_T ++ X) H locs → lv_has ls 3 [(0, .ref (a_T 0)), (1, .int w1), (2, .int w2)] → W p l e (rmH 8) s m (List.toArray [.ref (a_T 0), .int x1]) below meth c H locs 0 0 (MQ below (va_Qv (fun (_ : Unit) => True) (fun _ t => POST g A (cl_X12 g a_T zu_T zv_T ++ X) t) A) (List.toArray [.ref (a_T 0), .int x1]) s 0 0 A) (F0 m 2 ls [])), ∀ {u_T : S32} {v_T : S64} {w1 : Int32} {w2 : Int32} {H : Heap} {locs : List Loc} {ls : Array Slot}, f_X12_goMany_J2 fu K2 u_T v_T w1 w2 = some (zu_T, zv_T) → WD g A s.heap (cl_X12 g a_T u_T v_T ++ X) H locs → lv_has ls 3 [(0, .ref (a_T 0)), (1, .int w1), (2, .int w2)] → W p l e (rmH 8) s m (List.toArray [.ref (a_T 0), .int x1]) below meth c H locs 0 0 (MQ below (va_Qv (fun (_ : Unit) => True) (fun _ t => POST g A (cl_X12 g a_T zu_T zv_T ++ X) t) A) (List.toArray [.ref (a_T 0), .int x1]) s 0 0 A) (F0 m 2 ls []) := by
    intro K2 hK2 u_T v_T w1 w2 H locs ls hf hw hl
    unfold f_X12_goMany_J2 at hf
    refine lv_iload_n hx hb dX12_goMany_2 rfl (lv_at hl 2 rfl) ?_
    refine lv_iload_n hx hb dX12_goMany_3 rfl (lv_at hl 1 rfl) ?_
    refine lv_icmp_ge (tgt := 18) hx hb dX12_goMany_4 (by decide) (fun h_1 => ?_) (fun h_1 => ?_)
    · replace hf := tx_pos hf h_1
      obtain ⟨e0, e1⟩ := tx_in2 hf
      rw [← e0, ← e1]
      exact tx_vret S hr hlk hw dX12_goMany_18
    · replace hf := tx_neg hf h_1
      refine lv_aload_n hx hb dX12_goMany_7 rfl (lv_at hl 0 rfl) ?_
      refine lv_iconst (v := 1) hx hb dX12_goMany_8 (by decide) ?_
      obtain ⟨u_T_3, v_T_4, h_2, hf⟩ := tx_b2_e hf
      refine tx_cv hw (tx_runV S hE hw (c_X12_weekGoes h_2) lk_X12_445 (q0 := 0) rfl rfl rfl hl.1 (rest := []) rfl (Nat.le_of_ble_eq_true rfl) ⟨by decide, by decide⟩ dX12_goMany_9 ⟨Nat.zero_le _, Nat.zero_le _⟩) (fun H locs hw => ?_)
      obtain ⟨y_5, ey_5⟩ : ∃ y : Int32, y = w2 + (1 : Int32) := ⟨_, rfl⟩
      replace hf := tx_let_e hf ey_5
      refine lv_iinc (v := y_5) (lv' := [(2, .int y_5), (0, .ref (a_T 0)), (1, .int w1)]) hx hb dX12_goMany_12 hl (k := 2) rfl (by rw [ey_5]; rfl) (by decide) rfl (fun ls hl => ?_)
      refine lv_goto (tgt := 2) hx hb dX12_goMany_15 (by decide) ?_
      exact hK2 hf hw (lv_sub hl [1, 2, 0] rfl)
  have L2 : ∀ (n : Nat), ∀ {u_T : S32} {v_T : S64} {w1 : Int32} {w2 : Int32} {H : Heap} {locs : List Loc} {ls : Array Slot}, f_X12_goMany_L2 fu n u_T v_T w1 w2 = some (zu_T, zv_T) → WD g A s.heap (cl_X12 g a_T u_T v_T ++ X) H locs → lv_has ls 3 [(0, .ref (a_T 0)), (1, .int w1), (2, .int w2)] → W p l e (rmH 8) s m (List.toArray [.ref (a_T 0), .int x1]) below meth c H locs 0 0 (MQ below (va_Qv (fun (_ : Unit) => True) (fun _ t => POST g A (cl_X12 g a_T zu_T zv_T ++ X) t) A) (List.toArray [.ref (a_T 0), .int x1]) s 0 0 A) (F0 m 2 ls []) := by
    intro  n
    induction n with
    | zero => intro u_T v_T w1 w2 H locs ls hf; exact absurd hf (by intro q; cases q)
    | succ n ih => exact fun hf hw hl => J2 ih hf hw hl
  unfold f_X12_goMany at hf
  refine lv_iconst (v := 0) hx hb dX12_goMany_0 (by decide) ?_
  refine lv_istore_n (lv' := [(2, .int (0 : Int32)), (0, .ref (a_T 0)), (1, .int x1)]) hx hb dX12_goMany_1 rfl hl (by decide) rfl (fun ls hl => ?_)
  exact L2 fu hf hw (lv_sub hl [1, 2, 0] rfl)
def f_X12_are_J36 (fu : Nat) (u_T : S32) (v_T : S64) (K5 : Int32 → Int32 → Int32 → Int32 → Option (Int32)) (w1 : Int32) (w2 : Int32) (w4 : Int32) (t0 : Int32) (t1 : Int32) : Option (Int32) := tx_let (t0 + t1) fun (y_4 : Int32) => tx_let (w4 + (1 : Int32)) fun (y_5 : Int32) => K5 w1 w2 y_4 y_5
def f_X12_are_J5 (fu : Nat) (u_T : S32) (v_T : S64) (K5 : Int32 → Int32 → Int32 → Int32 → Option (Int32)) (w1 : Int32) (w2 : Int32) (w3 : Int32) (w4 : Int32) : Option (Int32) := if (u_T 0 13) ≤ w4 then (some w3) else (tx_ck (((12 : Int32) * w1) + w4) 24 <| if (u_T 50 (((12 : Int32) * w1) + w4).toNatClampNeg) = w2 then (f_X12_are_J36 fu u_T v_T K5 w1 w2 w4 w3 (1 : Int32)) else (f_X12_are_J36 fu u_T v_T K5 w1 w2 w4 w3 (0 : Int32)))
def f_X12_are_L5 (fu : Nat) (u_T : S32) (v_T : S64) : Nat → Int32 → Int32 → Int32 → Int32 → Option (Int32)
  | 0 => fun _ _ _ _ => none
  | n + 1 => f_X12_are_J5 fu u_T v_T (f_X12_are_L5 fu u_T v_T n)
def f_X12_are (fu : Nat) (u_T : S32) (v_T : S64) (x1 : Int32) (x2 : Int32) : Option (Int32) := f_X12_are_L5 fu u_T v_T fu x1 x2 (0 : Int32) (0 : Int32)
set_option maxHeartbeats 4000000 in
set_option maxRecDepth 100000 in
theorem c_X12_are {l : Launch} {g : GG} {A : Nat → Prop} {X : va_W} {fu : Nat} {a_T : Nat → Nat} {u_T : S32} {v_T : S64} {x1 : Int32} {x2 : Int32} {r : Int32} (hf : f_X12_are fu u_T v_T x1 x2 = some r) : MI l yX12_are cX12_are 5 (some .int) 0 g A (cl_X12 g a_T u_T v_T ++ X) [.ref (a_T 0), .int x1, .int x2] r (cl_X12 g a_T u_T v_T ++ X) := by
  refine tx_start (av := [.ref (a_T 0), .int x1, .int x2]) (by decide) (Nat.le_of_ble_eq_true rfl) ?_
  intro p e s m below meth c ls S hr hlk hE hw hl
  have S : CallFix p m c cX12_are 5 s (List.toArray [.ref (a_T 0), .int x1, .int x2]) (Cond.code yX12_are cX12_are 5 (some .int) :: allW) RX12 := S
  have hx := S.1
  have hb := S.2.1
  have hown := S.2.2.2.1
  have hts : ∀ w ∈ allW, w.before (List.toArray [.ref (a_T 0), .int x1, .int x2]) s = true := fun w h => S.2.2.2.2 w (List.mem_cons_of_mem _ h)
  have hl : lv_has ls 5 [(0, .ref (a_T 0)), (1, .int x1), (2, .int x2)] := hl
  have J36 : ∀ {K5 : Int32 → Int32 → Int32 → Int32 → Option (Int32)} (hK5 : ∀ {w1 : Int32} {w2 : Int32} {w3 : Int32} {w4 : Int32} {H : Heap} {locs : List Loc} {ls : Array Slot}, K5 w1 w2 w3 w4 = some r → WD g A s.heap (cl_X12 g a_T u_T v_T ++ X) H locs → lv_has ls 5 [(0, .ref (a_T 0)), (1, .int w1), (2, .int w2), (3, .int w3), (4, .int w4)] → W p l e (rmH 0) s m (List.toArray [.ref (a_T 0), .int x1, .int x2]) below meth c H locs 0 0 (MQ below (va_Qi (fun r2 (_ : Unit) => r2 = r) (fun _ t => POST g A (cl_X12 g a_T u_T v_T ++ X) t) A) (List.toArray [.ref (a_T 0), .int x1, .int x2]) s 0 0 A) (F0 m 5 ls [])), ∀ {w1 : Int32} {w2 : Int32} {w4 : Int32} {t0 : Int32} {t1 : Int32} {H : Heap} {locs : List Loc} {ls : Array Slot}, f_X12_are_J36 fu u_T v_T K5 w1 w2 w4 t0 t1 = some r → WD g A s.heap (cl_X12 g a_T u_T v_T ++ X) H locs → lv_has ls 5 [(0, .ref (a_T 0)), (1, .int w1), (2, .int w2), (4, .int w4)] → W p l e (rmH 0) s m (List.toArray [.ref (a_T 0), .int x1, .int x2]) below meth c H locs 0 0 (MQ below (va_Qi (fun r2 (_ : Unit) => r2 = r) (fun _ t => POST g A (cl_X12 g a_T u_T v_T ++ X) t) A) (List.toArray [.ref (a_T 0), .int x1, .int x2]) s 0 0 A) (F0 m 36 ls [.int t1, .int t0]) := by
    intro K5 hK5 w1 w2 w4 t0 t1 H locs ls hf hw hl
    unfold f_X12_are_J36 at hf
    refine lv_iadd hx hb dX12_are_36 ?_
    refine lv_topi (fun y_4 ey_4 => ?_)
    replace hf := tx_let_e hf ey_4
    refine lv_istore_n (lv' := [(3, .int y_4), (0, .ref (a_T 0)), (1, .int w1), (2, .int w2), (4, .int w4)]) hx hb dX12_are_37 rfl hl (by decide) rfl (fun ls hl => ?_)
    obtain ⟨y_5, ey_5⟩ : ∃ y : Int32, y = w4 + (1 : Int32) := ⟨_, rfl⟩
    replace hf := tx_let_e hf ey_5
    refine lv_iinc (v := y_5) (lv' := [(4, .int y_5), (3, .int y_4), (0, .ref (a_T 0)), (1, .int w1), (2, .int w2)]) hx hb dX12_are_38 hl (k := 4) rfl (by rw [ey_5]; rfl) (by decide) rfl (fun ls hl => ?_)
    refine lv_goto (tgt := 5) hx hb dX12_are_41 (by decide) ?_
    exact hK5 hf hw (lv_sub hl [2, 3, 4, 1, 0] rfl)
  have J5 : ∀ {K5 : Int32 → Int32 → Int32 → Int32 → Option (Int32)} (hK5 : ∀ {w1 : Int32} {w2 : Int32} {w3 : Int32} {w4 : Int32} {H : Heap} {locs : List Loc} {ls : Array Slot}, K5 w1 w2 w3 w4 = some r → WD g A s.heap (cl_X12 g a_T u_T v_T ++ X) H locs → lv_has ls 5 [(0, .ref (a_T 0)), (1, .int w1), (2, .int w2), (3, .int w3), (4, .int w4)] → W p l e (rmH 0) s m (List.toArray [.ref (a_T 0), .int x1, .int x2]) below meth c H locs 0 0 (MQ below (va_Qi (fun r2 (_ : Unit) => r2 = r) (fun _ t => POST g A (cl_X12 g a_T u_T v_T ++ X) t) A) (List.toArray [.ref (a_T 0), .int x1, .int x2]) s 0 0 A) (F0 m 5 ls [])), ∀ {w1 : Int32} {w2 : Int32} {w3 : Int32} {w4 : Int32} {H : Heap} {locs : List Loc} {ls : Array Slot}, f_X12_are_J5 fu u_T v_T K5 w1 w2 w3 w4 = some r → WD g A s.heap (cl_X12 g a_T u_T v_T ++ X) H locs → lv_has ls 5 [(0, .ref (a_T 0)), (1, .int w1), (2, .int w2), (3, .int w3), (4, .int w4)] → W p l e (rmH 0) s m (List.toArray [.ref (a_T 0), .int x1, .int x2]) below meth c H locs 0 0 (MQ below (va_Qi (fun r2 (_ : Unit) => r2 = r) (fun _ t => POST g A (cl_X12 g a_T u_T v_T ++ X) t) A) (List.toArray [.ref (a_T 0), .int x1, .int x2]) s 0 0 A) (F0 m 5 ls []) := by
    intro K5 hK5 w1 w2 w3 w4 H locs ls hf hw hl
    unfold f_X12_are_J5 at hf
    refine lv_iload hx hb dX12_are_5 (lv_at hl 4 rfl) ?_
    refine lv_aload_n hx hb dX12_are_7 rfl (lv_at hl 0 rfl) ?_
    refine gf_X12_225 S hE hw 0 rfl rfl dX12_are_8 ?_
    refine lv_icmp_ge (tgt := 44) hx hb dX12_are_11 (by decide) (fun h_1 => ?_) (fun h_1 => ?_)
    · replace hf := tx_pos hf h_1
      refine lv_iload_n hx hb dX12_are_44 rfl (lv_at hl 3 rfl) ?_
      obtain e0 := tx_in1 hf
      rw [← e0]
      exact tx_iret S hr hlk hw dX12_are_45
    · replace hf := tx_neg hf h_1
      refine lv_iload_n hx hb dX12_are_14 rfl (lv_at hl 3 rfl) ?_
      refine lv_aload_n hx hb dX12_are_15 rfl (lv_at hl 0 rfl) ?_
      refine gf_X12_88 S hE hw 0 rfl rfl dX12_are_16 ?_
      refine lv_bipush (v := 12) hx hb dX12_are_19 (by decide) ?_
      refine lv_iload_n hx hb dX12_are_21 rfl (lv_at hl 1 rfl) ?_
      refine lv_imul hx hb dX12_are_22 ?_
      refine lv_iload hx hb dX12_are_23 (lv_at hl 4 rfl) ?_
      refine lv_iadd hx hb dX12_are_25 ?_
      obtain ⟨h_2, hf⟩ := tx_ck_e hf
      refine tx_iald S hE hw 25 rfl h_2 dX12_are_26 ?_
      refine lv_iload_n hx hb dX12_are_27 rfl (lv_at hl 2 rfl) ?_
      refine lv_icmp_ne (tgt := 35) hx hb dX12_are_28 (by decide) (fun h_3 => ?_) (fun h_3 => ?_)
      · replace hf := tx_neg hf h_3
        refine lv_iconst (v := 0) hx hb dX12_are_35 (by decide) ?_
        exact J36 hK5 hf hw (lv_sub hl [0, 1, 2, 4] rfl)
      · replace hf := tx_pos hf h_3
        refine lv_iconst (v := 1) hx hb dX12_are_31 (by decide) ?_
        refine lv_goto (tgt := 36) hx hb dX12_are_32 (by decide) ?_
        exact J36 hK5 hf hw (lv_sub hl [0, 1, 2, 4] rfl)
  have L5 : ∀ (n : Nat), ∀ {w1 : Int32} {w2 : Int32} {w3 : Int32} {w4 : Int32} {H : Heap} {locs : List Loc} {ls : Array Slot}, f_X12_are_L5 fu u_T v_T n w1 w2 w3 w4 = some r → WD g A s.heap (cl_X12 g a_T u_T v_T ++ X) H locs → lv_has ls 5 [(0, .ref (a_T 0)), (1, .int w1), (2, .int w2), (3, .int w3), (4, .int w4)] → W p l e (rmH 0) s m (List.toArray [.ref (a_T 0), .int x1, .int x2]) below meth c H locs 0 0 (MQ below (va_Qi (fun r2 (_ : Unit) => r2 = r) (fun _ t => POST g A (cl_X12 g a_T u_T v_T ++ X) t) A) (List.toArray [.ref (a_T 0), .int x1, .int x2]) s 0 0 A) (F0 m 5 ls []) := by
    intro  n
    induction n with
    | zero => intro w1 w2 w3 w4 H locs ls hf; exact absurd hf (by intro q; cases q)
    | succ n ih => exact fun hf hw hl => J5 ih hf hw hl
  unfold f_X12_are at hf
  refine lv_iconst (v := 0) hx hb dX12_are_0 (by decide) ?_
  refine lv_istore_n (lv' := [(3, .int (0 : Int32)), (0, .ref (a_T 0)), (1, .int x1), (2, .int x2)]) hx hb dX12_are_1 rfl hl (by decide) rfl (fun ls hl => ?_)
  refine lv_iconst (v := 0) hx hb dX12_are_2 (by decide) ?_
  refine lv_istore (lv' := [(4, .int (0 : Int32)), (3, .int (0 : Int32)), (0, .ref (a_T 0)), (1, .int x1), (2, .int x2)]) hx hb dX12_are_3 hl (by decide) rfl (fun ls hl => ?_)
  exact L5 fu hf hw (lv_sub hl [2, 3, 4, 1, 0] rfl)
def f_X12_paidAll_J4 (fu : Nat) (u_T : S32) (v_T : S64) (K4 : Int32 → Int32 → Int32 → Option (Int32)) (w1 : Int32) (w2 : Int32) (w3 : Int32) : Option (Int32) := if (u_T 0 12) ≤ w3 then (some w2) else (tx_ck (((6 : Int32) * w1) + w3) 12 <| tx_let (w2 + (u_T 54 (((6 : Int32) * w1) + w3).toNatClampNeg)) fun (y_3 : Int32) => tx_let (w3 + (1 : Int32)) fun (y_4 : Int32) => K4 w1 y_3 y_4)
def f_X12_paidAll_L4 (fu : Nat) (u_T : S32) (v_T : S64) : Nat → Int32 → Int32 → Int32 → Option (Int32)
  | 0 => fun _ _ _ => none
  | n + 1 => f_X12_paidAll_J4 fu u_T v_T (f_X12_paidAll_L4 fu u_T v_T n)
def f_X12_paidAll (fu : Nat) (u_T : S32) (v_T : S64) (x1 : Int32) : Option (Int32) := f_X12_paidAll_L4 fu u_T v_T fu x1 (0 : Int32) (0 : Int32)
set_option maxHeartbeats 4000000 in
set_option maxRecDepth 100000 in
theorem c_X12_paidAll {l : Launch} {g : GG} {A : Nat → Prop} {X : va_W} {fu : Nat} {a_T : Nat → Nat} {u_T : S32} {v_T : S64} {x1 : Int32} {r : Int32} (hf : f_X12_paidAll fu u_T v_T x1 = some r) : MI l yX12_paidAll cX12_paidAll 4 (some .int) 0 g A (cl_X12 g a_T u_T v_T ++ X) [.ref (a_T 0), .int x1] r (cl_X12 g a_T u_T v_T ++ X) := by
  refine tx_start (av := [.ref (a_T 0), .int x1]) (by decide) (Nat.le_of_ble_eq_true rfl) ?_
  intro p e s m below meth c ls S hr hlk hE hw hl
  have S : CallFix p m c cX12_paidAll 4 s (List.toArray [.ref (a_T 0), .int x1]) (Cond.code yX12_paidAll cX12_paidAll 4 (some .int) :: allW) RX12 := S
  have hx := S.1
  have hb := S.2.1
  have hown := S.2.2.2.1
  have hts : ∀ w ∈ allW, w.before (List.toArray [.ref (a_T 0), .int x1]) s = true := fun w h => S.2.2.2.2 w (List.mem_cons_of_mem _ h)
  have hl : lv_has ls 4 [(0, .ref (a_T 0)), (1, .int x1)] := hl
  have J4 : ∀ {K4 : Int32 → Int32 → Int32 → Option (Int32)} (hK4 : ∀ {w1 : Int32} {w2 : Int32} {w3 : Int32} {H : Heap} {locs : List Loc} {ls : Array Slot}, K4 w1 w2 w3 = some r → WD g A s.heap (cl_X12 g a_T u_T v_T ++ X) H locs → lv_has ls 4 [(0, .ref (a_T 0)), (1, .int w1), (2, .int w2), (3, .int w3)] → W p l e (rmH 0) s m (List.toArray [.ref (a_T 0), .int x1]) below meth c H locs 0 0 (MQ below (va_Qi (fun r2 (_ : Unit) => r2 = r) (fun _ t => POST g A (cl_X12 g a_T u_T v_T ++ X) t) A) (List.toArray [.ref (a_T 0), .int x1]) s 0 0 A) (F0 m 4 ls [])), ∀ {w1 : Int32} {w2 : Int32} {w3 : Int32} {H : Heap} {locs : List Loc} {ls : Array Slot}, f_X12_paidAll_J4 fu u_T v_T K4 w1 w2 w3 = some r → WD g A s.heap (cl_X12 g a_T u_T v_T ++ X) H locs → lv_has ls 4 [(0, .ref (a_T 0)), (1, .int w1), (2, .int w2), (3, .int w3)] → W p l e (rmH 0) s m (List.toArray [.ref (a_T 0), .int x1]) below meth c H locs 0 0 (MQ below (va_Qi (fun r2 (_ : Unit) => r2 = r) (fun _ t => POST g A (cl_X12 g a_T u_T v_T ++ X) t) A) (List.toArray [.ref (a_T 0), .int x1]) s 0 0 A) (F0 m 4 ls []) := by
    intro K4 hK4 w1 w2 w3 H locs ls hf hw hl
    unfold f_X12_paidAll_J4 at hf
    refine lv_iload_n hx hb dX12_paidAll_4 rfl (lv_at hl 3 rfl) ?_
    refine lv_aload_n hx hb dX12_paidAll_5 rfl (lv_at hl 0 rfl) ?_
    refine gf_X12_222 S hE hw 0 rfl rfl dX12_paidAll_6 ?_
    refine lv_icmp_ge (tgt := 32) hx hb dX12_paidAll_9 (by decide) (fun h_1 => ?_) (fun h_1 => ?_)
    · replace hf := tx_pos hf h_1
      refine lv_iload_n hx hb dX12_paidAll_32 rfl (lv_at hl 2 rfl) ?_
      obtain e0 := tx_in1 hf
      rw [← e0]
      exact tx_iret S hr hlk hw dX12_paidAll_33
    · replace hf := tx_neg hf h_1
      refine lv_iload_n hx hb dX12_paidAll_12 rfl (lv_at hl 2 rfl) ?_
      refine lv_aload_n hx hb dX12_paidAll_13 rfl (lv_at hl 0 rfl) ?_
      refine gf_X12_100 S hE hw 0 rfl rfl dX12_paidAll_14 ?_
      refine lv_bipush (v := 6) hx hb dX12_paidAll_17 (by decide) ?_
      refine lv_iload_n hx hb dX12_paidAll_19 rfl (lv_at hl 1 rfl) ?_
      refine lv_imul hx hb dX12_paidAll_20 ?_
      refine lv_iload_n hx hb dX12_paidAll_21 rfl (lv_at hl 3 rfl) ?_
      refine lv_iadd hx hb dX12_paidAll_22 ?_
      obtain ⟨h_2, hf⟩ := tx_ck_e hf
      refine tx_iald S hE hw 29 rfl h_2 dX12_paidAll_23 ?_
      refine lv_iadd hx hb dX12_paidAll_24 ?_
      refine lv_topi (fun y_3 ey_3 => ?_)
      replace hf := tx_let_e hf ey_3
      refine lv_istore_n (lv' := [(2, .int y_3), (0, .ref (a_T 0)), (1, .int w1), (3, .int w3)]) hx hb dX12_paidAll_25 rfl hl (by decide) rfl (fun ls hl => ?_)
      obtain ⟨y_4, ey_4⟩ : ∃ y : Int32, y = w3 + (1 : Int32) := ⟨_, rfl⟩
      replace hf := tx_let_e hf ey_4
      refine lv_iinc (v := y_4) (lv' := [(3, .int y_4), (2, .int y_3), (0, .ref (a_T 0)), (1, .int w1)]) hx hb dX12_paidAll_26 hl (k := 3) rfl (by rw [ey_4]; rfl) (by decide) rfl (fun ls hl => ?_)
      refine lv_goto (tgt := 4) hx hb dX12_paidAll_29 (by decide) ?_
      exact hK4 hf hw (lv_sub hl [2, 3, 1, 0] rfl)
  have L4 : ∀ (n : Nat), ∀ {w1 : Int32} {w2 : Int32} {w3 : Int32} {H : Heap} {locs : List Loc} {ls : Array Slot}, f_X12_paidAll_L4 fu u_T v_T n w1 w2 w3 = some r → WD g A s.heap (cl_X12 g a_T u_T v_T ++ X) H locs → lv_has ls 4 [(0, .ref (a_T 0)), (1, .int w1), (2, .int w2), (3, .int w3)] → W p l e (rmH 0) s m (List.toArray [.ref (a_T 0), .int x1]) below meth c H locs 0 0 (MQ below (va_Qi (fun r2 (_ : Unit) => r2 = r) (fun _ t => POST g A (cl_X12 g a_T u_T v_T ++ X) t) A) (List.toArray [.ref (a_T 0), .int x1]) s 0 0 A) (F0 m 4 ls []) := by
    intro  n
    induction n with
    | zero => intro w1 w2 w3 H locs ls hf; exact absurd hf (by intro q; cases q)
    | succ n ih => exact fun hf hw hl => J4 ih hf hw hl
  unfold f_X12_paidAll at hf
  refine lv_iconst (v := 0) hx hb dX12_paidAll_0 (by decide) ?_
  refine lv_istore_n (lv' := [(2, .int (0 : Int32)), (0, .ref (a_T 0)), (1, .int x1)]) hx hb dX12_paidAll_1 rfl hl (by decide) rfl (fun ls hl => ?_)
  refine lv_iconst (v := 0) hx hb dX12_paidAll_2 (by decide) ?_
  refine lv_istore_n (lv' := [(3, .int (0 : Int32)), (2, .int (0 : Int32)), (0, .ref (a_T 0)), (1, .int x1)]) hx hb dX12_paidAll_3 rfl hl (by decide) rfl (fun ls hl => ?_)
  exact L4 fu hf hw (lv_sub hl [2, 3, 1, 0] rfl)
def f_X12_owedAll_J4 (fu : Nat) (u_T : S32) (v_T : S64) (K4 : Int32 → Int32 → Int32 → Option (Int32)) (w1 : Int32) (w2 : Int32) (w3 : Int32) : Option (Int32) := if (u_T 0 12) ≤ w3 then (some w2) else (tx_ck (((6 : Int32) * w1) + w3) 12 <| tx_let (w2 + (u_T 55 (((6 : Int32) * w1) + w3).toNatClampNeg)) fun (y_3 : Int32) => tx_let (w3 + (1 : Int32)) fun (y_4 : Int32) => K4 w1 y_3 y_4)
def f_X12_owedAll_L4 (fu : Nat) (u_T : S32) (v_T : S64) : Nat → Int32 → Int32 → Int32 → Option (Int32)
  | 0 => fun _ _ _ => none
  | n + 1 => f_X12_owedAll_J4 fu u_T v_T (f_X12_owedAll_L4 fu u_T v_T n)
def f_X12_owedAll (fu : Nat) (u_T : S32) (v_T : S64) (x1 : Int32) : Option (Int32) := f_X12_owedAll_L4 fu u_T v_T fu x1 (0 : Int32) (0 : Int32)
set_option maxHeartbeats 4000000 in
set_option maxRecDepth 100000 in
theorem c_X12_owedAll {l : Launch} {g : GG} {A : Nat → Prop} {X : va_W} {fu : Nat} {a_T : Nat → Nat} {u_T : S32} {v_T : S64} {x1 : Int32} {r : Int32} (hf : f_X12_owedAll fu u_T v_T x1 = some r) : MI l yX12_owedAll cX12_owedAll 4 (some .int) 0 g A (cl_X12 g a_T u_T v_T ++ X) [.ref (a_T 0), .int x1] r (cl_X12 g a_T u_T v_T ++ X) := by
  refine tx_start (av := [.ref (a_T 0), .int x1]) (by decide) (Nat.le_of_ble_eq_true rfl) ?_
  intro p e s m below meth c ls S hr hlk hE hw hl
  have S : CallFix p m c cX12_owedAll 4 s (List.toArray [.ref (a_T 0), .int x1]) (Cond.code yX12_owedAll cX12_owedAll 4 (some .int) :: allW) RX12 := S
  have hx := S.1
  have hb := S.2.1
  have hown := S.2.2.2.1
  have hts : ∀ w ∈ allW, w.before (List.toArray [.ref (a_T 0), .int x1]) s = true := fun w h => S.2.2.2.2 w (List.mem_cons_of_mem _ h)
  have hl : lv_has ls 4 [(0, .ref (a_T 0)), (1, .int x1)] := hl
  have J4 : ∀ {K4 : Int32 → Int32 → Int32 → Option (Int32)} (hK4 : ∀ {w1 : Int32} {w2 : Int32} {w3 : Int32} {H : Heap} {locs : List Loc} {ls : Array Slot}, K4 w1 w2 w3 = some r → WD g A s.heap (cl_X12 g a_T u_T v_T ++ X) H locs → lv_has ls 4 [(0, .ref (a_T 0)), (1, .int w1), (2, .int w2), (3, .int w3)] → W p l e (rmH 0) s m (List.toArray [.ref (a_T 0), .int x1]) below meth c H locs 0 0 (MQ below (va_Qi (fun r2 (_ : Unit) => r2 = r) (fun _ t => POST g A (cl_X12 g a_T u_T v_T ++ X) t) A) (List.toArray [.ref (a_T 0), .int x1]) s 0 0 A) (F0 m 4 ls [])), ∀ {w1 : Int32} {w2 : Int32} {w3 : Int32} {H : Heap} {locs : List Loc} {ls : Array Slot}, f_X12_owedAll_J4 fu u_T v_T K4 w1 w2 w3 = some r → WD g A s.heap (cl_X12 g a_T u_T v_T ++ X) H locs → lv_has ls 4 [(0, .ref (a_T 0)), (1, .int w1), (2, .int w2), (3, .int w3)] → W p l e (rmH 0) s m (List.toArray [.ref (a_T 0), .int x1]) below meth c H locs 0 0 (MQ below (va_Qi (fun r2 (_ : Unit) => r2 = r) (fun _ t => POST g A (cl_X12 g a_T u_T v_T ++ X) t) A) (List.toArray [.ref (a_T 0), .int x1]) s 0 0 A) (F0 m 4 ls []) := by
    intro K4 hK4 w1 w2 w3 H locs ls hf hw hl
    unfold f_X12_owedAll_J4 at hf
    refine lv_iload_n hx hb dX12_owedAll_4 rfl (lv_at hl 3 rfl) ?_
    refine lv_aload_n hx hb dX12_owedAll_5 rfl (lv_at hl 0 rfl) ?_
    refine gf_X12_222 S hE hw 0 rfl rfl dX12_owedAll_6 ?_
    refine lv_icmp_ge (tgt := 32) hx hb dX12_owedAll_9 (by decide) (fun h_1 => ?_) (fun h_1 => ?_)
    · replace hf := tx_pos hf h_1
      refine lv_iload_n hx hb dX12_owedAll_32 rfl (lv_at hl 2 rfl) ?_
      obtain e0 := tx_in1 hf
      rw [← e0]
      exact tx_iret S hr hlk hw dX12_owedAll_33
    · replace hf := tx_neg hf h_1
      refine lv_iload_n hx hb dX12_owedAll_12 rfl (lv_at hl 2 rfl) ?_
      refine lv_aload_n hx hb dX12_owedAll_13 rfl (lv_at hl 0 rfl) ?_
      refine gf_X12_103 S hE hw 0 rfl rfl dX12_owedAll_14 ?_
      refine lv_bipush (v := 6) hx hb dX12_owedAll_17 (by decide) ?_
      refine lv_iload_n hx hb dX12_owedAll_19 rfl (lv_at hl 1 rfl) ?_
      refine lv_imul hx hb dX12_owedAll_20 ?_
      refine lv_iload_n hx hb dX12_owedAll_21 rfl (lv_at hl 3 rfl) ?_
      refine lv_iadd hx hb dX12_owedAll_22 ?_
      obtain ⟨h_2, hf⟩ := tx_ck_e hf
      refine tx_iald S hE hw 30 rfl h_2 dX12_owedAll_23 ?_
      refine lv_iadd hx hb dX12_owedAll_24 ?_
      refine lv_topi (fun y_3 ey_3 => ?_)
      replace hf := tx_let_e hf ey_3
      refine lv_istore_n (lv' := [(2, .int y_3), (0, .ref (a_T 0)), (1, .int w1), (3, .int w3)]) hx hb dX12_owedAll_25 rfl hl (by decide) rfl (fun ls hl => ?_)
      obtain ⟨y_4, ey_4⟩ : ∃ y : Int32, y = w3 + (1 : Int32) := ⟨_, rfl⟩
      replace hf := tx_let_e hf ey_4
      refine lv_iinc (v := y_4) (lv' := [(3, .int y_4), (2, .int y_3), (0, .ref (a_T 0)), (1, .int w1)]) hx hb dX12_owedAll_26 hl (k := 3) rfl (by rw [ey_4]; rfl) (by decide) rfl (fun ls hl => ?_)
      refine lv_goto (tgt := 4) hx hb dX12_owedAll_29 (by decide) ?_
      exact hK4 hf hw (lv_sub hl [2, 3, 1, 0] rfl)
  have L4 : ∀ (n : Nat), ∀ {w1 : Int32} {w2 : Int32} {w3 : Int32} {H : Heap} {locs : List Loc} {ls : Array Slot}, f_X12_owedAll_L4 fu u_T v_T n w1 w2 w3 = some r → WD g A s.heap (cl_X12 g a_T u_T v_T ++ X) H locs → lv_has ls 4 [(0, .ref (a_T 0)), (1, .int w1), (2, .int w2), (3, .int w3)] → W p l e (rmH 0) s m (List.toArray [.ref (a_T 0), .int x1]) below meth c H locs 0 0 (MQ below (va_Qi (fun r2 (_ : Unit) => r2 = r) (fun _ t => POST g A (cl_X12 g a_T u_T v_T ++ X) t) A) (List.toArray [.ref (a_T 0), .int x1]) s 0 0 A) (F0 m 4 ls []) := by
    intro  n
    induction n with
    | zero => intro w1 w2 w3 H locs ls hf; exact absurd hf (by intro q; cases q)
    | succ n ih => exact fun hf hw hl => J4 ih hf hw hl
  unfold f_X12_owedAll at hf
  refine lv_iconst (v := 0) hx hb dX12_owedAll_0 (by decide) ?_
  refine lv_istore_n (lv' := [(2, .int (0 : Int32)), (0, .ref (a_T 0)), (1, .int x1)]) hx hb dX12_owedAll_1 rfl hl (by decide) rfl (fun ls hl => ?_)
  refine lv_iconst (v := 0) hx hb dX12_owedAll_2 (by decide) ?_
  refine lv_istore_n (lv' := [(3, .int (0 : Int32)), (2, .int (0 : Int32)), (0, .ref (a_T 0)), (1, .int x1)]) hx hb dX12_owedAll_3 rfl hl (by decide) rfl (fun ls hl => ?_)
  exact L4 fu hf hw (lv_sub hl [2, 3, 1, 0] rfl)
def f_X12_more (fu : Nat) (u_T : S32) (v_T : S64) : Option (Int32) := tx_b1 (f_X12_paidAll fu u_T v_T (1 : Int32)) fun (r_2 : Int32) => tx_b1 (f_X12_owedAll fu u_T v_T (1 : Int32)) fun (r_4 : Int32) => tx_b1 (f_X12_paidAll fu u_T v_T (0 : Int32)) fun (r_6 : Int32) => tx_b1 (f_X12_owedAll fu u_T v_T (0 : Int32)) fun (r_8 : Int32) => some (((r_2 + r_4) - r_6) - r_8)
set_option maxHeartbeats 4000000 in
set_option maxRecDepth 100000 in
theorem c_X12_more {l : Launch} {g : GG} {A : Nat → Prop} {X : va_W} {fu : Nat} {a_T : Nat → Nat} {u_T : S32} {v_T : S64} {r : Int32} (hf : f_X12_more fu u_T v_T = some r) : MI l yX12_more cX12_more 1 (some .int) 1 g A (cl_X12 g a_T u_T v_T ++ X) [.ref (a_T 0)] r (cl_X12 g a_T u_T v_T ++ X) := by
  refine tx_start (av := [.ref (a_T 0)]) (by decide) (Nat.le_of_ble_eq_true rfl) ?_
  intro p e s m below meth c ls S hr hlk hE hw hl
  have S : CallFix p m c cX12_more 1 s (List.toArray [.ref (a_T 0)]) (Cond.code yX12_more cX12_more 1 (some .int) :: allW) RX12 := S
  have hx := S.1
  have hb := S.2.1
  have hown := S.2.2.2.1
  have hts : ∀ w ∈ allW, w.before (List.toArray [.ref (a_T 0)]) s = true := fun w h => S.2.2.2.2 w (List.mem_cons_of_mem _ h)
  have hl : lv_has ls 1 [(0, .ref (a_T 0))] := hl
  unfold f_X12_more at hf
  refine lv_aload_n hx hb dX12_more_0 rfl (lv_at hl 0 rfl) ?_
  refine lv_iconst (v := 1) hx hb dX12_more_1 (by decide) ?_
  obtain ⟨r_2, h_1, hf⟩ := tx_b1_e hf
  refine tx_ci hw (tx_runV S hE hw (c_X12_paidAll h_1) lk_X12_448 (q0 := 0) rfl rfl rfl hl.1 (rest := []) rfl (Nat.le_of_ble_eq_true rfl) ⟨by decide, by decide⟩ dX12_more_2 ⟨Nat.zero_le _, Nat.zero_le _⟩) (fun H locs hw => ?_)
  refine lv_aload_n hx hb dX12_more_5 rfl (lv_at hl 0 rfl) ?_
  refine lv_iconst (v := 1) hx hb dX12_more_6 (by decide) ?_
  obtain ⟨r_4, h_3, hf⟩ := tx_b1_e hf
  refine tx_ci hw (tx_runV S hE hw (c_X12_owedAll h_3) lk_X12_451 (q0 := 0) rfl rfl rfl hl.1 (rest := [.int r_2]) rfl (Nat.le_of_ble_eq_true rfl) ⟨by decide, by decide⟩ dX12_more_7 ⟨Nat.zero_le _, Nat.zero_le _⟩) (fun H locs hw => ?_)
  refine lv_iadd hx hb dX12_more_10 ?_
  refine lv_aload_n hx hb dX12_more_11 rfl (lv_at hl 0 rfl) ?_
  refine lv_iconst (v := 0) hx hb dX12_more_12 (by decide) ?_
  obtain ⟨r_6, h_5, hf⟩ := tx_b1_e hf
  refine tx_ci hw (tx_runV S hE hw (c_X12_paidAll h_5) lk_X12_448 (q0 := 0) rfl rfl rfl hl.1 (rest := [.int (r_2 + r_4)]) rfl (Nat.le_of_ble_eq_true rfl) ⟨by decide, by decide⟩ dX12_more_13 ⟨Nat.zero_le _, Nat.zero_le _⟩) (fun H locs hw => ?_)
  refine lv_isub hx hb dX12_more_16 ?_
  refine lv_aload_n hx hb dX12_more_17 rfl (lv_at hl 0 rfl) ?_
  refine lv_iconst (v := 0) hx hb dX12_more_18 (by decide) ?_
  obtain ⟨r_8, h_7, hf⟩ := tx_b1_e hf
  refine tx_ci hw (tx_runV S hE hw (c_X12_owedAll h_7) lk_X12_451 (q0 := 0) rfl rfl rfl hl.1 (rest := [.int ((r_2 + r_4) - r_6)]) rfl (Nat.le_of_ble_eq_true rfl) ⟨by decide, by decide⟩ dX12_more_19 ⟨Nat.zero_le _, Nat.zero_le _⟩) (fun H locs hw => ?_)
  refine lv_isub hx hb dX12_more_22 ?_
  obtain e0 := tx_in1 hf
  rw [← e0]
  exact tx_iret S hr hlk hw dX12_more_23
def f_X12_moreOf (fu : Nat) (u_T : S32) (v_T : S64) (x1 : Int32) : Option (Int32) := tx_ck ((6 : Int32) + x1) 12 <| tx_ck ((6 : Int32) + x1) 12 <| tx_ck x1 12 <| tx_ck x1 12 <| some ((((u_T 54 ((6 : Int32) + x1).toNatClampNeg) + (u_T 55 ((6 : Int32) + x1).toNatClampNeg)) - (u_T 54 x1.toNatClampNeg)) - (u_T 55 x1.toNatClampNeg))
set_option maxHeartbeats 4000000 in
set_option maxRecDepth 100000 in
theorem c_X12_moreOf {l : Launch} {g : GG} {A : Nat → Prop} {X : va_W} {fu : Nat} {a_T : Nat → Nat} {u_T : S32} {v_T : S64} {x1 : Int32} {r : Int32} (hf : f_X12_moreOf fu u_T v_T x1 = some r) : MI l yX12_moreOf cX12_moreOf 2 (some .int) 0 g A (cl_X12 g a_T u_T v_T ++ X) [.ref (a_T 0), .int x1] r (cl_X12 g a_T u_T v_T ++ X) := by
  refine tx_start (av := [.ref (a_T 0), .int x1]) (by decide) (Nat.le_of_ble_eq_true rfl) ?_
  intro p e s m below meth c ls S hr hlk hE hw hl
  have S : CallFix p m c cX12_moreOf 2 s (List.toArray [.ref (a_T 0), .int x1]) (Cond.code yX12_moreOf cX12_moreOf 2 (some .int) :: allW) RX12 := S
  have hx := S.1
  have hb := S.2.1
  have hown := S.2.2.2.1
  have hts : ∀ w ∈ allW, w.before (List.toArray [.ref (a_T 0), .int x1]) s = true := fun w h => S.2.2.2.2 w (List.mem_cons_of_mem _ h)
  have hl : lv_has ls 2 [(0, .ref (a_T 0)), (1, .int x1)] := hl
  unfold f_X12_moreOf at hf
  refine lv_aload_n hx hb dX12_moreOf_0 rfl (lv_at hl 0 rfl) ?_
  refine gf_X12_100 S hE hw 0 rfl rfl dX12_moreOf_1 ?_
  refine lv_bipush (v := 6) hx hb dX12_moreOf_4 (by decide) ?_
  refine lv_iload_n hx hb dX12_moreOf_6 rfl (lv_at hl 1 rfl) ?_
  refine lv_iadd hx hb dX12_moreOf_7 ?_
  obtain ⟨h_1, hf⟩ := tx_ck_e hf
  refine tx_iald S hE hw 29 rfl h_1 dX12_moreOf_8 ?_
  refine lv_aload_n hx hb dX12_moreOf_9 rfl (lv_at hl 0 rfl) ?_
  refine gf_X12_103 S hE hw 0 rfl rfl dX12_moreOf_10 ?_
  refine lv_bipush (v := 6) hx hb dX12_moreOf_13 (by decide) ?_
  refine lv_iload_n hx hb dX12_moreOf_15 rfl (lv_at hl 1 rfl) ?_
  refine lv_iadd hx hb dX12_moreOf_16 ?_
  obtain ⟨h_2, hf⟩ := tx_ck_e hf
  refine tx_iald S hE hw 30 rfl h_2 dX12_moreOf_17 ?_
  refine lv_iadd hx hb dX12_moreOf_18 ?_
  refine lv_aload_n hx hb dX12_moreOf_19 rfl (lv_at hl 0 rfl) ?_
  refine gf_X12_100 S hE hw 0 rfl rfl dX12_moreOf_20 ?_
  refine lv_iload_n hx hb dX12_moreOf_23 rfl (lv_at hl 1 rfl) ?_
  obtain ⟨h_3, hf⟩ := tx_ck_e hf
  refine tx_iald S hE hw 29 rfl h_3 dX12_moreOf_24 ?_
  refine lv_isub hx hb dX12_moreOf_25 ?_
  refine lv_aload_n hx hb dX12_moreOf_26 rfl (lv_at hl 0 rfl) ?_
  refine gf_X12_103 S hE hw 0 rfl rfl dX12_moreOf_27 ?_
  refine lv_iload_n hx hb dX12_moreOf_30 rfl (lv_at hl 1 rfl) ?_
  obtain ⟨h_4, hf⟩ := tx_ck_e hf
  refine tx_iald S hE hw 30 rfl h_4 dX12_moreOf_31 ?_
  refine lv_isub hx hb dX12_moreOf_32 ?_
  obtain e0 := tx_in1 hf
  rw [← e0]
  exact tx_iret S hr hlk hw dX12_moreOf_33
def f_X12_fails (fu : Nat) (v_T : S64) (u_T : S32) (x1 : Int32) : Option (Int32 × S32) := tx_let (up2 u_T 0 2 x1) fun (u_T_1 : S32) => some ((0 : Int32), u_T_1)
set_option maxHeartbeats 4000000 in
set_option maxRecDepth 100000 in
theorem c_X12_fails {l : Launch} {g : GG} {A : Nat → Prop} {X : va_W} {fu : Nat} {a_T : Nat → Nat} {u_T : S32} {v_T : S64} {x1 : Int32} {r : Int32} {zu_T : S32} (hf : f_X12_fails fu v_T u_T x1 = some (r, zu_T)) : MI l yX12_fails cX12_fails 2 (some .int) 0 g A (cl_X12 g a_T u_T v_T ++ X) [.ref (a_T 0), .int x1] r (cl_X12 g a_T zu_T v_T ++ X) := by
  refine tx_start (av := [.ref (a_T 0), .int x1]) (by decide) (Nat.le_of_ble_eq_true rfl) ?_
  intro p e s m below meth c ls S hr hlk hE hw hl
  have S : CallFix p m c cX12_fails 2 s (List.toArray [.ref (a_T 0), .int x1]) (Cond.code yX12_fails cX12_fails 2 (some .int) :: allW) RX12 := S
  have hx := S.1
  have hb := S.2.1
  have hown := S.2.2.2.1
  have hts : ∀ w ∈ allW, w.before (List.toArray [.ref (a_T 0), .int x1]) s = true := fun w h => S.2.2.2.2 w (List.mem_cons_of_mem _ h)
  have hl : lv_has ls 2 [(0, .ref (a_T 0)), (1, .int x1)] := hl
  unfold f_X12_fails at hf
  refine lv_aload_n hx hb dX12_fails_0 rfl (lv_at hl 0 rfl) ?_
  refine lv_iload_n hx hb dX12_fails_1 rfl (lv_at hl 1 rfl) ?_
  obtain ⟨u_T_1, eu_T_1⟩ : ∃ z : S32, z = up2 u_T 0 2 x1 := ⟨_, rfl⟩
  replace hf := tx_let_e hf eu_T_1
  refine pf_X12_145 (ws' := cl_X12 g a_T u_T_1 v_T ++ X) S hE hw rfl rfl 0 rfl (Nat.le_of_ble_eq_true rfl) (by rw [eu_T_1]; rfl) dX12_fails_2 (fun H locs hw => ?_)
  refine lv_iconst (v := 0) hx hb dX12_fails_5 (by decide) ?_
  obtain ⟨e0, e1⟩ := tx_in2 hf
  rw [← e0, ← e1]
  exact tx_iret S hr hlk hw dX12_fails_6
def f_X12_thought (fu : Nat) (v_T : S64) (u_T : S32) (x1 : Int32) (x2 : Int32) : Option (Int32 × S32) := tx_let (up2 u_T 0 2 (0 : Int32)) fun (u_T_1 : S32) => tx_b1 (f_X12_isThought fu u_T_1 v_T x1) fun (r_3 : Int32) => if r_3 = (0 : Int32) then (tx_b2 (f_X12_fails fu v_T u_T_1 (1 : Int32)) fun (r_24 : Int32) (u_T_25 : S32) => some (r_24, u_T_25)) else (if x2 = (0 : Int32) then (tx_ck x1 24 <| some (u_T_1 26 x1.toNatClampNeg, u_T_1)) else if x2 = (1 : Int32) then (tx_ck x1 24 <| some (u_T_1 27 x1.toNatClampNeg, u_T_1)) else if x2 = (2 : Int32) then (tx_ck x1 24 <| some (u_T_1 28 x1.toNatClampNeg, u_T_1)) else if x2 = (3 : Int32) then (tx_ck x1 24 <| some (u_T_1 29 x1.toNatClampNeg, u_T_1)) else if x2 = (4 : Int32) then (tx_ck x1 24 <| some (u_T_1 50 x1.toNatClampNeg, u_T_1)) else if x2 = (5 : Int32) then (tx_ck x1 24 <| some (u_T_1 51 x1.toNatClampNeg, u_T_1)) else if x2 = (6 : Int32) then (tx_ck x1 24 <| if (u_T_1 52 x1.toNatClampNeg) = (0 : Int32) then (some ((0 : Int32), u_T_1)) else (some ((1 : Int32), u_T_1))) else (tx_b2 (f_X12_fails fu v_T u_T_1 (2 : Int32)) fun (r_21 : Int32) (u_T_22 : S32) => some (r_21, u_T_22)))
set_option maxHeartbeats 4000000 in
set_option maxRecDepth 100000 in
theorem c_X12_thought {l : Launch} {g : GG} {A : Nat → Prop} {X : va_W} {fu : Nat} {a_T : Nat → Nat} {u_T : S32} {v_T : S64} {x1 : Int32} {x2 : Int32} {r : Int32} {zu_T : S32} (hf : f_X12_thought fu v_T u_T x1 x2 = some (r, zu_T)) : MI l yX12_thought cX12_thought 3 (some .int) 1 g A (cl_X12 g a_T u_T v_T ++ X) [.ref (a_T 0), .int x1, .int x2] r (cl_X12 g a_T zu_T v_T ++ X) := by
  refine tx_start (av := [.ref (a_T 0), .int x1, .int x2]) (by decide) (Nat.le_of_ble_eq_true rfl) ?_
  intro p e s m below meth c ls S hr hlk hE hw hl
  have S : CallFix p m c cX12_thought 3 s (List.toArray [.ref (a_T 0), .int x1, .int x2]) (Cond.code yX12_thought cX12_thought 3 (some .int) :: allW) RX12 := S
  have hx := S.1
  have hb := S.2.1
  have hown := S.2.2.2.1
  have hts : ∀ w ∈ allW, w.before (List.toArray [.ref (a_T 0), .int x1, .int x2]) s = true := fun w h => S.2.2.2.2 w (List.mem_cons_of_mem _ h)
  have hl : lv_has ls 3 [(0, .ref (a_T 0)), (1, .int x1), (2, .int x2)] := hl
  unfold f_X12_thought at hf
  refine lv_aload_n hx hb dX12_thought_0 rfl (lv_at hl 0 rfl) ?_
  refine lv_iconst (v := 0) hx hb dX12_thought_1 (by decide) ?_
  obtain ⟨u_T_1, eu_T_1⟩ : ∃ z : S32, z = up2 u_T 0 2 (0 : Int32) := ⟨_, rfl⟩
  replace hf := tx_let_e hf eu_T_1
  refine pf_X12_145 (ws' := cl_X12 g a_T u_T_1 v_T ++ X) S hE hw rfl rfl 0 rfl (Nat.le_of_ble_eq_true rfl) (by rw [eu_T_1]; rfl) dX12_thought_2 (fun H locs hw => ?_)
  refine lv_aload_n hx hb dX12_thought_5 rfl (lv_at hl 0 rfl) ?_
  refine lv_iload_n hx hb dX12_thought_6 rfl (lv_at hl 1 rfl) ?_
  obtain ⟨r_3, h_2, hf⟩ := tx_b1_e hf
  refine tx_ci hw (tx_runV S hE hw (c_X12_isThought h_2) lk_X12_454 (q0 := 0) rfl rfl rfl hl.1 (rest := []) rfl (Nat.le_of_ble_eq_true rfl) ⟨by decide, by decide⟩ dX12_thought_7 ⟨Nat.zero_le _, Nat.zero_le _⟩) (fun H locs hw => ?_)
  refine lv_if_ne (tgt := 19) hx hb dX12_thought_10 (by decide) (fun h_4 => ?_) (fun h_4 => ?_)
  · replace hf := tx_neg hf h_4
    refine lv_iload_n hx hb dX12_thought_19 rfl (lv_at hl 2 rfl) ?_
    by_cases h_5 : x2 = (0 : Int32)
    · replace hf := tx_pos hf h_5
      refine lv_tableIn (off := 44) (tgt := 64) hx hb dX12_thought_20 (by rw [h_5]; decide) (by rw [h_5]; decide) (by rw [h_5]; rfl) (by decide) ?_
      refine lv_aload_n hx hb dX12_thought_64 rfl (lv_at hl 0 rfl) ?_
      refine gf_X12_36 S hE hw 0 rfl rfl dX12_thought_65 ?_
      refine lv_iload_n hx hb dX12_thought_68 rfl (lv_at hl 1 rfl) ?_
      obtain ⟨h_6, hf⟩ := tx_ck_e hf
      refine tx_iald S hE hw 8 rfl h_6 dX12_thought_69 ?_
      obtain ⟨e0, e1⟩ := tx_in2 hf
      rw [← e0, ← e1]
      exact tx_iret S hr hlk hw dX12_thought_70
    replace hf := tx_neg hf h_5
    by_cases h_7 : x2 = (1 : Int32)
    · replace hf := tx_pos hf h_7
      refine lv_tableIn (off := 51) (tgt := 71) hx hb dX12_thought_20 (by rw [h_7]; decide) (by rw [h_7]; decide) (by rw [h_7]; rfl) (by decide) ?_
      refine lv_aload_n hx hb dX12_thought_71 rfl (lv_at hl 0 rfl) ?_
      refine gf_X12_39 S hE hw 0 rfl rfl dX12_thought_72 ?_
      refine lv_iload_n hx hb dX12_thought_75 rfl (lv_at hl 1 rfl) ?_
      obtain ⟨h_8, hf⟩ := tx_ck_e hf
      refine tx_iald S hE hw 9 rfl h_8 dX12_thought_76 ?_
      obtain ⟨e0, e1⟩ := tx_in2 hf
      rw [← e0, ← e1]
      exact tx_iret S hr hlk hw dX12_thought_77
    replace hf := tx_neg hf h_7
    by_cases h_9 : x2 = (2 : Int32)
    · replace hf := tx_pos hf h_9
      refine lv_tableIn (off := 58) (tgt := 78) hx hb dX12_thought_20 (by rw [h_9]; decide) (by rw [h_9]; decide) (by rw [h_9]; rfl) (by decide) ?_
      refine lv_aload_n hx hb dX12_thought_78 rfl (lv_at hl 0 rfl) ?_
      refine gf_X12_42 S hE hw 0 rfl rfl dX12_thought_79 ?_
      refine lv_iload_n hx hb dX12_thought_82 rfl (lv_at hl 1 rfl) ?_
      obtain ⟨h_10, hf⟩ := tx_ck_e hf
      refine tx_iald S hE hw 10 rfl h_10 dX12_thought_83 ?_
      obtain ⟨e0, e1⟩ := tx_in2 hf
      rw [← e0, ← e1]
      exact tx_iret S hr hlk hw dX12_thought_84
    replace hf := tx_neg hf h_9
    by_cases h_11 : x2 = (3 : Int32)
    · replace hf := tx_pos hf h_11
      refine lv_tableIn (off := 65) (tgt := 85) hx hb dX12_thought_20 (by rw [h_11]; decide) (by rw [h_11]; decide) (by rw [h_11]; rfl) (by decide) ?_
      refine lv_aload_n hx hb dX12_thought_85 rfl (lv_at hl 0 rfl) ?_
      refine gf_X12_45 S hE hw 0 rfl rfl dX12_thought_86 ?_
      refine lv_iload_n hx hb dX12_thought_89 rfl (lv_at hl 1 rfl) ?_
      obtain ⟨h_12, hf⟩ := tx_ck_e hf
      refine tx_iald S hE hw 11 rfl h_12 dX12_thought_90 ?_
      obtain ⟨e0, e1⟩ := tx_in2 hf
      rw [← e0, ← e1]
      exact tx_iret S hr hlk hw dX12_thought_91
    replace hf := tx_neg hf h_11
    by_cases h_13 : x2 = (4 : Int32)
    · replace hf := tx_pos hf h_13
      refine lv_tableIn (off := 72) (tgt := 92) hx hb dX12_thought_20 (by rw [h_13]; decide) (by rw [h_13]; decide) (by rw [h_13]; rfl) (by decide) ?_
      refine lv_aload_n hx hb dX12_thought_92 rfl (lv_at hl 0 rfl) ?_
      refine gf_X12_88 S hE hw 0 rfl rfl dX12_thought_93 ?_
      refine lv_iload_n hx hb dX12_thought_96 rfl (lv_at hl 1 rfl) ?_
      obtain ⟨h_14, hf⟩ := tx_ck_e hf
      refine tx_iald S hE hw 25 rfl h_14 dX12_thought_97 ?_
      obtain ⟨e0, e1⟩ := tx_in2 hf
      rw [← e0, ← e1]
      exact tx_iret S hr hlk hw dX12_thought_98
    replace hf := tx_neg hf h_13
    by_cases h_15 : x2 = (5 : Int32)
    · replace hf := tx_pos hf h_15
      refine lv_tableIn (off := 79) (tgt := 99) hx hb dX12_thought_20 (by rw [h_15]; decide) (by rw [h_15]; decide) (by rw [h_15]; rfl) (by decide) ?_
      refine lv_aload_n hx hb dX12_thought_99 rfl (lv_at hl 0 rfl) ?_
      refine gf_X12_91 S hE hw 0 rfl rfl dX12_thought_100 ?_
      refine lv_iload_n hx hb dX12_thought_103 rfl (lv_at hl 1 rfl) ?_
      obtain ⟨h_16, hf⟩ := tx_ck_e hf
      refine tx_iald S hE hw 26 rfl h_16 dX12_thought_104 ?_
      obtain ⟨e0, e1⟩ := tx_in2 hf
      rw [← e0, ← e1]
      exact tx_iret S hr hlk hw dX12_thought_105
    replace hf := tx_neg hf h_15
    by_cases h_17 : x2 = (6 : Int32)
    · replace hf := tx_pos hf h_17
      refine lv_tableIn (off := 86) (tgt := 106) hx hb dX12_thought_20 (by rw [h_17]; decide) (by rw [h_17]; decide) (by rw [h_17]; rfl) (by decide) ?_
      refine lv_aload_n hx hb dX12_thought_106 rfl (lv_at hl 0 rfl) ?_
      refine gf_X12_94 S hE hw 0 rfl rfl dX12_thought_107 ?_
      refine lv_iload_n hx hb dX12_thought_110 rfl (lv_at hl 1 rfl) ?_
      obtain ⟨h_18, hf⟩ := tx_ck_e hf
      refine tx_zald S hE hw 27 rfl h_18 dX12_thought_111 ?_
      refine lv_if_eq (tgt := 119) hx hb dX12_thought_112 (by decide) (fun h_19 => ?_) (fun h_19 => ?_)
      · replace hf := tx_pos hf h_19
        refine lv_iconst (v := 0) hx hb dX12_thought_119 (by decide) ?_
        obtain ⟨e0, e1⟩ := tx_in2 hf
        rw [← e0, ← e1]
        exact tx_iret S hr hlk hw dX12_thought_120
      · replace hf := tx_neg hf h_19
        refine lv_iconst (v := 1) hx hb dX12_thought_115 (by decide) ?_
        refine lv_goto (tgt := 120) hx hb dX12_thought_116 (by decide) ?_
        obtain ⟨e0, e1⟩ := tx_in2 hf
        rw [← e0, ← e1]
        exact tx_iret S hr hlk hw dX12_thought_120
    replace hf := tx_neg hf h_17
    have eh_5 : x2.toInt ≠ 0 := tx_ne h_5
    have eh_7 : x2.toInt ≠ 1 := tx_ne h_7
    have eh_9 : x2.toInt ≠ 2 := tx_ne h_9
    have eh_11 : x2.toInt ≠ 3 := tx_ne h_11
    have eh_13 : x2.toInt ≠ 4 := tx_ne h_13
    have eh_15 : x2.toInt ≠ 5 := tx_ne h_15
    have eh_17 : x2.toInt ≠ 6 := tx_ne h_17
    refine lv_tableOut (tgt := 121) hx hb dX12_thought_20 (by omega) (by decide) ?_
    refine lv_aload_n hx hb dX12_thought_121 rfl (lv_at hl 0 rfl) ?_
    refine lv_iconst (v := 2) hx hb dX12_thought_122 (by decide) ?_
    obtain ⟨r_21, u_T_22, h_20, hf⟩ := tx_b2_e hf
    refine tx_ci hw (tx_runV S hE hw (c_X12_fails h_20) lk_X12_457 (q0 := 0) rfl rfl rfl hl.1 (rest := []) rfl (Nat.le_of_ble_eq_true rfl) ⟨by decide, by decide⟩ dX12_thought_123 ⟨Nat.zero_le _, Nat.zero_le _⟩) (fun H locs hw => ?_)
    obtain ⟨e0, e1⟩ := tx_in2 hf
    rw [← e0, ← e1]
    exact tx_iret S hr hlk hw dX12_thought_126
  · replace hf := tx_pos hf h_4
    refine lv_aload_n hx hb dX12_thought_13 rfl (lv_at hl 0 rfl) ?_
    refine lv_iconst (v := 1) hx hb dX12_thought_14 (by decide) ?_
    obtain ⟨r_24, u_T_25, h_23, hf⟩ := tx_b2_e hf
    refine tx_ci hw (tx_runV S hE hw (c_X12_fails h_23) lk_X12_457 (q0 := 0) rfl rfl rfl hl.1 (rest := []) rfl (Nat.le_of_ble_eq_true rfl) ⟨by decide, by decide⟩ dX12_thought_15 ⟨Nat.zero_le _, Nat.zero_le _⟩) (fun H locs hw => ?_)
    obtain ⟨e0, e1⟩ := tx_in2 hf
    rw [← e0, ← e1]
    exact tx_iret S hr hlk hw dX12_thought_18
