def f_X12_man (fu : Nat) (v_T : S64) (u_T : S32) (x1 : Int32) (x2 : Int32) : Option (Int32 × S32) := tx_let (up2 u_T 0 2 (0 : Int32)) fun (u_T_1 : S32) => tx_b1 (f_X12_isMan fu u_T_1 v_T x1) fun (r_3 : Int32) => if r_3 = (0 : Int32) then (some ((-1 : Int32), u_T_1)) else (if x2 = (0 : Int32) then (tx_ck x1 12 <| some (u_T_1 53 x1.toNatClampNeg, u_T_1)) else if x2 = (1 : Int32) then (tx_ck x1 12 <| some (u_T_1 25 x1.toNatClampNeg, u_T_1)) else if x2 = (2 : Int32) then (tx_ck x1 12 <| some (u_T_1 54 x1.toNatClampNeg, u_T_1)) else if x2 = (3 : Int32) then (tx_ck x1 12 <| some (u_T_1 55 x1.toNatClampNeg, u_T_1)) else if x2 = (4 : Int32) then (tx_ck x1 12 <| some (u_T_1 56 x1.toNatClampNeg, u_T_1)) else if x2 = (5 : Int32) then (tx_ck x1 12 <| some (u_T_1 57 x1.toNatClampNeg, u_T_1)) else (some ((-1 : Int32), u_T_1)))
set_option maxHeartbeats 4000000 in
set_option maxRecDepth 100000 in
theorem c_X12_man {l : Launch} {g : GG} {A : Nat → Prop} {X : va_W} {fu : Nat} {a_T : Nat → Nat} {u_T : S32} {v_T : S64} {x1 : Int32} {x2 : Int32} {r : Int32} {zu_T : S32} (hf : f_X12_man fu v_T u_T x1 x2 = some (r, zu_T)) : MI l yX12_man cX12_man 3 (some .int) 1 g A (cl_X12 g a_T u_T v_T ++ X) [.ref (a_T 0), .int x1, .int x2] r (cl_X12 g a_T zu_T v_T ++ X) := by
  refine tx_start (av := [.ref (a_T 0), .int x1, .int x2]) (by decide) (Nat.le_of_ble_eq_true rfl) ?_
  intro p e s m below meth c ls S hr hlk hE hw hl
  have S : CallFix p m c cX12_man 3 s (List.toArray [.ref (a_T 0), .int x1, .int x2]) (Cond.code yX12_man cX12_man 3 (some .int) :: allW) RX12 := S
  have hx := S.1
  have hb := S.2.1
  have hown := S.2.2.2.1
  have hts : ∀ w ∈ allW, w.before (List.toArray [.ref (a_T 0), .int x1, .int x2]) s = true := fun w h => S.2.2.2.2 w (List.mem_cons_of_mem _ h)
  have hl : lv_has ls 3 [(0, .ref (a_T 0)), (1, .int x1), (2, .int x2)] := hl
  unfold f_X12_man at hf
  refine lv_aload_n hx hb dX12_man_0 rfl (lv_at hl 0 rfl) ?_
  refine lv_iconst (v := 0) hx hb dX12_man_1 (by decide) ?_
  obtain ⟨u_T_1, eu_T_1⟩ : ∃ z : S32, z = up2 u_T 0 2 (0 : Int32) := ⟨_, rfl⟩
  replace hf := tx_let_e hf eu_T_1
  refine pf_X12_145 (ws' := cl_X12 g a_T u_T_1 v_T ++ X) S hE hw rfl rfl 0 rfl (Nat.le_of_ble_eq_true rfl) (by rw [eu_T_1]; rfl) dX12_man_2 (fun H locs hw => ?_)
  refine lv_aload_n hx hb dX12_man_5 rfl (lv_at hl 0 rfl) ?_
  refine lv_iload_n hx hb dX12_man_6 rfl (lv_at hl 1 rfl) ?_
  obtain ⟨r_3, h_2, hf⟩ := tx_b1_e hf
  refine tx_ci hw (tx_runV S hE hw (c_X12_isMan h_2) lk_X12_460 (q0 := 0) rfl rfl rfl hl.1 (rest := []) rfl (Nat.le_of_ble_eq_true rfl) ⟨by decide, by decide⟩ dX12_man_7 ⟨Nat.zero_le _, Nat.zero_le _⟩) (fun H locs hw => ?_)
  refine lv_if_ne (tgt := 15) hx hb dX12_man_10 (by decide) (fun h_4 => ?_) (fun h_4 => ?_)
  · replace hf := tx_neg hf h_4
    refine lv_iload_n hx hb dX12_man_15 rfl (lv_at hl 2 rfl) ?_
    by_cases h_5 : x2 = (0 : Int32)
    · replace hf := tx_pos hf h_5
      refine lv_tableIn (off := 40) (tgt := 56) hx hb dX12_man_16 (by rw [h_5]; decide) (by rw [h_5]; decide) (by rw [h_5]; rfl) (by decide) ?_
      refine lv_aload_n hx hb dX12_man_56 rfl (lv_at hl 0 rfl) ?_
      refine gf_X12_97 S hE hw 0 rfl rfl dX12_man_57 ?_
      refine lv_iload_n hx hb dX12_man_60 rfl (lv_at hl 1 rfl) ?_
      obtain ⟨h_6, hf⟩ := tx_ck_e hf
      refine tx_iald S hE hw 28 rfl h_6 dX12_man_61 ?_
      obtain ⟨e0, e1⟩ := tx_in2 hf
      rw [← e0, ← e1]
      exact tx_iret S hr hlk hw dX12_man_62
    replace hf := tx_neg hf h_5
    by_cases h_7 : x2 = (1 : Int32)
    · replace hf := tx_pos hf h_7
      refine lv_tableIn (off := 47) (tgt := 63) hx hb dX12_man_16 (by rw [h_7]; decide) (by rw [h_7]; decide) (by rw [h_7]; rfl) (by decide) ?_
      refine lv_aload_n hx hb dX12_man_63 rfl (lv_at hl 0 rfl) ?_
      refine gf_X12_33 S hE hw 0 rfl rfl dX12_man_64 ?_
      refine lv_iload_n hx hb dX12_man_67 rfl (lv_at hl 1 rfl) ?_
      obtain ⟨h_8, hf⟩ := tx_ck_e hf
      refine tx_iald S hE hw 7 rfl h_8 dX12_man_68 ?_
      obtain ⟨e0, e1⟩ := tx_in2 hf
      rw [← e0, ← e1]
      exact tx_iret S hr hlk hw dX12_man_69
    replace hf := tx_neg hf h_7
    by_cases h_9 : x2 = (2 : Int32)
    · replace hf := tx_pos hf h_9
      refine lv_tableIn (off := 54) (tgt := 70) hx hb dX12_man_16 (by rw [h_9]; decide) (by rw [h_9]; decide) (by rw [h_9]; rfl) (by decide) ?_
      refine lv_aload_n hx hb dX12_man_70 rfl (lv_at hl 0 rfl) ?_
      refine gf_X12_100 S hE hw 0 rfl rfl dX12_man_71 ?_
      refine lv_iload_n hx hb dX12_man_74 rfl (lv_at hl 1 rfl) ?_
      obtain ⟨h_10, hf⟩ := tx_ck_e hf
      refine tx_iald S hE hw 29 rfl h_10 dX12_man_75 ?_
      obtain ⟨e0, e1⟩ := tx_in2 hf
      rw [← e0, ← e1]
      exact tx_iret S hr hlk hw dX12_man_76
    replace hf := tx_neg hf h_9
    by_cases h_11 : x2 = (3 : Int32)
    · replace hf := tx_pos hf h_11
      refine lv_tableIn (off := 61) (tgt := 77) hx hb dX12_man_16 (by rw [h_11]; decide) (by rw [h_11]; decide) (by rw [h_11]; rfl) (by decide) ?_
      refine lv_aload_n hx hb dX12_man_77 rfl (lv_at hl 0 rfl) ?_
      refine gf_X12_103 S hE hw 0 rfl rfl dX12_man_78 ?_
      refine lv_iload_n hx hb dX12_man_81 rfl (lv_at hl 1 rfl) ?_
      obtain ⟨h_12, hf⟩ := tx_ck_e hf
      refine tx_iald S hE hw 30 rfl h_12 dX12_man_82 ?_
      obtain ⟨e0, e1⟩ := tx_in2 hf
      rw [← e0, ← e1]
      exact tx_iret S hr hlk hw dX12_man_83
    replace hf := tx_neg hf h_11
    by_cases h_13 : x2 = (4 : Int32)
    · replace hf := tx_pos hf h_13
      refine lv_tableIn (off := 68) (tgt := 84) hx hb dX12_man_16 (by rw [h_13]; decide) (by rw [h_13]; decide) (by rw [h_13]; rfl) (by decide) ?_
      refine lv_aload_n hx hb dX12_man_84 rfl (lv_at hl 0 rfl) ?_
      refine gf_X12_106 S hE hw 0 rfl rfl dX12_man_85 ?_
      refine lv_iload_n hx hb dX12_man_88 rfl (lv_at hl 1 rfl) ?_
      obtain ⟨h_14, hf⟩ := tx_ck_e hf
      refine tx_iald S hE hw 31 rfl h_14 dX12_man_89 ?_
      obtain ⟨e0, e1⟩ := tx_in2 hf
      rw [← e0, ← e1]
      exact tx_iret S hr hlk hw dX12_man_90
    replace hf := tx_neg hf h_13
    by_cases h_15 : x2 = (5 : Int32)
    · replace hf := tx_pos hf h_15
      refine lv_tableIn (off := 75) (tgt := 91) hx hb dX12_man_16 (by rw [h_15]; decide) (by rw [h_15]; decide) (by rw [h_15]; rfl) (by decide) ?_
      refine lv_aload_n hx hb dX12_man_91 rfl (lv_at hl 0 rfl) ?_
      refine gf_X12_109 S hE hw 0 rfl rfl dX12_man_92 ?_
      refine lv_iload_n hx hb dX12_man_95 rfl (lv_at hl 1 rfl) ?_
      obtain ⟨h_16, hf⟩ := tx_ck_e hf
      refine tx_iald S hE hw 32 rfl h_16 dX12_man_96 ?_
      obtain ⟨e0, e1⟩ := tx_in2 hf
      rw [← e0, ← e1]
      exact tx_iret S hr hlk hw dX12_man_97
    replace hf := tx_neg hf h_15
    have eh_5 : x2.toInt ≠ 0 := tx_ne h_5
    have eh_7 : x2.toInt ≠ 1 := tx_ne h_7
    have eh_9 : x2.toInt ≠ 2 := tx_ne h_9
    have eh_11 : x2.toInt ≠ 3 := tx_ne h_11
    have eh_13 : x2.toInt ≠ 4 := tx_ne h_13
    have eh_15 : x2.toInt ≠ 5 := tx_ne h_15
    refine lv_tableOut (tgt := 98) hx hb dX12_man_16 (by omega) (by decide) ?_
    refine lv_iconst (v := -1) hx hb dX12_man_98 (by decide) ?_
    obtain ⟨e0, e1⟩ := tx_in2 hf
    rw [← e0, ← e1]
    exact tx_iret S hr hlk hw dX12_man_99
  · replace hf := tx_pos hf h_4
    refine lv_iconst (v := -1) hx hb dX12_man_13 (by decide) ?_
    obtain ⟨e0, e1⟩ := tx_in2 hf
    rw [← e0, ← e1]
    exact tx_iret S hr hlk hw dX12_man_14
def f_X12_reader (fu : Nat) (v_T : S64) (u_T : S32) (x1 : Int32) (x2 : Int32) : Option (Int32 × S32) := tx_let (up2 u_T 0 2 (0 : Int32)) fun (u_T_1 : S32) => tx_b1 (f_X12_isReader fu u_T_1 v_T x1) fun (r_3 : Int32) => if r_3 = (0 : Int32) then (some ((-1 : Int32), u_T_1)) else (if x2 = (0 : Int32) then (tx_ck x1 8 <| some (u_T_1 31 x1.toNatClampNeg, u_T_1)) else (if x2 = (1 : Int32) then (tx_ck x1 8 <| some (u_T_1 32 x1.toNatClampNeg, u_T_1)) else (some ((-1 : Int32), u_T_1))))
set_option maxHeartbeats 4000000 in
set_option maxRecDepth 100000 in
theorem c_X12_reader {l : Launch} {g : GG} {A : Nat → Prop} {X : va_W} {fu : Nat} {a_T : Nat → Nat} {u_T : S32} {v_T : S64} {x1 : Int32} {x2 : Int32} {r : Int32} {zu_T : S32} (hf : f_X12_reader fu v_T u_T x1 x2 = some (r, zu_T)) : MI l yX12_reader cX12_reader 3 (some .int) 1 g A (cl_X12 g a_T u_T v_T ++ X) [.ref (a_T 0), .int x1, .int x2] r (cl_X12 g a_T zu_T v_T ++ X) := by
  refine tx_start (av := [.ref (a_T 0), .int x1, .int x2]) (by decide) (Nat.le_of_ble_eq_true rfl) ?_
  intro p e s m below meth c ls S hr hlk hE hw hl
  have S : CallFix p m c cX12_reader 3 s (List.toArray [.ref (a_T 0), .int x1, .int x2]) (Cond.code yX12_reader cX12_reader 3 (some .int) :: allW) RX12 := S
  have hx := S.1
  have hb := S.2.1
  have hown := S.2.2.2.1
  have hts : ∀ w ∈ allW, w.before (List.toArray [.ref (a_T 0), .int x1, .int x2]) s = true := fun w h => S.2.2.2.2 w (List.mem_cons_of_mem _ h)
  have hl : lv_has ls 3 [(0, .ref (a_T 0)), (1, .int x1), (2, .int x2)] := hl
  unfold f_X12_reader at hf
  refine lv_aload_n hx hb dX12_reader_0 rfl (lv_at hl 0 rfl) ?_
  refine lv_iconst (v := 0) hx hb dX12_reader_1 (by decide) ?_
  obtain ⟨u_T_1, eu_T_1⟩ : ∃ z : S32, z = up2 u_T 0 2 (0 : Int32) := ⟨_, rfl⟩
  replace hf := tx_let_e hf eu_T_1
  refine pf_X12_145 (ws' := cl_X12 g a_T u_T_1 v_T ++ X) S hE hw rfl rfl 0 rfl (Nat.le_of_ble_eq_true rfl) (by rw [eu_T_1]; rfl) dX12_reader_2 (fun H locs hw => ?_)
  refine lv_aload_n hx hb dX12_reader_5 rfl (lv_at hl 0 rfl) ?_
  refine lv_iload_n hx hb dX12_reader_6 rfl (lv_at hl 1 rfl) ?_
  obtain ⟨r_3, h_2, hf⟩ := tx_b1_e hf
  refine tx_ci hw (tx_runV S hE hw (c_X12_isReader h_2) lk_X12_463 (q0 := 0) rfl rfl rfl hl.1 (rest := []) rfl (Nat.le_of_ble_eq_true rfl) ⟨by decide, by decide⟩ dX12_reader_7 ⟨Nat.zero_le _, Nat.zero_le _⟩) (fun H locs hw => ?_)
  refine lv_if_ne (tgt := 15) hx hb dX12_reader_10 (by decide) (fun h_4 => ?_) (fun h_4 => ?_)
  · replace hf := tx_neg hf h_4
    refine lv_iload_n hx hb dX12_reader_15 rfl (lv_at hl 2 rfl) ?_
    refine lv_if_ne (tgt := 28) hx hb dX12_reader_16 (by decide) (fun h_5 => ?_) (fun h_5 => ?_)
    · replace hf := tx_neg hf h_5
      refine lv_iload_n hx hb dX12_reader_28 rfl (lv_at hl 2 rfl) ?_
      refine lv_iconst (v := 1) hx hb dX12_reader_29 (by decide) ?_
      refine lv_icmp_ne (tgt := 42) hx hb dX12_reader_30 (by decide) (fun h_6 => ?_) (fun h_6 => ?_)
      · replace hf := tx_neg hf h_6
        refine lv_iconst (v := -1) hx hb dX12_reader_42 (by decide) ?_
        obtain ⟨e0, e1⟩ := tx_in2 hf
        rw [← e0, ← e1]
        exact tx_iret S hr hlk hw dX12_reader_43
      · replace hf := tx_pos hf h_6
        refine lv_aload_n hx hb dX12_reader_33 rfl (lv_at hl 0 rfl) ?_
        refine gf_X12_54 S hE hw 0 rfl rfl dX12_reader_34 ?_
        refine lv_iload_n hx hb dX12_reader_37 rfl (lv_at hl 1 rfl) ?_
        obtain ⟨h_7, hf⟩ := tx_ck_e hf
        refine tx_iald S hE hw 14 rfl h_7 dX12_reader_38 ?_
        refine lv_goto (tgt := 43) hx hb dX12_reader_39 (by decide) ?_
        obtain ⟨e0, e1⟩ := tx_in2 hf
        rw [← e0, ← e1]
        exact tx_iret S hr hlk hw dX12_reader_43
    · replace hf := tx_pos hf h_5
      refine lv_aload_n hx hb dX12_reader_19 rfl (lv_at hl 0 rfl) ?_
      refine gf_X12_51 S hE hw 0 rfl rfl dX12_reader_20 ?_
      refine lv_iload_n hx hb dX12_reader_23 rfl (lv_at hl 1 rfl) ?_
      obtain ⟨h_8, hf⟩ := tx_ck_e hf
      refine tx_iald S hE hw 13 rfl h_8 dX12_reader_24 ?_
      refine lv_goto (tgt := 43) hx hb dX12_reader_25 (by decide) ?_
      obtain ⟨e0, e1⟩ := tx_in2 hf
      rw [← e0, ← e1]
      exact tx_iret S hr hlk hw dX12_reader_43
  · replace hf := tx_pos hf h_4
    refine lv_iconst (v := -1) hx hb dX12_reader_13 (by decide) ?_
    obtain ⟨e0, e1⟩ := tx_in2 hf
    rw [← e0, ← e1]
    exact tx_iret S hr hlk hw dX12_reader_14
def f_X12_bestHeld_J52 (fu : Nat) (u_T : S32) (v_T : S64) (K4 : Int32 → Int32 → Int32 → Option (Int32)) (w1 : Int32) (w3 : Int32) (t0 : Int32) : Option (Int32) := tx_let (w3 + (1 : Int32)) fun (y_9 : Int32) => K4 w1 t0 y_9
def f_X12_bestHeld_J51 (fu : Nat) (u_T : S32) (v_T : S64) (K4 : Int32 → Int32 → Int32 → Option (Int32)) (w1 : Int32) (w2 : Int32) (w3 : Int32) : Option (Int32) := f_X12_bestHeld_J52 fu u_T v_T K4 w1 w3 w2
def f_X12_bestHeld_J4 (fu : Nat) (u_T : S32) (v_T : S64) (K4 : Int32 → Int32 → Int32 → Option (Int32)) (w1 : Int32) (w2 : Int32) (w3 : Int32) : Option (Int32) := if (u_T 0 13) ≤ w3 then (some w2) else (tx_ck w3 24 <| if (u_T 50 w3.toNatClampNeg) = (1 : Int32) then (tx_ck w3 24 <| if (u_T 51 w3.toNatClampNeg) = w1 then (tx_ck w3 24 <| if (u_T 27 w3.toNatClampNeg) ≤ w2 then (f_X12_bestHeld_J51 fu u_T v_T K4 w1 w2 w3) else (tx_ck w3 24 <| f_X12_bestHeld_J52 fu u_T v_T K4 w1 w3 (u_T 27 w3.toNatClampNeg))) else (f_X12_bestHeld_J51 fu u_T v_T K4 w1 w2 w3)) else (f_X12_bestHeld_J51 fu u_T v_T K4 w1 w2 w3))
def f_X12_bestHeld_L4 (fu : Nat) (u_T : S32) (v_T : S64) : Nat → Int32 → Int32 → Int32 → Option (Int32)
  | 0 => fun _ _ _ => none
  | n + 1 => f_X12_bestHeld_J4 fu u_T v_T (f_X12_bestHeld_L4 fu u_T v_T n)
def f_X12_bestHeld (fu : Nat) (u_T : S32) (v_T : S64) (x1 : Int32) : Option (Int32) := f_X12_bestHeld_L4 fu u_T v_T fu x1 (0 : Int32) (0 : Int32)
set_option maxHeartbeats 4000000 in
set_option maxRecDepth 100000 in
theorem c_X12_bestHeld {l : Launch} {g : GG} {A : Nat → Prop} {X : va_W} {fu : Nat} {a_T : Nat → Nat} {u_T : S32} {v_T : S64} {x1 : Int32} {r : Int32} (hf : f_X12_bestHeld fu u_T v_T x1 = some r) : MI l yX12_bestHeld cX12_bestHeld 4 (some .int) 0 g A (cl_X12 g a_T u_T v_T ++ X) [.ref (a_T 0), .int x1] r (cl_X12 g a_T u_T v_T ++ X) := by
  refine tx_start (av := [.ref (a_T 0), .int x1]) (by decide) (Nat.le_of_ble_eq_true rfl) ?_
  intro p e s m below meth c ls S hr hlk hE hw hl
  have S : CallFix p m c cX12_bestHeld 4 s (List.toArray [.ref (a_T 0), .int x1]) (Cond.code yX12_bestHeld cX12_bestHeld 4 (some .int) :: allW) RX12 := S
  have hx := S.1
  have hb := S.2.1
  have hown := S.2.2.2.1
  have hts : ∀ w ∈ allW, w.before (List.toArray [.ref (a_T 0), .int x1]) s = true := fun w h => S.2.2.2.2 w (List.mem_cons_of_mem _ h)
  have hl : lv_has ls 4 [(0, .ref (a_T 0)), (1, .int x1)] := hl
  have J52 : ∀ {K4 : Int32 → Int32 → Int32 → Option (Int32)} (hK4 : ∀ {w1 : Int32} {w2 : Int32} {w3 : Int32} {H : Heap} {locs : List Loc} {ls : Array Slot}, K4 w1 w2 w3 = some r → WD g A s.heap (cl_X12 g a_T u_T v_T ++ X) H locs → lv_has ls 4 [(0, .ref (a_T 0)), (1, .int w1), (2, .int w2), (3, .int w3)] → W p l e (rmH 0) s m (List.toArray [.ref (a_T 0), .int x1]) below meth c H locs 0 0 (MQ below (va_Qi (fun r2 (_ : Unit) => r2 = r) (fun _ t => POST g A (cl_X12 g a_T u_T v_T ++ X) t) A) (List.toArray [.ref (a_T 0), .int x1]) s 0 0 A) (F0 m 4 ls [])), ∀ {w1 : Int32} {w3 : Int32} {t0 : Int32} {H : Heap} {locs : List Loc} {ls : Array Slot}, f_X12_bestHeld_J52 fu u_T v_T K4 w1 w3 t0 = some r → WD g A s.heap (cl_X12 g a_T u_T v_T ++ X) H locs → lv_has ls 4 [(0, .ref (a_T 0)), (1, .int w1), (3, .int w3)] → W p l e (rmH 0) s m (List.toArray [.ref (a_T 0), .int x1]) below meth c H locs 0 0 (MQ below (va_Qi (fun r2 (_ : Unit) => r2 = r) (fun _ t => POST g A (cl_X12 g a_T u_T v_T ++ X) t) A) (List.toArray [.ref (a_T 0), .int x1]) s 0 0 A) (F0 m 52 ls [.int t0]) := by
    intro K4 hK4 w1 w3 t0 H locs ls hf hw hl
    unfold f_X12_bestHeld_J52 at hf
    refine lv_istore_n (lv' := [(2, .int t0), (0, .ref (a_T 0)), (1, .int w1), (3, .int w3)]) hx hb dX12_bestHeld_52 rfl hl (by decide) rfl (fun ls hl => ?_)
    obtain ⟨y_9, ey_9⟩ : ∃ y : Int32, y = w3 + (1 : Int32) := ⟨_, rfl⟩
    replace hf := tx_let_e hf ey_9
    refine lv_iinc (v := y_9) (lv' := [(3, .int y_9), (2, .int t0), (0, .ref (a_T 0)), (1, .int w1)]) hx hb dX12_bestHeld_53 hl (k := 3) rfl (by rw [ey_9]; rfl) (by decide) rfl (fun ls hl => ?_)
    refine lv_goto (tgt := 4) hx hb dX12_bestHeld_56 (by decide) ?_
    exact hK4 hf hw (lv_sub hl [2, 3, 1, 0] rfl)
  have J51 : ∀ {K4 : Int32 → Int32 → Int32 → Option (Int32)} (hK4 : ∀ {w1 : Int32} {w2 : Int32} {w3 : Int32} {H : Heap} {locs : List Loc} {ls : Array Slot}, K4 w1 w2 w3 = some r → WD g A s.heap (cl_X12 g a_T u_T v_T ++ X) H locs → lv_has ls 4 [(0, .ref (a_T 0)), (1, .int w1), (2, .int w2), (3, .int w3)] → W p l e (rmH 0) s m (List.toArray [.ref (a_T 0), .int x1]) below meth c H locs 0 0 (MQ below (va_Qi (fun r2 (_ : Unit) => r2 = r) (fun _ t => POST g A (cl_X12 g a_T u_T v_T ++ X) t) A) (List.toArray [.ref (a_T 0), .int x1]) s 0 0 A) (F0 m 4 ls [])), ∀ {w1 : Int32} {w2 : Int32} {w3 : Int32} {H : Heap} {locs : List Loc} {ls : Array Slot}, f_X12_bestHeld_J51 fu u_T v_T K4 w1 w2 w3 = some r → WD g A s.heap (cl_X12 g a_T u_T v_T ++ X) H locs → lv_has ls 4 [(0, .ref (a_T 0)), (1, .int w1), (2, .int w2), (3, .int w3)] → W p l e (rmH 0) s m (List.toArray [.ref (a_T 0), .int x1]) below meth c H locs 0 0 (MQ below (va_Qi (fun r2 (_ : Unit) => r2 = r) (fun _ t => POST g A (cl_X12 g a_T u_T v_T ++ X) t) A) (List.toArray [.ref (a_T 0), .int x1]) s 0 0 A) (F0 m 51 ls []) := by
    intro K4 hK4 w1 w2 w3 H locs ls hf hw hl
    unfold f_X12_bestHeld_J51 at hf
    refine lv_iload_n hx hb dX12_bestHeld_51 rfl (lv_at hl 2 rfl) ?_
    exact J52 hK4 hf hw (lv_sub hl [0, 1, 3] rfl)
  have J4 : ∀ {K4 : Int32 → Int32 → Int32 → Option (Int32)} (hK4 : ∀ {w1 : Int32} {w2 : Int32} {w3 : Int32} {H : Heap} {locs : List Loc} {ls : Array Slot}, K4 w1 w2 w3 = some r → WD g A s.heap (cl_X12 g a_T u_T v_T ++ X) H locs → lv_has ls 4 [(0, .ref (a_T 0)), (1, .int w1), (2, .int w2), (3, .int w3)] → W p l e (rmH 0) s m (List.toArray [.ref (a_T 0), .int x1]) below meth c H locs 0 0 (MQ below (va_Qi (fun r2 (_ : Unit) => r2 = r) (fun _ t => POST g A (cl_X12 g a_T u_T v_T ++ X) t) A) (List.toArray [.ref (a_T 0), .int x1]) s 0 0 A) (F0 m 4 ls [])), ∀ {w1 : Int32} {w2 : Int32} {w3 : Int32} {H : Heap} {locs : List Loc} {ls : Array Slot}, f_X12_bestHeld_J4 fu u_T v_T K4 w1 w2 w3 = some r → WD g A s.heap (cl_X12 g a_T u_T v_T ++ X) H locs → lv_has ls 4 [(0, .ref (a_T 0)), (1, .int w1), (2, .int w2), (3, .int w3)] → W p l e (rmH 0) s m (List.toArray [.ref (a_T 0), .int x1]) below meth c H locs 0 0 (MQ below (va_Qi (fun r2 (_ : Unit) => r2 = r) (fun _ t => POST g A (cl_X12 g a_T u_T v_T ++ X) t) A) (List.toArray [.ref (a_T 0), .int x1]) s 0 0 A) (F0 m 4 ls []) := by
    intro K4 hK4 w1 w2 w3 H locs ls hf hw hl
    unfold f_X12_bestHeld_J4 at hf
    refine lv_iload_n hx hb dX12_bestHeld_4 rfl (lv_at hl 3 rfl) ?_
    refine lv_aload_n hx hb dX12_bestHeld_5 rfl (lv_at hl 0 rfl) ?_
    refine gf_X12_225 S hE hw 0 rfl rfl dX12_bestHeld_6 ?_
    refine lv_icmp_ge (tgt := 59) hx hb dX12_bestHeld_9 (by decide) (fun h_1 => ?_) (fun h_1 => ?_)
    · replace hf := tx_pos hf h_1
      refine lv_iload_n hx hb dX12_bestHeld_59 rfl (lv_at hl 2 rfl) ?_
      obtain e0 := tx_in1 hf
      rw [← e0]
      exact tx_iret S hr hlk hw dX12_bestHeld_60
    · replace hf := tx_neg hf h_1
      refine lv_aload_n hx hb dX12_bestHeld_12 rfl (lv_at hl 0 rfl) ?_
      refine gf_X12_88 S hE hw 0 rfl rfl dX12_bestHeld_13 ?_
      refine lv_iload_n hx hb dX12_bestHeld_16 rfl (lv_at hl 3 rfl) ?_
      obtain ⟨h_2, hf⟩ := tx_ck_e hf
      refine tx_iald S hE hw 25 rfl h_2 dX12_bestHeld_17 ?_
      refine lv_iconst (v := 1) hx hb dX12_bestHeld_18 (by decide) ?_
      refine lv_icmp_ne (tgt := 51) hx hb dX12_bestHeld_19 (by decide) (fun h_3 => ?_) (fun h_3 => ?_)
      · replace hf := tx_neg hf h_3
        exact J51 hK4 hf hw (lv_sub hl [0, 1, 2, 3] rfl)
      · replace hf := tx_pos hf h_3
        refine lv_aload_n hx hb dX12_bestHeld_22 rfl (lv_at hl 0 rfl) ?_
        refine gf_X12_91 S hE hw 0 rfl rfl dX12_bestHeld_23 ?_
        refine lv_iload_n hx hb dX12_bestHeld_26 rfl (lv_at hl 3 rfl) ?_
        obtain ⟨h_4, hf⟩ := tx_ck_e hf
        refine tx_iald S hE hw 26 rfl h_4 dX12_bestHeld_27 ?_
        refine lv_iload_n hx hb dX12_bestHeld_28 rfl (lv_at hl 1 rfl) ?_
        refine lv_icmp_ne (tgt := 51) hx hb dX12_bestHeld_29 (by decide) (fun h_5 => ?_) (fun h_5 => ?_)
        · replace hf := tx_neg hf h_5
          exact J51 hK4 hf hw (lv_sub hl [0, 1, 2, 3] rfl)
        · replace hf := tx_pos hf h_5
          refine lv_aload_n hx hb dX12_bestHeld_32 rfl (lv_at hl 0 rfl) ?_
          refine gf_X12_39 S hE hw 0 rfl rfl dX12_bestHeld_33 ?_
          refine lv_iload_n hx hb dX12_bestHeld_36 rfl (lv_at hl 3 rfl) ?_
          obtain ⟨h_6, hf⟩ := tx_ck_e hf
          refine tx_iald S hE hw 9 rfl h_6 dX12_bestHeld_37 ?_
          refine lv_iload_n hx hb dX12_bestHeld_38 rfl (lv_at hl 2 rfl) ?_
          refine lv_icmp_le (tgt := 51) hx hb dX12_bestHeld_39 (by decide) (fun h_7 => ?_) (fun h_7 => ?_)
          · replace hf := tx_pos hf h_7
            exact J51 hK4 hf hw (lv_sub hl [0, 1, 2, 3] rfl)
          · replace hf := tx_neg hf h_7
            refine lv_aload_n hx hb dX12_bestHeld_42 rfl (lv_at hl 0 rfl) ?_
            refine gf_X12_39 S hE hw 0 rfl rfl dX12_bestHeld_43 ?_
            refine lv_iload_n hx hb dX12_bestHeld_46 rfl (lv_at hl 3 rfl) ?_
            obtain ⟨h_8, hf⟩ := tx_ck_e hf
            refine tx_iald S hE hw 9 rfl h_8 dX12_bestHeld_47 ?_
            refine lv_goto (tgt := 52) hx hb dX12_bestHeld_48 (by decide) ?_
            exact J52 hK4 hf hw (lv_sub hl [0, 1, 3] rfl)
  have L4 : ∀ (n : Nat), ∀ {w1 : Int32} {w2 : Int32} {w3 : Int32} {H : Heap} {locs : List Loc} {ls : Array Slot}, f_X12_bestHeld_L4 fu u_T v_T n w1 w2 w3 = some r → WD g A s.heap (cl_X12 g a_T u_T v_T ++ X) H locs → lv_has ls 4 [(0, .ref (a_T 0)), (1, .int w1), (2, .int w2), (3, .int w3)] → W p l e (rmH 0) s m (List.toArray [.ref (a_T 0), .int x1]) below meth c H locs 0 0 (MQ below (va_Qi (fun r2 (_ : Unit) => r2 = r) (fun _ t => POST g A (cl_X12 g a_T u_T v_T ++ X) t) A) (List.toArray [.ref (a_T 0), .int x1]) s 0 0 A) (F0 m 4 ls []) := by
    intro  n
    induction n with
    | zero => intro w1 w2 w3 H locs ls hf; exact absurd hf (by intro q; cases q)
    | succ n ih => exact fun hf hw hl => J4 ih hf hw hl
  unfold f_X12_bestHeld at hf
  refine lv_iconst (v := 0) hx hb dX12_bestHeld_0 (by decide) ?_
  refine lv_istore_n (lv' := [(2, .int (0 : Int32)), (0, .ref (a_T 0)), (1, .int x1)]) hx hb dX12_bestHeld_1 rfl hl (by decide) rfl (fun ls hl => ?_)
  refine lv_iconst (v := 0) hx hb dX12_bestHeld_2 (by decide) ?_
  refine lv_istore_n (lv' := [(3, .int (0 : Int32)), (2, .int (0 : Int32)), (0, .ref (a_T 0)), (1, .int x1)]) hx hb dX12_bestHeld_3 rfl hl (by decide) rfl (fun ls hl => ?_)
  exact L4 fu hf hw (lv_sub hl [2, 3, 1, 0] rfl)
def f_X12_law_J123 (fu : Nat) (u_T : S32) (v_T : S64) (w1 : Int32) (w3 : Int32) (t1 : Int32) (t2 : Int32) (t3 : Int32) : Option (Int64 × S32 × S64) := tx_b1 (f_X12_layNames fu u_T v_T t1 t2 t3 w3) fun (v_T_30 : S64) => tx_b3 (f_X12_lawOf fu u_T v_T_30 w1) fun (r_32 : Int64) (u_T_33 : S32) (v_T_34 : S64) => if (u_T_33 0 48) = (0 : Int32) then (some (r_32, u_T_33, v_T_34)) else (some ((-9223372036854775808 : Int64), u_T_33, v_T_34))
def f_X12_law_J104 (fu : Nat) (u_T : S32) (v_T : S64) (w1 : Int32) (w3 : Int32) (t1 : Int32) (t2 : Int32) : Option (Int64 × S32 × S64) := if w1 = (2 : Int32) then (f_X12_law_J123 fu u_T v_T w1 w3 t1 t2 (0 : Int32)) else (tx_ck w3 12 <| tx_b1 (f_X12_skillIn fu u_T v_T (u_T 57 w3.toNatClampNeg)) fun (r_28 : Int32) => f_X12_law_J123 fu u_T v_T w1 w3 t1 t2 r_28)
def f_X12_law_J82 (fu : Nat) (u_T : S32) (v_T : S64) (w1 : Int32) (w2 : Int32) (t0 : Int32) : Option (Int64 × S32 × S64) := if w1 = (1 : Int32) then (tx_b1 (f_X12_bestHeld fu u_T v_T t0) fun (r_24 : Int32) => f_X12_law_J104 fu u_T v_T w1 t0 (0 : Int32) r_24) else (tx_ck w2 24 <| f_X12_law_J104 fu u_T v_T w1 t0 (0 : Int32) (u_T 27 w2.toNatClampNeg))
def f_X12_law_J63 (fu : Nat) (u_T : S32) (v_T : S64) (w1 : Int32) (w2 : Int32) : Option (Int64 × S32 × S64) := tx_b1 (f_X12_plainTried fu v_T u_T) fun (u_T_18 : S32) => if w1 = (1 : Int32) then (f_X12_law_J82 fu u_T_18 v_T w1 w2 w2) else (tx_ck w2 24 <| f_X12_law_J82 fu u_T_18 v_T w1 w2 (u_T_18 51 w2.toNatClampNeg))
def f_X12_law_J36 (fu : Nat) (u_T : S32) (v_T : S64) (w1 : Int32) (w2 : Int32) : Option (Int64 × S32 × S64) := if w1 = (1 : Int32) then (f_X12_law_J63 fu u_T v_T w1 w2) else (tx_b1 (f_X12_isThought fu u_T v_T w2) fun (r_13 : Int32) => if r_13 = (0 : Int32) then (some ((-9223372036854775808 : Int64), u_T, v_T)) else (tx_ck w2 24 <| if (u_T 50 w2.toNatClampNeg) = (1 : Int32) then (f_X12_law_J63 fu u_T v_T w1 w2) else (some ((-9223372036854775808 : Int64), u_T, v_T))))
def f_X12_law (fu : Nat) (u_T : S32) (v_T : S64) (x1 : Int32) (x2 : Int32) : Option (Int64 × S32 × S64) := tx_let (up2 u_T 0 2 (0 : Int32)) fun (u_T_1 : S32) => tx_b1 (f_X12_isIn fu x1 (0 : Int32) (2 : Int32)) fun (r_3 : Int32) => if r_3 = (0 : Int32) then (some ((-9223372036854775808 : Int64), u_T_1, v_T)) else (tx_ck x1 6 <| if (u_T_1 33 x1.toNatClampNeg) = (0 : Int32) then (some ((-9223372036854775808 : Int64), u_T_1, v_T)) else (if x1 = (1 : Int32) then (tx_b1 (f_X12_isMan fu u_T_1 v_T x2) fun (r_9 : Int32) => if r_9 = (0 : Int32) then (some ((-9223372036854775808 : Int64), u_T_1, v_T)) else (f_X12_law_J36 fu u_T_1 v_T x1 x2)) else (f_X12_law_J36 fu u_T_1 v_T x1 x2)))
set_option maxHeartbeats 4000000 in
set_option maxRecDepth 100000 in
theorem c_X12_law {l : Launch} {g : GG} {A : Nat → Prop} {X : va_W} {fu : Nat} {a_T : Nat → Nat} {u_T : S32} {v_T : S64} {x1 : Int32} {x2 : Int32} {r : Int64} {zu_T : S32} {zv_T : S64} (hf : f_X12_law fu  u_T v_T x1 x2 = some (r, zu_T, zv_T)) : ML l yX12_law cX12_law 6 (some .long) 3 g A (cl_X12 g a_T u_T v_T ++ X) [.ref (a_T 0), .int x1, .int x2] r (cl_X12 g a_T zu_T zv_T ++ X) := by
  refine tx_start (av := [.ref (a_T 0), .int x1, .int x2]) (by decide) (Nat.le_of_ble_eq_true rfl) ?_
  intro p e s m below meth c ls S hr hlk hE hw hl
  have S : CallFix p m c cX12_law 6 s (List.toArray [.ref (a_T 0), .int x1, .int x2]) (Cond.code yX12_law cX12_law 6 (some .long) :: allW) RX12 := S
  have hx := S.1
  have hb := S.2.1
  have hown := S.2.2.2.1
  have hts : ∀ w ∈ allW, w.before (List.toArray [.ref (a_T 0), .int x1, .int x2]) s = true := fun w h => S.2.2.2.2 w (List.mem_cons_of_mem _ h)
  have hl : lv_has ls 6 [(0, .ref (a_T 0)), (1, .int x1), (2, .int x2)] := hl
  have J123 : ∀ {u_T : S32} {v_T : S64} {w1 : Int32} {w3 : Int32} {t1 : Int32} {t2 : Int32} {t3 : Int32} {H : Heap} {locs : List Loc} {ls : Array Slot}, f_X12_law_J123 fu u_T v_T w1 w3 t1 t2 t3 = some (r, zu_T, zv_T) → WD g A s.heap (cl_X12 g a_T u_T v_T ++ X) H locs → lv_has ls 6 [(0, .ref (a_T 0)), (1, .int w1), (3, .int w3)] → W p l e (rmH 3) s m (List.toArray [.ref (a_T 0), .int x1, .int x2]) below meth c H locs 0 0 (MQ below (va_Ql (fun r2 (_ : Unit) => r2 = r) (fun _ t => POST g A (cl_X12 g a_T zu_T zv_T ++ X) t) A) (List.toArray [.ref (a_T 0), .int x1, .int x2]) s 0 0 A) (F0 m 123 ls [.int t3, .int t2, .int t1, .ref (a_T 0)]) := by
    intro u_T v_T w1 w3 t1 t2 t3 H locs ls hf hw hl
    unfold f_X12_law_J123 at hf
    refine lv_iload_n hx hb dX12_law_123 rfl (lv_at hl 2 rfl) ?_
    obtain ⟨v_T_30, h_29, hf⟩ := tx_b1_e hf
    refine tx_cv hw (tx_runV S hE hw (c_X12_layNames h_29) lk_X12_402 (q0 := 0) rfl rfl rfl hl.1 (rest := []) rfl (Nat.le_of_ble_eq_true rfl) ⟨by decide, by decide⟩ dX12_law_124 ⟨Nat.zero_le _, Nat.zero_le _⟩) (fun H locs hw => ?_)
    refine lv_aload_n hx hb dX12_law_127 rfl (lv_at hl 0 rfl) ?_
    refine lv_iload_n hx hb dX12_law_128 rfl (lv_at hl 1 rfl) ?_
    obtain ⟨r_32, u_T_33, v_T_34, h_31, hf⟩ := tx_b3_e hf
    refine tx_cl hw (tx_runV S hE hw (c_X12_lawOf h_31) lk_X12_396 (q0 := 0) rfl rfl rfl hl.1 (rest := []) rfl (Nat.le_of_ble_eq_true rfl) ⟨by decide, by decide⟩ dX12_law_129 ⟨Nat.zero_le _, Nat.zero_le _⟩) (fun H locs hw => ?_)
    refine lv_lstore (lv' := [(4, .long r_32), (0, .ref (a_T 0)), (1, .int w1), (3, .int w3)]) hx hb dX12_law_132 hl (by decide) rfl (fun ls hl => ?_)
    refine lv_aload_n hx hb dX12_law_134 rfl (lv_at hl 1 rfl) ?_
    refine gf_X12_318 S hE hw 0 rfl rfl dX12_law_135 ?_
    refine lv_if_eq (tgt := 147) hx hb dX12_law_138 (by decide) (fun h_35 => ?_) (fun h_35 => ?_)
    · replace hf := tx_pos hf h_35
      refine lv_lload hx hb dX12_law_147 (lv_at hl 0 rfl) ?_
      obtain ⟨e0, e1, e2⟩ := tx_in3 hf
      rw [← e0, ← e1, ← e2]
      exact tx_lret S hr hlk hw dX12_law_149
    · replace hf := tx_neg hf h_35
      refine lv_ldc2 (v := -9223372036854775808) hx hb hown (hts _ kw_1753) dX12_law_141 ?_
      refine lv_goto (tgt := 149) hx hb dX12_law_144 (by decide) ?_
      obtain ⟨e0, e1, e2⟩ := tx_in3 hf
      rw [← e0, ← e1, ← e2]
      exact tx_lret S hr hlk hw dX12_law_149
  have J104 : ∀ {u_T : S32} {v_T : S64} {w1 : Int32} {w3 : Int32} {t1 : Int32} {t2 : Int32} {H : Heap} {locs : List Loc} {ls : Array Slot}, f_X12_law_J104 fu u_T v_T w1 w3 t1 t2 = some (r, zu_T, zv_T) → WD g A s.heap (cl_X12 g a_T u_T v_T ++ X) H locs → lv_has ls 6 [(0, .ref (a_T 0)), (1, .int w1), (3, .int w3)] → W p l e (rmH 3) s m (List.toArray [.ref (a_T 0), .int x1, .int x2]) below meth c H locs 0 0 (MQ below (va_Ql (fun r2 (_ : Unit) => r2 = r) (fun _ t => POST g A (cl_X12 g a_T zu_T zv_T ++ X) t) A) (List.toArray [.ref (a_T 0), .int x1, .int x2]) s 0 0 A) (F0 m 104 ls [.int t2, .int t1, .ref (a_T 0)]) := by
    intro u_T v_T w1 w3 t1 t2 H locs ls hf hw hl
    unfold f_X12_law_J104 at hf
    refine lv_iload_n hx hb dX12_law_104 rfl (lv_at hl 1 rfl) ?_
    refine lv_iconst (v := 2) hx hb dX12_law_105 (by decide) ?_
    refine lv_icmp_ne (tgt := 113) hx hb dX12_law_106 (by decide) (fun h_25 => ?_) (fun h_25 => ?_)
    · replace hf := tx_neg hf h_25
      refine lv_aload_n hx hb dX12_law_113 rfl (lv_at hl 0 rfl) ?_
      refine lv_aload_n hx hb dX12_law_114 rfl (lv_at hl 0 rfl) ?_
      refine gf_X12_109 S hE hw 0 rfl rfl dX12_law_115 ?_
      refine lv_iload_n hx hb dX12_law_118 rfl (lv_at hl 2 rfl) ?_
      obtain ⟨h_26, hf⟩ := tx_ck_e hf
      refine tx_iald S hE hw 32 rfl h_26 dX12_law_119 ?_
      obtain ⟨r_28, h_27, hf⟩ := tx_b1_e hf
      refine tx_ci hw (tx_runV S hE hw (c_X12_skillIn h_27) lk_X12_399 (q0 := 0) rfl rfl rfl hl.1 (rest := [.int t2, .int t1, .ref (a_T 0)]) rfl (Nat.le_of_ble_eq_true rfl) ⟨by decide, by decide⟩ dX12_law_120 ⟨Nat.zero_le _, Nat.zero_le _⟩) (fun H locs hw => ?_)
      exact J123 hf hw (lv_sub hl [0, 1, 2] rfl)
    · replace hf := tx_pos hf h_25
      refine lv_iconst (v := 0) hx hb dX12_law_109 (by decide) ?_
      refine lv_goto (tgt := 123) hx hb dX12_law_110 (by decide) ?_
      exact J123 hf hw (lv_sub hl [0, 1, 2] rfl)
  have J82 : ∀ {u_T : S32} {v_T : S64} {w1 : Int32} {w2 : Int32} {t0 : Int32} {H : Heap} {locs : List Loc} {ls : Array Slot}, f_X12_law_J82 fu u_T v_T w1 w2 t0 = some (r, zu_T, zv_T) → WD g A s.heap (cl_X12 g a_T u_T v_T ++ X) H locs → lv_has ls 6 [(0, .ref (a_T 0)), (1, .int w1), (2, .int w2)] → W p l e (rmH 3) s m (List.toArray [.ref (a_T 0), .int x1, .int x2]) below meth c H locs 0 0 (MQ below (va_Ql (fun r2 (_ : Unit) => r2 = r) (fun _ t => POST g A (cl_X12 g a_T zu_T zv_T ++ X) t) A) (List.toArray [.ref (a_T 0), .int x1, .int x2]) s 0 0 A) (F0 m 82 ls [.int t0]) := by
    intro u_T v_T w1 w2 t0 H locs ls hf hw hl
    unfold f_X12_law_J82 at hf
    refine lv_istore_n (lv' := [(3, .int t0), (0, .ref (a_T 0)), (1, .int w1), (2, .int w2)]) hx hb dX12_law_82 rfl hl (by decide) rfl (fun ls hl => ?_)
    refine lv_aload_n hx hb dX12_law_83 rfl (lv_at hl 1 rfl) ?_
    refine lv_iconst (v := 0) hx hb dX12_law_84 (by decide) ?_
    refine lv_iload_n hx hb dX12_law_85 rfl (lv_at hl 2 rfl) ?_
    refine lv_iconst (v := 1) hx hb dX12_law_86 (by decide) ?_
    refine lv_icmp_ne (tgt := 98) hx hb dX12_law_87 (by decide) (fun h_21 => ?_) (fun h_21 => ?_)
    · replace hf := tx_neg hf h_21
      refine lv_aload_n hx hb dX12_law_98 rfl (lv_at hl 1 rfl) ?_
      refine gf_X12_39 S hE hw 0 rfl rfl dX12_law_99 ?_
      refine lv_iload_n hx hb dX12_law_102 rfl (lv_at hl 3 rfl) ?_
      obtain ⟨h_22, hf⟩ := tx_ck_e hf
      refine tx_iald S hE hw 9 rfl h_22 dX12_law_103 ?_
      exact J104 hf hw (lv_sub hl [1, 2, 0] rfl)
    · replace hf := tx_pos hf h_21
      refine lv_aload_n hx hb dX12_law_90 rfl (lv_at hl 1 rfl) ?_
      refine lv_iload_n hx hb dX12_law_91 rfl (lv_at hl 0 rfl) ?_
      obtain ⟨r_24, h_23, hf⟩ := tx_b1_e hf
      refine tx_ci hw (tx_runV S hE hw (c_X12_bestHeld h_23) lk_X12_468 (q0 := 0) rfl rfl rfl hl.1 (rest := [.int (0 : Int32), .ref (a_T 0)]) rfl (Nat.le_of_ble_eq_true rfl) ⟨by decide, by decide⟩ dX12_law_92 ⟨Nat.zero_le _, Nat.zero_le _⟩) (fun H locs hw => ?_)
      refine lv_goto (tgt := 104) hx hb dX12_law_95 (by decide) ?_
      exact J104 hf hw (lv_sub hl [1, 2, 0] rfl)
  have J63 : ∀ {u_T : S32} {v_T : S64} {w1 : Int32} {w2 : Int32} {H : Heap} {locs : List Loc} {ls : Array Slot}, f_X12_law_J63 fu u_T v_T w1 w2 = some (r, zu_T, zv_T) → WD g A s.heap (cl_X12 g a_T u_T v_T ++ X) H locs → lv_has ls 6 [(0, .ref (a_T 0)), (1, .int w1), (2, .int w2)] → W p l e (rmH 3) s m (List.toArray [.ref (a_T 0), .int x1, .int x2]) below meth c H locs 0 0 (MQ below (va_Ql (fun r2 (_ : Unit) => r2 = r) (fun _ t => POST g A (cl_X12 g a_T zu_T zv_T ++ X) t) A) (List.toArray [.ref (a_T 0), .int x1, .int x2]) s 0 0 A) (F0 m 63 ls []) := by
    intro u_T v_T w1 w2 H locs ls hf hw hl
    unfold f_X12_law_J63 at hf
    refine lv_aload_n hx hb dX12_law_63 rfl (lv_at hl 0 rfl) ?_
    obtain ⟨u_T_18, h_17, hf⟩ := tx_b1_e hf
    refine tx_cv hw (tx_runV S hE hw (c_X12_plainTried h_17) lk_X12_344 (q0 := 0) rfl rfl rfl hl.1 (rest := []) rfl (Nat.le_of_ble_eq_true rfl) ⟨by decide, by decide⟩ dX12_law_64 ⟨Nat.zero_le _, Nat.zero_le _⟩) (fun H locs hw => ?_)
    refine lv_iload_n hx hb dX12_law_67 rfl (lv_at hl 1 rfl) ?_
    refine lv_iconst (v := 1) hx hb dX12_law_68 (by decide) ?_
    refine lv_icmp_ne (tgt := 76) hx hb dX12_law_69 (by decide) (fun h_19 => ?_) (fun h_19 => ?_)
    · replace hf := tx_neg hf h_19
      refine lv_aload_n hx hb dX12_law_76 rfl (lv_at hl 0 rfl) ?_
      refine gf_X12_91 S hE hw 0 rfl rfl dX12_law_77 ?_
      refine lv_iload_n hx hb dX12_law_80 rfl (lv_at hl 2 rfl) ?_
      obtain ⟨h_20, hf⟩ := tx_ck_e hf
      refine tx_iald S hE hw 26 rfl h_20 dX12_law_81 ?_
      exact J82 hf hw (lv_sub hl [0, 1, 2] rfl)
    · replace hf := tx_pos hf h_19
      refine lv_iload_n hx hb dX12_law_72 rfl (lv_at hl 2 rfl) ?_
      refine lv_goto (tgt := 82) hx hb dX12_law_73 (by decide) ?_
      exact J82 hf hw (lv_sub hl [0, 1, 2] rfl)
  have J36 : ∀ {u_T : S32} {v_T : S64} {w1 : Int32} {w2 : Int32} {H : Heap} {locs : List Loc} {ls : Array Slot}, f_X12_law_J36 fu u_T v_T w1 w2 = some (r, zu_T, zv_T) → WD g A s.heap (cl_X12 g a_T u_T v_T ++ X) H locs → lv_has ls 6 [(0, .ref (a_T 0)), (1, .int w1), (2, .int w2)] → W p l e (rmH 3) s m (List.toArray [.ref (a_T 0), .int x1, .int x2]) below meth c H locs 0 0 (MQ below (va_Ql (fun r2 (_ : Unit) => r2 = r) (fun _ t => POST g A (cl_X12 g a_T zu_T zv_T ++ X) t) A) (List.toArray [.ref (a_T 0), .int x1, .int x2]) s 0 0 A) (F0 m 36 ls []) := by
    intro u_T v_T w1 w2 H locs ls hf hw hl
    unfold f_X12_law_J36 at hf
    refine lv_iload_n hx hb dX12_law_36 rfl (lv_at hl 1 rfl) ?_
    refine lv_iconst (v := 1) hx hb dX12_law_37 (by decide) ?_
    refine lv_icmp_eq (tgt := 63) hx hb dX12_law_38 (by decide) (fun h_11 => ?_) (fun h_11 => ?_)
    · replace hf := tx_pos hf h_11
      exact J63 hf hw (lv_sub hl [0, 1, 2] rfl)
    · replace hf := tx_neg hf h_11
      refine lv_aload_n hx hb dX12_law_41 rfl (lv_at hl 0 rfl) ?_
      refine lv_iload_n hx hb dX12_law_42 rfl (lv_at hl 2 rfl) ?_
      obtain ⟨r_13, h_12, hf⟩ := tx_b1_e hf
      refine tx_ci hw (tx_runV S hE hw (c_X12_isThought h_12) lk_X12_454 (q0 := 0) rfl rfl rfl hl.1 (rest := []) rfl (Nat.le_of_ble_eq_true rfl) ⟨by decide, by decide⟩ dX12_law_43 ⟨Nat.zero_le _, Nat.zero_le _⟩) (fun H locs hw => ?_)
      refine lv_if_eq (tgt := 59) hx hb dX12_law_46 (by decide) (fun h_14 => ?_) (fun h_14 => ?_)
      · replace hf := tx_pos hf h_14
        refine lv_ldc2 (v := -9223372036854775808) hx hb hown (hts _ kw_1753) dX12_law_59 ?_
        obtain ⟨e0, e1, e2⟩ := tx_in3 hf
        rw [← e0, ← e1, ← e2]
        exact tx_lret S hr hlk hw dX12_law_62
      · replace hf := tx_neg hf h_14
        refine lv_aload_n hx hb dX12_law_49 rfl (lv_at hl 0 rfl) ?_
        refine gf_X12_88 S hE hw 0 rfl rfl dX12_law_50 ?_
        refine lv_iload_n hx hb dX12_law_53 rfl (lv_at hl 2 rfl) ?_
        obtain ⟨h_15, hf⟩ := tx_ck_e hf
        refine tx_iald S hE hw 25 rfl h_15 dX12_law_54 ?_
        refine lv_iconst (v := 1) hx hb dX12_law_55 (by decide) ?_
        refine lv_icmp_eq (tgt := 63) hx hb dX12_law_56 (by decide) (fun h_16 => ?_) (fun h_16 => ?_)
        · replace hf := tx_pos hf h_16
          exact J63 hf hw (lv_sub hl [0, 1, 2] rfl)
        · replace hf := tx_neg hf h_16
          refine lv_ldc2 (v := -9223372036854775808) hx hb hown (hts _ kw_1753) dX12_law_59 ?_
          obtain ⟨e0, e1, e2⟩ := tx_in3 hf
          rw [← e0, ← e1, ← e2]
          exact tx_lret S hr hlk hw dX12_law_62
  unfold f_X12_law at hf
  refine lv_aload_n hx hb dX12_law_0 rfl (lv_at hl 0 rfl) ?_
  refine lv_iconst (v := 0) hx hb dX12_law_1 (by decide) ?_
  obtain ⟨u_T_1, eu_T_1⟩ : ∃ z : S32, z = up2 u_T 0 2 (0 : Int32) := ⟨_, rfl⟩
  replace hf := tx_let_e hf eu_T_1
  refine pf_X12_145 (ws' := cl_X12 g a_T u_T_1 v_T ++ X) S hE hw rfl rfl 0 rfl (Nat.le_of_ble_eq_true rfl) (by rw [eu_T_1]; rfl) dX12_law_2 (fun H locs hw => ?_)
  refine lv_iload_n hx hb dX12_law_5 rfl (lv_at hl 1 rfl) ?_
  refine lv_iconst (v := 0) hx hb dX12_law_6 (by decide) ?_
  refine lv_iconst (v := 2) hx hb dX12_law_7 (by decide) ?_
  obtain ⟨r_3, h_2, hf⟩ := tx_b1_e hf
  refine tx_ci hw (tx_runS S hE hw (c_X12_isIn h_2) lk_X12_190 rfl hl.1 (rest := []) rfl (Nat.le_of_ble_eq_true rfl) ⟨by decide, by decide⟩ dX12_law_8 ⟨Nat.zero_le _, Nat.zero_le _⟩) (fun H locs hw => ?_)
  refine lv_if_eq (tgt := 59) hx hb dX12_law_11 (by decide) (fun h_4 => ?_) (fun h_4 => ?_)
  · replace hf := tx_pos hf h_4
    refine lv_ldc2 (v := -9223372036854775808) hx hb hown (hts _ kw_1753) dX12_law_59 ?_
    obtain ⟨e0, e1, e2⟩ := tx_in3 hf
    rw [← e0, ← e1, ← e2]
    exact tx_lret S hr hlk hw dX12_law_62
  · replace hf := tx_neg hf h_4
    refine lv_aload_n hx hb dX12_law_14 rfl (lv_at hl 0 rfl) ?_
    refine gf_X12_57 S hE hw 0 rfl rfl dX12_law_15 ?_
    refine lv_iload_n hx hb dX12_law_18 rfl (lv_at hl 1 rfl) ?_
    obtain ⟨h_5, hf⟩ := tx_ck_e hf
    refine tx_zald S hE hw 15 rfl h_5 dX12_law_19 ?_
    refine lv_if_eq (tgt := 59) hx hb dX12_law_20 (by decide) (fun h_6 => ?_) (fun h_6 => ?_)
    · replace hf := tx_pos hf h_6
      refine lv_ldc2 (v := -9223372036854775808) hx hb hown (hts _ kw_1753) dX12_law_59 ?_
      obtain ⟨e0, e1, e2⟩ := tx_in3 hf
      rw [← e0, ← e1, ← e2]
      exact tx_lret S hr hlk hw dX12_law_62
    · replace hf := tx_neg hf h_6
      refine lv_iload_n hx hb dX12_law_23 rfl (lv_at hl 1 rfl) ?_
      refine lv_iconst (v := 1) hx hb dX12_law_24 (by decide) ?_
      refine lv_icmp_ne (tgt := 36) hx hb dX12_law_25 (by decide) (fun h_7 => ?_) (fun h_7 => ?_)
      · replace hf := tx_neg hf h_7
        exact J36 hf hw (lv_sub hl [0, 1, 2] rfl)
      · replace hf := tx_pos hf h_7
        refine lv_aload_n hx hb dX12_law_28 rfl (lv_at hl 0 rfl) ?_
        refine lv_iload_n hx hb dX12_law_29 rfl (lv_at hl 2 rfl) ?_
        obtain ⟨r_9, h_8, hf⟩ := tx_b1_e hf
        refine tx_ci hw (tx_runV S hE hw (c_X12_isMan h_8) lk_X12_460 (q0 := 0) rfl rfl rfl hl.1 (rest := []) rfl (Nat.le_of_ble_eq_true rfl) ⟨by decide, by decide⟩ dX12_law_30 ⟨Nat.zero_le _, Nat.zero_le _⟩) (fun H locs hw => ?_)
        refine lv_if_eq (tgt := 59) hx hb dX12_law_33 (by decide) (fun h_10 => ?_) (fun h_10 => ?_)
        · replace hf := tx_pos hf h_10
          refine lv_ldc2 (v := -9223372036854775808) hx hb hown (hts _ kw_1753) dX12_law_59 ?_
          obtain ⟨e0, e1, e2⟩ := tx_in3 hf
          rw [← e0, ← e1, ← e2]
          exact tx_lret S hr hlk hw dX12_law_62
        · replace hf := tx_neg hf h_10
          exact J36 hf hw (lv_sub hl [0, 1, 2] rfl)
def f_X12_put_tX12r77_J27 (fu : Nat) (v_T : S64) (K27 : S32 → Int32 → Int32 → Option (S32)) (u_T : S32) (w2 : Int32) (w3 : Int32) : Option (S32) := if (6 : Int32) ≤ w3 then (tx_ck (w2 + (30 : Int32)) 620 <| tx_let (up2 u_T 77 (w2 + (30 : Int32)).toNatClampNeg (u_T 58 (0 : Int32).toNatClampNeg)) fun (u_T_8 : S32) => some u_T_8) else (tx_ck w3 12 <| tx_ck ((w2 + (12 : Int32)) + w3) 620 <| tx_let (up2 u_T 77 ((w2 + (12 : Int32)) + w3).toNatClampNeg (u_T 53 w3.toNatClampNeg)) fun (u_T_11 : S32) => tx_ck w3 12 <| tx_ck ((w2 + (18 : Int32)) + w3) 620 <| tx_let (up2 u_T_11 77 ((w2 + (18 : Int32)) + w3).toNatClampNeg (u_T_11 56 w3.toNatClampNeg)) fun (u_T_14 : S32) => tx_ck w3 12 <| tx_ck ((w2 + (24 : Int32)) + w3) 620 <| tx_let (up2 u_T_14 77 ((w2 + (24 : Int32)) + w3).toNatClampNeg (u_T_14 57 w3.toNatClampNeg)) fun (u_T_17 : S32) => tx_let (w3 + (1 : Int32)) fun (y_18 : Int32) => K27 u_T_17 w2 y_18)
def f_X12_put_tX12r77_L27 (fu : Nat) (v_T : S64) : Nat → S32 → Int32 → Int32 → Option (S32)
  | 0 => fun _ _ _ => none
  | n + 1 => f_X12_put_tX12r77_J27 fu v_T (f_X12_put_tX12r77_L27 fu v_T n)
def f_X12_put_tX12r77_J2 (fu : Nat) (v_T : S64) (K2 : S32 → Int32 → Int32 → Option (S32)) (u_T : S32) (w2 : Int32) (w3 : Int32) : Option (S32) := if (12 : Int32) ≤ w3 then (f_X12_put_tX12r77_L27 fu v_T fu u_T w2 (0 : Int32)) else (tx_ck w3 24 <| tx_ck (w2 + w3) 620 <| tx_let (up2 u_T 77 (w2 + w3).toNatClampNeg (u_T 51 w3.toNatClampNeg)) fun (u_T_4 : S32) => tx_let (w3 + (1 : Int32)) fun (y_5 : Int32) => K2 u_T_4 w2 y_5)
def f_X12_put_tX12r77_L2 (fu : Nat) (v_T : S64) : Nat → S32 → Int32 → Int32 → Option (S32)
  | 0 => fun _ _ _ => none
  | n + 1 => f_X12_put_tX12r77_J2 fu v_T (f_X12_put_tX12r77_L2 fu v_T n)
def f_X12_put_tX12r77 (fu : Nat) (v_T : S64) (u_T : S32) (x2 : Int32) : Option (S32) := f_X12_put_tX12r77_L2 fu v_T fu u_T x2 (0 : Int32)
set_option maxHeartbeats 4000000 in
set_option maxRecDepth 100000 in
theorem c_X12_put_tX12r77 {l : Launch} {g : GG} {A : Nat → Prop} {X : va_W} {fu : Nat} {a_T : Nat → Nat} {u_T : S32} {v_T : S64} {x2 : Int32} {zu_T : S32} (hf : f_X12_put_tX12r77 fu v_T u_T x2 = some zu_T) : MV l yX12_put cX12_put 4 none 0 g A (cl_X12 g a_T u_T v_T ++ X) [.ref (a_T 0), .ref (a_T 77), .int x2] (cl_X12 g a_T zu_T v_T ++ X) := by
  refine tx_start (av := [.ref (a_T 0), .ref (a_T 77), .int x2]) (by decide) (Nat.le_of_ble_eq_true rfl) ?_
  intro p e s m below meth c ls S hr hlk hE hw hl
  have S : CallFix p m c cX12_put 4 s (List.toArray [.ref (a_T 0), .ref (a_T 77), .int x2]) (Cond.code yX12_put cX12_put 4 none :: allW) RX12 := S
  have hx := S.1
  have hb := S.2.1
  have hown := S.2.2.2.1
  have hts : ∀ w ∈ allW, w.before (List.toArray [.ref (a_T 0), .ref (a_T 77), .int x2]) s = true := fun w h => S.2.2.2.2 w (List.mem_cons_of_mem _ h)
  have hl : lv_has ls 4 [(0, .ref (a_T 0)), (1, .ref (a_T 77)), (2, .int x2)] := hl
  have J27 : ∀ {K27 : S32 → Int32 → Int32 → Option (S32)} (hK27 : ∀ {u_T : S32} {w2 : Int32} {w3 : Int32} {H : Heap} {locs : List Loc} {ls : Array Slot}, K27 u_T w2 w3 = some zu_T → WD g A s.heap (cl_X12 g a_T u_T v_T ++ X) H locs → lv_has ls 4 [(0, .ref (a_T 0)), (1, .ref (a_T 77)), (2, .int w2), (3, .int w3)] → W p l e (rmH 0) s m (List.toArray [.ref (a_T 0), .ref (a_T 77), .int x2]) below meth c H locs 0 0 (MQ below (va_Qv (fun (_ : Unit) => True) (fun _ t => POST g A (cl_X12 g a_T zu_T v_T ++ X) t) A) (List.toArray [.ref (a_T 0), .ref (a_T 77), .int x2]) s 0 0 A) (F0 m 27 ls [])), ∀ {u_T : S32} {w2 : Int32} {w3 : Int32} {H : Heap} {locs : List Loc} {ls : Array Slot}, f_X12_put_tX12r77_J27 fu v_T K27 u_T w2 w3 = some zu_T → WD g A s.heap (cl_X12 g a_T u_T v_T ++ X) H locs → lv_has ls 4 [(0, .ref (a_T 0)), (1, .ref (a_T 77)), (2, .int w2), (3, .int w3)] → W p l e (rmH 0) s m (List.toArray [.ref (a_T 0), .ref (a_T 77), .int x2]) below meth c H locs 0 0 (MQ below (va_Qv (fun (_ : Unit) => True) (fun _ t => POST g A (cl_X12 g a_T zu_T v_T ++ X) t) A) (List.toArray [.ref (a_T 0), .ref (a_T 77), .int x2]) s 0 0 A) (F0 m 27 ls []) := by
    intro K27 hK27 u_T w2 w3 H locs ls hf hw hl
    unfold f_X12_put_tX12r77_J27 at hf
    refine lv_iload_n hx hb dX12_put_27 rfl (lv_at hl 3 rfl) ?_
    refine lv_bipush (v := 6) hx hb dX12_put_28 (by decide) ?_
    refine lv_icmp_ge (tgt := 81) hx hb dX12_put_30 (by decide) (fun h_6 => ?_) (fun h_6 => ?_)
    · replace hf := tx_pos hf h_6
      refine lv_aload_n hx hb dX12_put_81 rfl (lv_at hl 1 rfl) ?_
      refine lv_iload_n hx hb dX12_put_82 rfl (lv_at hl 2 rfl) ?_
      refine lv_bipush (v := 30) hx hb dX12_put_83 (by decide) ?_
      refine lv_iadd hx hb dX12_put_85 ?_
      refine lv_aload_n hx hb dX12_put_86 rfl (lv_at hl 0 rfl) ?_
      refine gf_X12_112 S hE hw 0 rfl rfl dX12_put_87 ?_
      refine lv_iconst (v := 0) hx hb dX12_put_90 (by decide) ?_
      refine tx_iald S hE hw 33 rfl (by unfold vp_in; decide) dX12_put_91 ?_
      obtain ⟨h_7, hf⟩ := tx_ck_e hf
      obtain ⟨u_T_8, eu_T_8⟩ : ∃ z : S32, z = up2 u_T 77 (w2 + (30 : Int32)).toNatClampNeg (u_T 58 (0 : Int32).toNatClampNeg) := ⟨_, rfl⟩
      replace hf := tx_let_e hf eu_T_8
      refine tx_iast (ws' := cl_X12 g a_T u_T_8 v_T ++ X) S hE hw 38 rfl h_7 (by rw [eu_T_8]; rfl) dX12_put_92 (fun H locs hw => ?_)
      obtain e0 := tx_in1 hf
      rw [← e0]
      exact tx_vret S hr hlk hw dX12_put_93
    · replace hf := tx_neg hf h_6
      refine lv_aload_n hx hb dX12_put_33 rfl (lv_at hl 1 rfl) ?_
      refine lv_iload_n hx hb dX12_put_34 rfl (lv_at hl 2 rfl) ?_
      refine lv_bipush (v := 12) hx hb dX12_put_35 (by decide) ?_
      refine lv_iadd hx hb dX12_put_37 ?_
      refine lv_iload_n hx hb dX12_put_38 rfl (lv_at hl 3 rfl) ?_
      refine lv_iadd hx hb dX12_put_39 ?_
      refine lv_aload_n hx hb dX12_put_40 rfl (lv_at hl 0 rfl) ?_
      refine gf_X12_97 S hE hw 0 rfl rfl dX12_put_41 ?_
      refine lv_iload_n hx hb dX12_put_44 rfl (lv_at hl 3 rfl) ?_
      obtain ⟨h_9, hf⟩ := tx_ck_e hf
      refine tx_iald S hE hw 28 rfl h_9 dX12_put_45 ?_
      obtain ⟨h_10, hf⟩ := tx_ck_e hf
      obtain ⟨u_T_11, eu_T_11⟩ : ∃ z : S32, z = up2 u_T 77 ((w2 + (12 : Int32)) + w3).toNatClampNeg (u_T 53 w3.toNatClampNeg) := ⟨_, rfl⟩
      replace hf := tx_let_e hf eu_T_11
      refine tx_iast (ws' := cl_X12 g a_T u_T_11 v_T ++ X) S hE hw 38 rfl h_10 (by rw [eu_T_11]; rfl) dX12_put_46 (fun H locs hw => ?_)
      refine lv_aload_n hx hb dX12_put_47 rfl (lv_at hl 1 rfl) ?_
      refine lv_iload_n hx hb dX12_put_48 rfl (lv_at hl 2 rfl) ?_
      refine lv_bipush (v := 18) hx hb dX12_put_49 (by decide) ?_
      refine lv_iadd hx hb dX12_put_51 ?_
      refine lv_iload_n hx hb dX12_put_52 rfl (lv_at hl 3 rfl) ?_
      refine lv_iadd hx hb dX12_put_53 ?_
      refine lv_aload_n hx hb dX12_put_54 rfl (lv_at hl 0 rfl) ?_
      refine gf_X12_106 S hE hw 0 rfl rfl dX12_put_55 ?_
      refine lv_iload_n hx hb dX12_put_58 rfl (lv_at hl 3 rfl) ?_
      obtain ⟨h_12, hf⟩ := tx_ck_e hf
      refine tx_iald S hE hw 31 rfl h_12 dX12_put_59 ?_
      obtain ⟨h_13, hf⟩ := tx_ck_e hf
      obtain ⟨u_T_14, eu_T_14⟩ : ∃ z : S32, z = up2 u_T_11 77 ((w2 + (18 : Int32)) + w3).toNatClampNeg (u_T_11 56 w3.toNatClampNeg) := ⟨_, rfl⟩
      replace hf := tx_let_e hf eu_T_14
      refine tx_iast (ws' := cl_X12 g a_T u_T_14 v_T ++ X) S hE hw 38 rfl h_13 (by rw [eu_T_14]; rfl) dX12_put_60 (fun H locs hw => ?_)
      refine lv_aload_n hx hb dX12_put_61 rfl (lv_at hl 1 rfl) ?_
      refine lv_iload_n hx hb dX12_put_62 rfl (lv_at hl 2 rfl) ?_
      refine lv_bipush (v := 24) hx hb dX12_put_63 (by decide) ?_
      refine lv_iadd hx hb dX12_put_65 ?_
      refine lv_iload_n hx hb dX12_put_66 rfl (lv_at hl 3 rfl) ?_
      refine lv_iadd hx hb dX12_put_67 ?_
      refine lv_aload_n hx hb dX12_put_68 rfl (lv_at hl 0 rfl) ?_
      refine gf_X12_109 S hE hw 0 rfl rfl dX12_put_69 ?_
      refine lv_iload_n hx hb dX12_put_72 rfl (lv_at hl 3 rfl) ?_
      obtain ⟨h_15, hf⟩ := tx_ck_e hf
      refine tx_iald S hE hw 32 rfl h_15 dX12_put_73 ?_
      obtain ⟨h_16, hf⟩ := tx_ck_e hf
      obtain ⟨u_T_17, eu_T_17⟩ : ∃ z : S32, z = up2 u_T_14 77 ((w2 + (24 : Int32)) + w3).toNatClampNeg (u_T_14 57 w3.toNatClampNeg) := ⟨_, rfl⟩
      replace hf := tx_let_e hf eu_T_17
      refine tx_iast (ws' := cl_X12 g a_T u_T_17 v_T ++ X) S hE hw 38 rfl h_16 (by rw [eu_T_17]; rfl) dX12_put_74 (fun H locs hw => ?_)
      obtain ⟨y_18, ey_18⟩ : ∃ y : Int32, y = w3 + (1 : Int32) := ⟨_, rfl⟩
      replace hf := tx_let_e hf ey_18
      refine lv_iinc (v := y_18) (lv' := [(3, .int y_18), (0, .ref (a_T 0)), (1, .ref (a_T 77)), (2, .int w2)]) hx hb dX12_put_75 hl (k := 3) rfl (by rw [ey_18]; rfl) (by decide) rfl (fun ls hl => ?_)
      refine lv_goto (tgt := 27) hx hb dX12_put_78 (by decide) ?_
      exact hK27 hf hw (lv_sub hl [1, 2, 3, 0] rfl)
  have L27 : ∀ (n : Nat), ∀ {u_T : S32} {w2 : Int32} {w3 : Int32} {H : Heap} {locs : List Loc} {ls : Array Slot}, f_X12_put_tX12r77_L27 fu v_T n u_T w2 w3 = some zu_T → WD g A s.heap (cl_X12 g a_T u_T v_T ++ X) H locs → lv_has ls 4 [(0, .ref (a_T 0)), (1, .ref (a_T 77)), (2, .int w2), (3, .int w3)] → W p l e (rmH 0) s m (List.toArray [.ref (a_T 0), .ref (a_T 77), .int x2]) below meth c H locs 0 0 (MQ below (va_Qv (fun (_ : Unit) => True) (fun _ t => POST g A (cl_X12 g a_T zu_T v_T ++ X) t) A) (List.toArray [.ref (a_T 0), .ref (a_T 77), .int x2]) s 0 0 A) (F0 m 27 ls []) := by
    intro  n
    induction n with
    | zero => intro u_T w2 w3 H locs ls hf; exact absurd hf (by intro q; cases q)
    | succ n ih => exact fun hf hw hl => J27 ih hf hw hl
  have J2 : ∀ {K2 : S32 → Int32 → Int32 → Option (S32)} (hK2 : ∀ {u_T : S32} {w2 : Int32} {w3 : Int32} {H : Heap} {locs : List Loc} {ls : Array Slot}, K2 u_T w2 w3 = some zu_T → WD g A s.heap (cl_X12 g a_T u_T v_T ++ X) H locs → lv_has ls 4 [(0, .ref (a_T 0)), (1, .ref (a_T 77)), (2, .int w2), (3, .int w3)] → W p l e (rmH 0) s m (List.toArray [.ref (a_T 0), .ref (a_T 77), .int x2]) below meth c H locs 0 0 (MQ below (va_Qv (fun (_ : Unit) => True) (fun _ t => POST g A (cl_X12 g a_T zu_T v_T ++ X) t) A) (List.toArray [.ref (a_T 0), .ref (a_T 77), .int x2]) s 0 0 A) (F0 m 2 ls [])), ∀ {u_T : S32} {w2 : Int32} {w3 : Int32} {H : Heap} {locs : List Loc} {ls : Array Slot}, f_X12_put_tX12r77_J2 fu v_T K2 u_T w2 w3 = some zu_T → WD g A s.heap (cl_X12 g a_T u_T v_T ++ X) H locs → lv_has ls 4 [(0, .ref (a_T 0)), (1, .ref (a_T 77)), (2, .int w2), (3, .int w3)] → W p l e (rmH 0) s m (List.toArray [.ref (a_T 0), .ref (a_T 77), .int x2]) below meth c H locs 0 0 (MQ below (va_Qv (fun (_ : Unit) => True) (fun _ t => POST g A (cl_X12 g a_T zu_T v_T ++ X) t) A) (List.toArray [.ref (a_T 0), .ref (a_T 77), .int x2]) s 0 0 A) (F0 m 2 ls []) := by
    intro K2 hK2 u_T w2 w3 H locs ls hf hw hl
    unfold f_X12_put_tX12r77_J2 at hf
    refine lv_iload_n hx hb dX12_put_2 rfl (lv_at hl 3 rfl) ?_
    refine lv_bipush (v := 12) hx hb dX12_put_3 (by decide) ?_
    refine lv_icmp_ge (tgt := 25) hx hb dX12_put_5 (by decide) (fun h_1 => ?_) (fun h_1 => ?_)
    · replace hf := tx_pos hf h_1
      refine lv_iconst (v := 0) hx hb dX12_put_25 (by decide) ?_
      refine lv_istore_n (lv' := [(3, .int (0 : Int32)), (0, .ref (a_T 0)), (1, .ref (a_T 77)), (2, .int w2)]) hx hb dX12_put_26 rfl hl (by decide) rfl (fun ls hl => ?_)
      exact L27 fu hf hw (lv_sub hl [1, 2, 3, 0] rfl)
    · replace hf := tx_neg hf h_1
      refine lv_aload_n hx hb dX12_put_8 rfl (lv_at hl 1 rfl) ?_
      refine lv_iload_n hx hb dX12_put_9 rfl (lv_at hl 2 rfl) ?_
      refine lv_iload_n hx hb dX12_put_10 rfl (lv_at hl 3 rfl) ?_
      refine lv_iadd hx hb dX12_put_11 ?_
      refine lv_aload_n hx hb dX12_put_12 rfl (lv_at hl 0 rfl) ?_
      refine gf_X12_91 S hE hw 0 rfl rfl dX12_put_13 ?_
      refine lv_iload_n hx hb dX12_put_16 rfl (lv_at hl 3 rfl) ?_
      obtain ⟨h_2, hf⟩ := tx_ck_e hf
      refine tx_iald S hE hw 26 rfl h_2 dX12_put_17 ?_
      obtain ⟨h_3, hf⟩ := tx_ck_e hf
      obtain ⟨u_T_4, eu_T_4⟩ : ∃ z : S32, z = up2 u_T 77 (w2 + w3).toNatClampNeg (u_T 51 w3.toNatClampNeg) := ⟨_, rfl⟩
      replace hf := tx_let_e hf eu_T_4
      refine tx_iast (ws' := cl_X12 g a_T u_T_4 v_T ++ X) S hE hw 38 rfl h_3 (by rw [eu_T_4]; rfl) dX12_put_18 (fun H locs hw => ?_)
      obtain ⟨y_5, ey_5⟩ : ∃ y : Int32, y = w3 + (1 : Int32) := ⟨_, rfl⟩
      replace hf := tx_let_e hf ey_5
      refine lv_iinc (v := y_5) (lv' := [(3, .int y_5), (0, .ref (a_T 0)), (1, .ref (a_T 77)), (2, .int w2)]) hx hb dX12_put_19 hl (k := 3) rfl (by rw [ey_5]; rfl) (by decide) rfl (fun ls hl => ?_)
      refine lv_goto (tgt := 2) hx hb dX12_put_22 (by decide) ?_
      exact hK2 hf hw (lv_sub hl [1, 2, 3, 0] rfl)
  have L2 : ∀ (n : Nat), ∀ {u_T : S32} {w2 : Int32} {w3 : Int32} {H : Heap} {locs : List Loc} {ls : Array Slot}, f_X12_put_tX12r77_L2 fu v_T n u_T w2 w3 = some zu_T → WD g A s.heap (cl_X12 g a_T u_T v_T ++ X) H locs → lv_has ls 4 [(0, .ref (a_T 0)), (1, .ref (a_T 77)), (2, .int w2), (3, .int w3)] → W p l e (rmH 0) s m (List.toArray [.ref (a_T 0), .ref (a_T 77), .int x2]) below meth c H locs 0 0 (MQ below (va_Qv (fun (_ : Unit) => True) (fun _ t => POST g A (cl_X12 g a_T zu_T v_T ++ X) t) A) (List.toArray [.ref (a_T 0), .ref (a_T 77), .int x2]) s 0 0 A) (F0 m 2 ls []) := by
    intro  n
    induction n with
    | zero => intro u_T w2 w3 H locs ls hf; exact absurd hf (by intro q; cases q)
    | succ n ih => exact fun hf hw hl => J2 ih hf hw hl
  unfold f_X12_put_tX12r77 at hf
  refine lv_iconst (v := 0) hx hb dX12_put_0 (by decide) ?_
  refine lv_istore_n (lv' := [(3, .int (0 : Int32)), (0, .ref (a_T 0)), (1, .ref (a_T 77)), (2, .int x2)]) hx hb dX12_put_1 rfl hl (by decide) rfl (fun ls hl => ?_)
  exact L2 fu hf hw (lv_sub hl [1, 2, 3, 0] rfl)
def f_X12_remember_J49 (fu : Nat) (v_T : S64) (u_T : S32) : Option (S32) := tx_b1 (f_X12_put_tX12r77 fu v_T u_T ((31 : Int32) * (u_T 0 75))) fun (u_T_9 : S32) => tx_let (up2 u_T_9 0 75 ((u_T_9 0 75) + (1 : Int32))) fun (u_T_10 : S32) => some u_T_10
def f_X12_remember_J11 (fu : Nat) (v_T : S64) (K11 : S32 → Int32 → Option (S32)) (u_T : S32) (w1 : Int32) : Option (S32) := if (589 : Int32) ≤ w1 then (tx_let (up2 u_T 0 75 ((u_T 0 75) - (1 : Int32))) fun (u_T_3 : S32) => f_X12_remember_J49 fu v_T u_T_3) else (tx_ck (w1 + (31 : Int32)) 620 <| tx_ck w1 620 <| tx_let (up2 u_T 77 w1.toNatClampNeg (u_T 77 (w1 + (31 : Int32)).toNatClampNeg)) fun (u_T_6 : S32) => tx_let (w1 + (1 : Int32)) fun (y_7 : Int32) => K11 u_T_6 y_7)
def f_X12_remember_L11 (fu : Nat) (v_T : S64) : Nat → S32 → Int32 → Option (S32)
  | 0 => fun _ _ => none
  | n + 1 => f_X12_remember_J11 fu v_T (f_X12_remember_L11 fu v_T n)
def f_X12_remember (fu : Nat) (v_T : S64) (u_T : S32) : Option (S32) := if (u_T 0 75) = (20 : Int32) then (f_X12_remember_L11 fu v_T fu u_T (0 : Int32)) else (f_X12_remember_J49 fu v_T u_T)
set_option maxHeartbeats 4000000 in
set_option maxRecDepth 100000 in
theorem c_X12_remember {l : Launch} {g : GG} {A : Nat → Prop} {X : va_W} {fu : Nat} {a_T : Nat → Nat} {u_T : S32} {v_T : S64} {zu_T : S32} (hf : f_X12_remember fu v_T u_T = some zu_T) : MV l yX12_remember cX12_remember 2 none 1 g A (cl_X12 g a_T u_T v_T ++ X) [.ref (a_T 0)] (cl_X12 g a_T zu_T v_T ++ X) := by
  refine tx_start (av := [.ref (a_T 0)]) (by decide) (Nat.le_of_ble_eq_true rfl) ?_
  intro p e s m below meth c ls S hr hlk hE hw hl
  have S : CallFix p m c cX12_remember 2 s (List.toArray [.ref (a_T 0)]) (Cond.code yX12_remember cX12_remember 2 none :: allW) RX12 := S
  have hx := S.1
  have hb := S.2.1
  have hown := S.2.2.2.1
  have hts : ∀ w ∈ allW, w.before (List.toArray [.ref (a_T 0)]) s = true := fun w h => S.2.2.2.2 w (List.mem_cons_of_mem _ h)
  have hl : lv_has ls 2 [(0, .ref (a_T 0))] := hl
  have J49 : ∀ {u_T : S32} {H : Heap} {locs : List Loc} {ls : Array Slot}, f_X12_remember_J49 fu v_T u_T = some zu_T → WD g A s.heap (cl_X12 g a_T u_T v_T ++ X) H locs → lv_has ls 2 [(0, .ref (a_T 0))] → W p l e (rmH 1) s m (List.toArray [.ref (a_T 0)]) below meth c H locs 0 0 (MQ below (va_Qv (fun (_ : Unit) => True) (fun _ t => POST g A (cl_X12 g a_T zu_T v_T ++ X) t) A) (List.toArray [.ref (a_T 0)]) s 0 0 A) (F0 m 49 ls []) := by
    intro u_T H locs ls hf hw hl
    unfold f_X12_remember_J49 at hf
    refine lv_aload_n hx hb dX12_remember_49 rfl (lv_at hl 0 rfl) ?_
    refine lv_aload_n hx hb dX12_remember_50 rfl (lv_at hl 0 rfl) ?_
    refine gf_X12_130 S hE hw 0 rfl rfl dX12_remember_51 ?_
    refine lv_bipush (v := 31) hx hb dX12_remember_54 (by decide) ?_
    refine lv_aload_n hx hb dX12_remember_56 rfl (lv_at hl 0 rfl) ?_
    refine gf_X12_350 S hE hw 0 rfl rfl dX12_remember_57 ?_
    refine lv_imul hx hb dX12_remember_60 ?_
    obtain ⟨u_T_9, h_8, hf⟩ := tx_b1_e hf
    refine tx_cv hw (tx_runV S hE hw (c_X12_put_tX12r77 h_8) lk_X12_516 (q0 := 0) rfl rfl rfl hl.1 (rest := []) rfl (Nat.le_of_ble_eq_true rfl) ⟨by decide, by decide⟩ dX12_remember_61 ⟨Nat.zero_le _, Nat.zero_le _⟩) (fun H locs hw => ?_)
    refine lv_aload_n hx hb dX12_remember_64 rfl (lv_at hl 0 rfl) ?_
    refine lv_dup hx hb dX12_remember_65 rfl ?_
    refine gf_X12_350 S hE hw 0 rfl rfl dX12_remember_66 ?_
    refine lv_iconst (v := 1) hx hb dX12_remember_69 (by decide) ?_
    refine lv_iadd hx hb dX12_remember_70 ?_
    obtain ⟨u_T_10, eu_T_10⟩ : ∃ z : S32, z = up2 u_T_9 0 75 ((u_T_9 0 75) + (1 : Int32)) := ⟨_, rfl⟩
    replace hf := tx_let_e hf eu_T_10
    refine pf_X12_350 (ws' := cl_X12 g a_T u_T_10 v_T ++ X) S hE hw rfl rfl 0 rfl (Nat.le_of_ble_eq_true rfl) (by rw [eu_T_10]; rfl) dX12_remember_71 (fun H locs hw => ?_)
    obtain e0 := tx_in1 hf
    rw [← e0]
    exact tx_vret S hr hlk hw dX12_remember_74
  have J11 : ∀ {K11 : S32 → Int32 → Option (S32)} (hK11 : ∀ {u_T : S32} {w1 : Int32} {H : Heap} {locs : List Loc} {ls : Array Slot}, K11 u_T w1 = some zu_T → WD g A s.heap (cl_X12 g a_T u_T v_T ++ X) H locs → lv_has ls 2 [(0, .ref (a_T 0)), (1, .int w1)] → W p l e (rmH 1) s m (List.toArray [.ref (a_T 0)]) below meth c H locs 0 0 (MQ below (va_Qv (fun (_ : Unit) => True) (fun _ t => POST g A (cl_X12 g a_T zu_T v_T ++ X) t) A) (List.toArray [.ref (a_T 0)]) s 0 0 A) (F0 m 11 ls [])), ∀ {u_T : S32} {w1 : Int32} {H : Heap} {locs : List Loc} {ls : Array Slot}, f_X12_remember_J11 fu v_T K11 u_T w1 = some zu_T → WD g A s.heap (cl_X12 g a_T u_T v_T ++ X) H locs → lv_has ls 2 [(0, .ref (a_T 0)), (1, .int w1)] → W p l e (rmH 1) s m (List.toArray [.ref (a_T 0)]) below meth c H locs 0 0 (MQ below (va_Qv (fun (_ : Unit) => True) (fun _ t => POST g A (cl_X12 g a_T zu_T v_T ++ X) t) A) (List.toArray [.ref (a_T 0)]) s 0 0 A) (F0 m 11 ls []) := by
    intro K11 hK11 u_T w1 H locs ls hf hw hl
    unfold f_X12_remember_J11 at hf
    refine lv_iload_n hx hb dX12_remember_11 rfl (lv_at hl 1 rfl) ?_
    refine lv_sipush (v := 589) hx hb dX12_remember_12 (by decide) ?_
    refine lv_icmp_ge (tgt := 39) hx hb dX12_remember_15 (by decide) (fun h_2 => ?_) (fun h_2 => ?_)
    · replace hf := tx_pos hf h_2
      refine lv_aload_n hx hb dX12_remember_39 rfl (lv_at hl 0 rfl) ?_
      refine lv_dup hx hb dX12_remember_40 rfl ?_
      refine gf_X12_350 S hE hw 0 rfl rfl dX12_remember_41 ?_
      refine lv_iconst (v := 1) hx hb dX12_remember_44 (by decide) ?_
      refine lv_isub hx hb dX12_remember_45 ?_
      obtain ⟨u_T_3, eu_T_3⟩ : ∃ z : S32, z = up2 u_T 0 75 ((u_T 0 75) - (1 : Int32)) := ⟨_, rfl⟩
      replace hf := tx_let_e hf eu_T_3
      refine pf_X12_350 (ws' := cl_X12 g a_T u_T_3 v_T ++ X) S hE hw rfl rfl 0 rfl (Nat.le_of_ble_eq_true rfl) (by rw [eu_T_3]; rfl) dX12_remember_46 (fun H locs hw => ?_)
      exact J49 hf hw (lv_sub hl [0] rfl)
    · replace hf := tx_neg hf h_2
      refine lv_aload_n hx hb dX12_remember_18 rfl (lv_at hl 0 rfl) ?_
      refine gf_X12_130 S hE hw 0 rfl rfl dX12_remember_19 ?_
      refine lv_iload_n hx hb dX12_remember_22 rfl (lv_at hl 1 rfl) ?_
      refine lv_aload_n hx hb dX12_remember_23 rfl (lv_at hl 0 rfl) ?_
      refine gf_X12_130 S hE hw 0 rfl rfl dX12_remember_24 ?_
      refine lv_iload_n hx hb dX12_remember_27 rfl (lv_at hl 1 rfl) ?_
      refine lv_bipush (v := 31) hx hb dX12_remember_28 (by decide) ?_
      refine lv_iadd hx hb dX12_remember_30 ?_
      obtain ⟨h_4, hf⟩ := tx_ck_e hf
      refine tx_iald S hE hw 38 rfl h_4 dX12_remember_31 ?_
      obtain ⟨h_5, hf⟩ := tx_ck_e hf
      obtain ⟨u_T_6, eu_T_6⟩ : ∃ z : S32, z = up2 u_T 77 w1.toNatClampNeg (u_T 77 (w1 + (31 : Int32)).toNatClampNeg) := ⟨_, rfl⟩
      replace hf := tx_let_e hf eu_T_6
      refine tx_iast (ws' := cl_X12 g a_T u_T_6 v_T ++ X) S hE hw 38 rfl h_5 (by rw [eu_T_6]; rfl) dX12_remember_32 (fun H locs hw => ?_)
      obtain ⟨y_7, ey_7⟩ : ∃ y : Int32, y = w1 + (1 : Int32) := ⟨_, rfl⟩
      replace hf := tx_let_e hf ey_7
      refine lv_iinc (v := y_7) (lv' := [(1, .int y_7), (0, .ref (a_T 0))]) hx hb dX12_remember_33 hl (k := 1) rfl (by rw [ey_7]; rfl) (by decide) rfl (fun ls hl => ?_)
      refine lv_goto (tgt := 11) hx hb dX12_remember_36 (by decide) ?_
      exact hK11 hf hw (lv_sub hl [1, 0] rfl)
  have L11 : ∀ (n : Nat), ∀ {u_T : S32} {w1 : Int32} {H : Heap} {locs : List Loc} {ls : Array Slot}, f_X12_remember_L11 fu v_T n u_T w1 = some zu_T → WD g A s.heap (cl_X12 g a_T u_T v_T ++ X) H locs → lv_has ls 2 [(0, .ref (a_T 0)), (1, .int w1)] → W p l e (rmH 1) s m (List.toArray [.ref (a_T 0)]) below meth c H locs 0 0 (MQ below (va_Qv (fun (_ : Unit) => True) (fun _ t => POST g A (cl_X12 g a_T zu_T v_T ++ X) t) A) (List.toArray [.ref (a_T 0)]) s 0 0 A) (F0 m 11 ls []) := by
    intro  n
    induction n with
    | zero => intro u_T w1 H locs ls hf; exact absurd hf (by intro q; cases q)
    | succ n ih => exact fun hf hw hl => J11 ih hf hw hl
  unfold f_X12_remember at hf
  refine lv_aload_n hx hb dX12_remember_0 rfl (lv_at hl 0 rfl) ?_
  refine gf_X12_350 S hE hw 0 rfl rfl dX12_remember_1 ?_
  refine lv_bipush (v := 20) hx hb dX12_remember_4 (by decide) ?_
  refine lv_icmp_ne (tgt := 49) hx hb dX12_remember_6 (by decide) (fun h_1 => ?_) (fun h_1 => ?_)
  · replace hf := tx_neg hf h_1
    exact J49 hf hw (lv_sub hl [0] rfl)
  · replace hf := tx_pos hf h_1
    refine lv_iconst (v := 0) hx hb dX12_remember_9 (by decide) ?_
    refine lv_istore_n (lv' := [(1, .int (0 : Int32)), (0, .ref (a_T 0))]) hx hb dX12_remember_10 rfl hl (by decide) rfl (fun ls hl => ?_)
    exact L11 fu hf hw (lv_sub hl [1, 0] rfl)
def f_X12_hide (fu : Nat) (v_T : S64) (u_T : S32) (x1 : Int32) (x2 : Int32) : Option (Int32 × S32) := tx_let (up2 u_T 0 2 (0 : Int32)) fun (u_T_1 : S32) => tx_b1 (f_X12_isThought fu u_T_1 v_T x1) fun (r_3 : Int32) => if r_3 = (0 : Int32) then (some ((0 : Int32), u_T_1)) else (tx_ck x1 24 <| if (u_T_1 50 x1.toNatClampNeg) = (1 : Int32) then (tx_b1 (f_X12_isMan fu u_T_1 v_T x2) fun (r_8 : Int32) => if r_8 = (0 : Int32) then (some ((0 : Int32), u_T_1)) else (tx_ck x1 24 <| if (u_T_1 51 x1.toNatClampNeg) = x2 then (some ((0 : Int32), u_T_1)) else (tx_b1 (f_X12_remember fu v_T u_T_1) fun (u_T_13 : S32) => tx_ck x1 24 <| tx_let (up2 u_T_13 51 x1.toNatClampNeg x2) fun (u_T_15 : S32) => some ((1 : Int32), u_T_15)))) else (some ((0 : Int32), u_T_1)))
set_option maxHeartbeats 4000000 in
set_option maxRecDepth 100000 in
theorem c_X12_hide {l : Launch} {g : GG} {A : Nat → Prop} {X : va_W} {fu : Nat} {a_T : Nat → Nat} {u_T : S32} {v_T : S64} {x1 : Int32} {x2 : Int32} {r : Int32} {zu_T : S32} (hf : f_X12_hide fu v_T u_T x1 x2 = some (r, zu_T)) : MI l yX12_hide cX12_hide 3 (some .boolean) 2 g A (cl_X12 g a_T u_T v_T ++ X) [.ref (a_T 0), .int x1, .int x2] r (cl_X12 g a_T zu_T v_T ++ X) := by
  refine tx_start (av := [.ref (a_T 0), .int x1, .int x2]) (by decide) (Nat.le_of_ble_eq_true rfl) ?_
  intro p e s m below meth c ls S hr hlk hE hw hl
  have S : CallFix p m c cX12_hide 3 s (List.toArray [.ref (a_T 0), .int x1, .int x2]) (Cond.code yX12_hide cX12_hide 3 (some .boolean) :: allW) RX12 := S
  have hx := S.1
  have hb := S.2.1
  have hown := S.2.2.2.1
  have hts : ∀ w ∈ allW, w.before (List.toArray [.ref (a_T 0), .int x1, .int x2]) s = true := fun w h => S.2.2.2.2 w (List.mem_cons_of_mem _ h)
  have hl : lv_has ls 3 [(0, .ref (a_T 0)), (1, .int x1), (2, .int x2)] := hl
  unfold f_X12_hide at hf
  refine lv_aload_n hx hb dX12_hide_0 rfl (lv_at hl 0 rfl) ?_
  refine lv_iconst (v := 0) hx hb dX12_hide_1 (by decide) ?_
  obtain ⟨u_T_1, eu_T_1⟩ : ∃ z : S32, z = up2 u_T 0 2 (0 : Int32) := ⟨_, rfl⟩
  replace hf := tx_let_e hf eu_T_1
  refine pf_X12_145 (ws' := cl_X12 g a_T u_T_1 v_T ++ X) S hE hw rfl rfl 0 rfl (Nat.le_of_ble_eq_true rfl) (by rw [eu_T_1]; rfl) dX12_hide_2 (fun H locs hw => ?_)
  refine lv_aload_n hx hb dX12_hide_5 rfl (lv_at hl 0 rfl) ?_
  refine lv_iload_n hx hb dX12_hide_6 rfl (lv_at hl 1 rfl) ?_
  obtain ⟨r_3, h_2, hf⟩ := tx_b1_e hf
  refine tx_ci hw (tx_runV S hE hw (c_X12_isThought h_2) lk_X12_454 (q0 := 0) rfl rfl rfl hl.1 (rest := []) rfl (Nat.le_of_ble_eq_true rfl) ⟨by decide, by decide⟩ dX12_hide_7 ⟨Nat.zero_le _, Nat.zero_le _⟩) (fun H locs hw => ?_)
  refine lv_if_eq (tgt := 41) hx hb dX12_hide_10 (by decide) (fun h_4 => ?_) (fun h_4 => ?_)
  · replace hf := tx_pos hf h_4
    refine lv_iconst (v := 0) hx hb dX12_hide_41 (by decide) ?_
    obtain ⟨e0, e1⟩ := tx_in2 hf
    rw [← e0, ← e1]
    exact tx_zret S hr hlk (by decide) hw dX12_hide_42
  · replace hf := tx_neg hf h_4
    refine lv_aload_n hx hb dX12_hide_13 rfl (lv_at hl 0 rfl) ?_
    refine gf_X12_88 S hE hw 0 rfl rfl dX12_hide_14 ?_
    refine lv_iload_n hx hb dX12_hide_17 rfl (lv_at hl 1 rfl) ?_
    obtain ⟨h_5, hf⟩ := tx_ck_e hf
    refine tx_iald S hE hw 25 rfl h_5 dX12_hide_18 ?_
    refine lv_iconst (v := 1) hx hb dX12_hide_19 (by decide) ?_
    refine lv_icmp_ne (tgt := 41) hx hb dX12_hide_20 (by decide) (fun h_6 => ?_) (fun h_6 => ?_)
    · replace hf := tx_neg hf h_6
      refine lv_iconst (v := 0) hx hb dX12_hide_41 (by decide) ?_
      obtain ⟨e0, e1⟩ := tx_in2 hf
      rw [← e0, ← e1]
      exact tx_zret S hr hlk (by decide) hw dX12_hide_42
    · replace hf := tx_pos hf h_6
      refine lv_aload_n hx hb dX12_hide_23 rfl (lv_at hl 0 rfl) ?_
      refine lv_iload_n hx hb dX12_hide_24 rfl (lv_at hl 2 rfl) ?_
      obtain ⟨r_8, h_7, hf⟩ := tx_b1_e hf
      refine tx_ci hw (tx_runV S hE hw (c_X12_isMan h_7) lk_X12_460 (q0 := 0) rfl rfl rfl hl.1 (rest := []) rfl (Nat.le_of_ble_eq_true rfl) ⟨by decide, by decide⟩ dX12_hide_25 ⟨Nat.zero_le _, Nat.zero_le _⟩) (fun H locs hw => ?_)
      refine lv_if_eq (tgt := 41) hx hb dX12_hide_28 (by decide) (fun h_9 => ?_) (fun h_9 => ?_)
      · replace hf := tx_pos hf h_9
        refine lv_iconst (v := 0) hx hb dX12_hide_41 (by decide) ?_
        obtain ⟨e0, e1⟩ := tx_in2 hf
        rw [← e0, ← e1]
        exact tx_zret S hr hlk (by decide) hw dX12_hide_42
      · replace hf := tx_neg hf h_9
        refine lv_aload_n hx hb dX12_hide_31 rfl (lv_at hl 0 rfl) ?_
        refine gf_X12_91 S hE hw 0 rfl rfl dX12_hide_32 ?_
        refine lv_iload_n hx hb dX12_hide_35 rfl (lv_at hl 1 rfl) ?_
        obtain ⟨h_10, hf⟩ := tx_ck_e hf
        refine tx_iald S hE hw 26 rfl h_10 dX12_hide_36 ?_
        refine lv_iload_n hx hb dX12_hide_37 rfl (lv_at hl 2 rfl) ?_
        refine lv_icmp_ne (tgt := 43) hx hb dX12_hide_38 (by decide) (fun h_11 => ?_) (fun h_11 => ?_)
        · replace hf := tx_neg hf h_11
          refine lv_aload_n hx hb dX12_hide_43 rfl (lv_at hl 0 rfl) ?_
          obtain ⟨u_T_13, h_12, hf⟩ := tx_b1_e hf
          refine tx_cv hw (tx_runV S hE hw (c_X12_remember h_12) lk_X12_471 (q0 := 0) rfl rfl rfl hl.1 (rest := []) rfl (Nat.le_of_ble_eq_true rfl) ⟨by decide, by decide⟩ dX12_hide_44 ⟨Nat.zero_le _, Nat.zero_le _⟩) (fun H locs hw => ?_)
          refine lv_aload_n hx hb dX12_hide_47 rfl (lv_at hl 0 rfl) ?_
          refine gf_X12_91 S hE hw 0 rfl rfl dX12_hide_48 ?_
          refine lv_iload_n hx hb dX12_hide_51 rfl (lv_at hl 1 rfl) ?_
          refine lv_iload_n hx hb dX12_hide_52 rfl (lv_at hl 2 rfl) ?_
          obtain ⟨h_14, hf⟩ := tx_ck_e hf
          obtain ⟨u_T_15, eu_T_15⟩ : ∃ z : S32, z = up2 u_T_13 51 x1.toNatClampNeg x2 := ⟨_, rfl⟩
          replace hf := tx_let_e hf eu_T_15
          refine tx_iast (ws' := cl_X12 g a_T u_T_15 v_T ++ X) S hE hw 26 rfl h_14 (by rw [eu_T_15]; rfl) dX12_hide_53 (fun H locs hw => ?_)
          refine lv_iconst (v := 1) hx hb dX12_hide_54 (by decide) ?_
          obtain ⟨e0, e1⟩ := tx_in2 hf
          rw [← e0, ← e1]
          exact tx_zret S hr hlk (by decide) hw dX12_hide_55
        · replace hf := tx_pos hf h_11
          refine lv_iconst (v := 0) hx hb dX12_hide_41 (by decide) ?_
          obtain ⟨e0, e1⟩ := tx_in2 hf
          rw [← e0, ← e1]
          exact tx_zret S hr hlk (by decide) hw dX12_hide_42
def f_X12_buy (fu : Nat) (v_T : S64) (u_T : S32) (x1 : Int32) (x2 : Int32) : Option (Int32 × S32) := tx_let (up2 u_T 0 2 (0 : Int32)) fun (u_T_1 : S32) => tx_b1 (f_X12_isMan fu u_T_1 v_T x1) fun (r_3 : Int32) => if r_3 = (0 : Int32) then (some ((-1 : Int32), u_T_1)) else (tx_b1 (f_X12_isIn fu x2 (1 : Int32) (9 : Int32)) fun (r_6 : Int32) => if r_6 = (0 : Int32) then (some ((-1 : Int32), u_T_1)) else (tx_ck x1 12 <| if ((u_T_1 56 x1.toNatClampNeg) + x2) ≤ (9 : Int32) then (tx_ck x1 12 <| if (x2 * (u_T_1 22 (1 : Int32).toNatClampNeg)) ≤ (u_T_1 53 x1.toNatClampNeg) then (tx_b1 (f_X12_remember fu v_T u_T_1) fun (u_T_13 : S32) => tx_ck x1 12 <| tx_ck x1 12 <| tx_let (up2 u_T_13 53 x1.toNatClampNeg ((u_T_13 53 x1.toNatClampNeg) - (x2 * (u_T_13 22 (1 : Int32).toNatClampNeg)))) fun (u_T_16 : S32) => tx_ck x1 12 <| tx_ck x1 12 <| tx_let (up2 u_T_16 56 x1.toNatClampNeg ((u_T_16 56 x1.toNatClampNeg) + x2)) fun (u_T_19 : S32) => tx_ck x1 12 <| some (u_T_19 56 x1.toNatClampNeg, u_T_19)) else (some ((-2 : Int32), u_T_1))) else (some ((-1 : Int32), u_T_1))))
set_option maxHeartbeats 4000000 in
set_option maxRecDepth 100000 in
theorem c_X12_buy {l : Launch} {g : GG} {A : Nat → Prop} {X : va_W} {fu : Nat} {a_T : Nat → Nat} {u_T : S32} {v_T : S64} {x1 : Int32} {x2 : Int32} {r : Int32} {zu_T : S32} (hf : f_X12_buy fu v_T u_T x1 x2 = some (r, zu_T)) : MI l yX12_buy cX12_buy 3 (some .int) 2 g A (cl_X12 g a_T u_T v_T ++ X) [.ref (a_T 0), .int x1, .int x2] r (cl_X12 g a_T zu_T v_T ++ X) := by
  refine tx_start (av := [.ref (a_T 0), .int x1, .int x2]) (by decide) (Nat.le_of_ble_eq_true rfl) ?_
  intro p e s m below meth c ls S hr hlk hE hw hl
  have S : CallFix p m c cX12_buy 3 s (List.toArray [.ref (a_T 0), .int x1, .int x2]) (Cond.code yX12_buy cX12_buy 3 (some .int) :: allW) RX12 := S
  have hx := S.1
  have hb := S.2.1
  have hown := S.2.2.2.1
  have hts : ∀ w ∈ allW, w.before (List.toArray [.ref (a_T 0), .int x1, .int x2]) s = true := fun w h => S.2.2.2.2 w (List.mem_cons_of_mem _ h)
  have hl : lv_has ls 3 [(0, .ref (a_T 0)), (1, .int x1), (2, .int x2)] := hl
  unfold f_X12_buy at hf
  refine lv_aload_n hx hb dX12_buy_0 rfl (lv_at hl 0 rfl) ?_
  refine lv_iconst (v := 0) hx hb dX12_buy_1 (by decide) ?_
  obtain ⟨u_T_1, eu_T_1⟩ : ∃ z : S32, z = up2 u_T 0 2 (0 : Int32) := ⟨_, rfl⟩
  replace hf := tx_let_e hf eu_T_1
  refine pf_X12_145 (ws' := cl_X12 g a_T u_T_1 v_T ++ X) S hE hw rfl rfl 0 rfl (Nat.le_of_ble_eq_true rfl) (by rw [eu_T_1]; rfl) dX12_buy_2 (fun H locs hw => ?_)
  refine lv_aload_n hx hb dX12_buy_5 rfl (lv_at hl 0 rfl) ?_
  refine lv_iload_n hx hb dX12_buy_6 rfl (lv_at hl 1 rfl) ?_
  obtain ⟨r_3, h_2, hf⟩ := tx_b1_e hf
  refine tx_ci hw (tx_runV S hE hw (c_X12_isMan h_2) lk_X12_460 (q0 := 0) rfl rfl rfl hl.1 (rest := []) rfl (Nat.le_of_ble_eq_true rfl) ⟨by decide, by decide⟩ dX12_buy_7 ⟨Nat.zero_le _, Nat.zero_le _⟩) (fun H locs hw => ?_)
  refine lv_if_eq (tgt := 36) hx hb dX12_buy_10 (by decide) (fun h_4 => ?_) (fun h_4 => ?_)
  · replace hf := tx_pos hf h_4
    refine lv_iconst (v := -1) hx hb dX12_buy_36 (by decide) ?_
    obtain ⟨e0, e1⟩ := tx_in2 hf
    rw [← e0, ← e1]
    exact tx_iret S hr hlk hw dX12_buy_37
  · replace hf := tx_neg hf h_4
    refine lv_iload_n hx hb dX12_buy_13 rfl (lv_at hl 2 rfl) ?_
    refine lv_iconst (v := 1) hx hb dX12_buy_14 (by decide) ?_
    refine lv_bipush (v := 9) hx hb dX12_buy_15 (by decide) ?_
    obtain ⟨r_6, h_5, hf⟩ := tx_b1_e hf
    refine tx_ci hw (tx_runS S hE hw (c_X12_isIn h_5) lk_X12_190 rfl hl.1 (rest := []) rfl (Nat.le_of_ble_eq_true rfl) ⟨by decide, by decide⟩ dX12_buy_17 ⟨Nat.zero_le _, Nat.zero_le _⟩) (fun H locs hw => ?_)
    refine lv_if_eq (tgt := 36) hx hb dX12_buy_20 (by decide) (fun h_7 => ?_) (fun h_7 => ?_)
    · replace hf := tx_pos hf h_7
      refine lv_iconst (v := -1) hx hb dX12_buy_36 (by decide) ?_
      obtain ⟨e0, e1⟩ := tx_in2 hf
      rw [← e0, ← e1]
      exact tx_iret S hr hlk hw dX12_buy_37
    · replace hf := tx_neg hf h_7
      refine lv_aload_n hx hb dX12_buy_23 rfl (lv_at hl 0 rfl) ?_
      refine gf_X12_106 S hE hw 0 rfl rfl dX12_buy_24 ?_
      refine lv_iload_n hx hb dX12_buy_27 rfl (lv_at hl 1 rfl) ?_
      obtain ⟨h_8, hf⟩ := tx_ck_e hf
      refine tx_iald S hE hw 31 rfl h_8 dX12_buy_28 ?_
      refine lv_iload_n hx hb dX12_buy_29 rfl (lv_at hl 2 rfl) ?_
      refine lv_iadd hx hb dX12_buy_30 ?_
      refine lv_bipush (v := 9) hx hb dX12_buy_31 (by decide) ?_
      refine lv_icmp_le (tgt := 38) hx hb dX12_buy_33 (by decide) (fun h_9 => ?_) (fun h_9 => ?_)
      · replace hf := tx_pos hf h_9
        refine lv_iload_n hx hb dX12_buy_38 rfl (lv_at hl 2 rfl) ?_
        refine lv_aload_n hx hb dX12_buy_39 rfl (lv_at hl 0 rfl) ?_
        refine gf_X12_24 S hE hw 0 rfl rfl dX12_buy_40 ?_
        refine lv_iconst (v := 1) hx hb dX12_buy_43 (by decide) ?_
        refine tx_iald S hE hw 4 rfl (by unfold vp_in; decide) dX12_buy_44 ?_
        refine lv_imul hx hb dX12_buy_45 ?_
        refine lv_aload_n hx hb dX12_buy_46 rfl (lv_at hl 0 rfl) ?_
        refine gf_X12_97 S hE hw 0 rfl rfl dX12_buy_47 ?_
        refine lv_iload_n hx hb dX12_buy_50 rfl (lv_at hl 1 rfl) ?_
        obtain ⟨h_10, hf⟩ := tx_ck_e hf
        refine tx_iald S hE hw 28 rfl h_10 dX12_buy_51 ?_
        refine lv_icmp_le (tgt := 58) hx hb dX12_buy_52 (by decide) (fun h_11 => ?_) (fun h_11 => ?_)
        · replace hf := tx_pos hf h_11
          refine lv_aload_n hx hb dX12_buy_58 rfl (lv_at hl 0 rfl) ?_
          obtain ⟨u_T_13, h_12, hf⟩ := tx_b1_e hf
          refine tx_cv hw (tx_runV S hE hw (c_X12_remember h_12) lk_X12_471 (q0 := 0) rfl rfl rfl hl.1 (rest := []) rfl (Nat.le_of_ble_eq_true rfl) ⟨by decide, by decide⟩ dX12_buy_59 ⟨Nat.zero_le _, Nat.zero_le _⟩) (fun H locs hw => ?_)
          refine lv_aload_n hx hb dX12_buy_62 rfl (lv_at hl 0 rfl) ?_
          refine gf_X12_97 S hE hw 0 rfl rfl dX12_buy_63 ?_
          refine lv_iload_n hx hb dX12_buy_66 rfl (lv_at hl 1 rfl) ?_
          refine lv_dup2_11 hx hb dX12_buy_67 rfl rfl ?_
          obtain ⟨h_14, hf⟩ := tx_ck_e hf
          refine tx_iald S hE hw 28 rfl h_14 dX12_buy_68 ?_
          refine lv_iload_n hx hb dX12_buy_69 rfl (lv_at hl 2 rfl) ?_
          refine lv_aload_n hx hb dX12_buy_70 rfl (lv_at hl 0 rfl) ?_
          refine gf_X12_24 S hE hw 0 rfl rfl dX12_buy_71 ?_
          refine lv_iconst (v := 1) hx hb dX12_buy_74 (by decide) ?_
          refine tx_iald S hE hw 4 rfl (by unfold vp_in; decide) dX12_buy_75 ?_
          refine lv_imul hx hb dX12_buy_76 ?_
          refine lv_isub hx hb dX12_buy_77 ?_
          obtain ⟨h_15, hf⟩ := tx_ck_e hf
          obtain ⟨u_T_16, eu_T_16⟩ : ∃ z : S32, z = up2 u_T_13 53 x1.toNatClampNeg ((u_T_13 53 x1.toNatClampNeg) - (x2 * (u_T_13 22 (1 : Int32).toNatClampNeg))) := ⟨_, rfl⟩
          replace hf := tx_let_e hf eu_T_16
          refine tx_iast (ws' := cl_X12 g a_T u_T_16 v_T ++ X) S hE hw 28 rfl h_15 (by rw [eu_T_16]; rfl) dX12_buy_78 (fun H locs hw => ?_)
          refine lv_aload_n hx hb dX12_buy_79 rfl (lv_at hl 0 rfl) ?_
          refine gf_X12_106 S hE hw 0 rfl rfl dX12_buy_80 ?_
          refine lv_iload_n hx hb dX12_buy_83 rfl (lv_at hl 1 rfl) ?_
          refine lv_dup2_11 hx hb dX12_buy_84 rfl rfl ?_
          obtain ⟨h_17, hf⟩ := tx_ck_e hf
          refine tx_iald S hE hw 31 rfl h_17 dX12_buy_85 ?_
          refine lv_iload_n hx hb dX12_buy_86 rfl (lv_at hl 2 rfl) ?_
          refine lv_iadd hx hb dX12_buy_87 ?_
          obtain ⟨h_18, hf⟩ := tx_ck_e hf
          obtain ⟨u_T_19, eu_T_19⟩ : ∃ z : S32, z = up2 u_T_16 56 x1.toNatClampNeg ((u_T_16 56 x1.toNatClampNeg) + x2) := ⟨_, rfl⟩
          replace hf := tx_let_e hf eu_T_19
          refine tx_iast (ws' := cl_X12 g a_T u_T_19 v_T ++ X) S hE hw 31 rfl h_18 (by rw [eu_T_19]; rfl) dX12_buy_88 (fun H locs hw => ?_)
          refine lv_aload_n hx hb dX12_buy_89 rfl (lv_at hl 0 rfl) ?_
          refine gf_X12_106 S hE hw 0 rfl rfl dX12_buy_90 ?_
          refine lv_iload_n hx hb dX12_buy_93 rfl (lv_at hl 1 rfl) ?_
          obtain ⟨h_20, hf⟩ := tx_ck_e hf
          refine tx_iald S hE hw 31 rfl h_20 dX12_buy_94 ?_
          obtain ⟨e0, e1⟩ := tx_in2 hf
          rw [← e0, ← e1]
          exact tx_iret S hr hlk hw dX12_buy_95
        · replace hf := tx_neg hf h_11
          refine lv_bipush (v := -2) hx hb dX12_buy_55 (by decide) ?_
          obtain ⟨e0, e1⟩ := tx_in2 hf
          rw [← e0, ← e1]
          exact tx_iret S hr hlk hw dX12_buy_57
      · replace hf := tx_neg hf h_9
        refine lv_iconst (v := -1) hx hb dX12_buy_36 (by decide) ?_
        obtain ⟨e0, e1⟩ := tx_in2 hf
        rw [← e0, ← e1]
        exact tx_iret S hr hlk hw dX12_buy_37
def f_X12_round (fu : Nat) (v_T : S64) (u_T : S32) (x1 : Int32) (x2 : Int32) : Option (Int32 × S32) := tx_let (up2 u_T 0 2 (0 : Int32)) fun (u_T_1 : S32) => tx_b1 (f_X12_isMan fu u_T_1 v_T x1) fun (r_3 : Int32) => if r_3 = (0 : Int32) then (some ((0 : Int32), u_T_1)) else (tx_b1 (f_X12_isReader fu u_T_1 v_T x2) fun (r_6 : Int32) => if r_6 = (0 : Int32) then (some ((0 : Int32), u_T_1)) else (tx_ck x1 12 <| if (u_T_1 57 x1.toNatClampNeg) = x2 then (some ((0 : Int32), u_T_1)) else (tx_b1 (f_X12_remember fu v_T u_T_1) fun (u_T_11 : S32) => tx_ck x1 12 <| tx_let (up2 u_T_11 57 x1.toNatClampNeg x2) fun (u_T_13 : S32) => some ((1 : Int32), u_T_13))))
set_option maxHeartbeats 4000000 in
set_option maxRecDepth 100000 in
theorem c_X12_round {l : Launch} {g : GG} {A : Nat → Prop} {X : va_W} {fu : Nat} {a_T : Nat → Nat} {u_T : S32} {v_T : S64} {x1 : Int32} {x2 : Int32} {r : Int32} {zu_T : S32} (hf : f_X12_round fu v_T u_T x1 x2 = some (r, zu_T)) : MI l yX12_round cX12_round 3 (some .boolean) 2 g A (cl_X12 g a_T u_T v_T ++ X) [.ref (a_T 0), .int x1, .int x2] r (cl_X12 g a_T zu_T v_T ++ X) := by
  refine tx_start (av := [.ref (a_T 0), .int x1, .int x2]) (by decide) (Nat.le_of_ble_eq_true rfl) ?_
  intro p e s m below meth c ls S hr hlk hE hw hl
  have S : CallFix p m c cX12_round 3 s (List.toArray [.ref (a_T 0), .int x1, .int x2]) (Cond.code yX12_round cX12_round 3 (some .boolean) :: allW) RX12 := S
  have hx := S.1
  have hb := S.2.1
  have hown := S.2.2.2.1
  have hts : ∀ w ∈ allW, w.before (List.toArray [.ref (a_T 0), .int x1, .int x2]) s = true := fun w h => S.2.2.2.2 w (List.mem_cons_of_mem _ h)
  have hl : lv_has ls 3 [(0, .ref (a_T 0)), (1, .int x1), (2, .int x2)] := hl
  unfold f_X12_round at hf
  refine lv_aload_n hx hb dX12_round_0 rfl (lv_at hl 0 rfl) ?_
  refine lv_iconst (v := 0) hx hb dX12_round_1 (by decide) ?_
  obtain ⟨u_T_1, eu_T_1⟩ : ∃ z : S32, z = up2 u_T 0 2 (0 : Int32) := ⟨_, rfl⟩
  replace hf := tx_let_e hf eu_T_1
  refine pf_X12_145 (ws' := cl_X12 g a_T u_T_1 v_T ++ X) S hE hw rfl rfl 0 rfl (Nat.le_of_ble_eq_true rfl) (by rw [eu_T_1]; rfl) dX12_round_2 (fun H locs hw => ?_)
  refine lv_aload_n hx hb dX12_round_5 rfl (lv_at hl 0 rfl) ?_
  refine lv_iload_n hx hb dX12_round_6 rfl (lv_at hl 1 rfl) ?_
  obtain ⟨r_3, h_2, hf⟩ := tx_b1_e hf
  refine tx_ci hw (tx_runV S hE hw (c_X12_isMan h_2) lk_X12_460 (q0 := 0) rfl rfl rfl hl.1 (rest := []) rfl (Nat.le_of_ble_eq_true rfl) ⟨by decide, by decide⟩ dX12_round_7 ⟨Nat.zero_le _, Nat.zero_le _⟩) (fun H locs hw => ?_)
  refine lv_if_eq (tgt := 31) hx hb dX12_round_10 (by decide) (fun h_4 => ?_) (fun h_4 => ?_)
  · replace hf := tx_pos hf h_4
    refine lv_iconst (v := 0) hx hb dX12_round_31 (by decide) ?_
    obtain ⟨e0, e1⟩ := tx_in2 hf
    rw [← e0, ← e1]
    exact tx_zret S hr hlk (by decide) hw dX12_round_32
  · replace hf := tx_neg hf h_4
    refine lv_aload_n hx hb dX12_round_13 rfl (lv_at hl 0 rfl) ?_
    refine lv_iload_n hx hb dX12_round_14 rfl (lv_at hl 2 rfl) ?_
    obtain ⟨r_6, h_5, hf⟩ := tx_b1_e hf
    refine tx_ci hw (tx_runV S hE hw (c_X12_isReader h_5) lk_X12_463 (q0 := 0) rfl rfl rfl hl.1 (rest := []) rfl (Nat.le_of_ble_eq_true rfl) ⟨by decide, by decide⟩ dX12_round_15 ⟨Nat.zero_le _, Nat.zero_le _⟩) (fun H locs hw => ?_)
    refine lv_if_eq (tgt := 31) hx hb dX12_round_18 (by decide) (fun h_7 => ?_) (fun h_7 => ?_)
    · replace hf := tx_pos hf h_7
      refine lv_iconst (v := 0) hx hb dX12_round_31 (by decide) ?_
      obtain ⟨e0, e1⟩ := tx_in2 hf
      rw [← e0, ← e1]
      exact tx_zret S hr hlk (by decide) hw dX12_round_32
    · replace hf := tx_neg hf h_7
      refine lv_aload_n hx hb dX12_round_21 rfl (lv_at hl 0 rfl) ?_
      refine gf_X12_109 S hE hw 0 rfl rfl dX12_round_22 ?_
      refine lv_iload_n hx hb dX12_round_25 rfl (lv_at hl 1 rfl) ?_
      obtain ⟨h_8, hf⟩ := tx_ck_e hf
      refine tx_iald S hE hw 32 rfl h_8 dX12_round_26 ?_
      refine lv_iload_n hx hb dX12_round_27 rfl (lv_at hl 2 rfl) ?_
      refine lv_icmp_ne (tgt := 33) hx hb dX12_round_28 (by decide) (fun h_9 => ?_) (fun h_9 => ?_)
      · replace hf := tx_neg hf h_9
        refine lv_aload_n hx hb dX12_round_33 rfl (lv_at hl 0 rfl) ?_
        obtain ⟨u_T_11, h_10, hf⟩ := tx_b1_e hf
        refine tx_cv hw (tx_runV S hE hw (c_X12_remember h_10) lk_X12_471 (q0 := 0) rfl rfl rfl hl.1 (rest := []) rfl (Nat.le_of_ble_eq_true rfl) ⟨by decide, by decide⟩ dX12_round_34 ⟨Nat.zero_le _, Nat.zero_le _⟩) (fun H locs hw => ?_)
        refine lv_aload_n hx hb dX12_round_37 rfl (lv_at hl 0 rfl) ?_
        refine gf_X12_109 S hE hw 0 rfl rfl dX12_round_38 ?_
        refine lv_iload_n hx hb dX12_round_41 rfl (lv_at hl 1 rfl) ?_
        refine lv_iload_n hx hb dX12_round_42 rfl (lv_at hl 2 rfl) ?_
        obtain ⟨h_12, hf⟩ := tx_ck_e hf
        obtain ⟨u_T_13, eu_T_13⟩ : ∃ z : S32, z = up2 u_T_11 57 x1.toNatClampNeg x2 := ⟨_, rfl⟩
        replace hf := tx_let_e hf eu_T_13
        refine tx_iast (ws' := cl_X12 g a_T u_T_13 v_T ++ X) S hE hw 32 rfl h_12 (by rw [eu_T_13]; rfl) dX12_round_43 (fun H locs hw => ?_)
        refine lv_iconst (v := 1) hx hb dX12_round_44 (by decide) ?_
        obtain ⟨e0, e1⟩ := tx_in2 hf
        rw [← e0, ← e1]
        exact tx_zret S hr hlk (by decide) hw dX12_round_45
      · replace hf := tx_pos hf h_9
        refine lv_iconst (v := 0) hx hb dX12_round_31 (by decide) ?_
        obtain ⟨e0, e1⟩ := tx_in2 hf
        rw [← e0, ← e1]
        exact tx_zret S hr hlk (by decide) hw dX12_round_32
def f_X12_rate (fu : Nat) (v_T : S64) (u_T : S32) (x1 : Int32) : Option (Int32 × S32) := tx_let (up2 u_T 0 2 (0 : Int32)) fun (u_T_1 : S32) => tx_b1 (f_X12_isIn fu x1 (0 : Int32) (100 : Int32)) fun (r_3 : Int32) => if r_3 = (0 : Int32) then (some ((0 : Int32), u_T_1)) else (if (u_T_1 58 (0 : Int32).toNatClampNeg) = x1 then (some ((0 : Int32), u_T_1)) else (tx_b1 (f_X12_remember fu v_T u_T_1) fun (u_T_7 : S32) => tx_let (up2 u_T_7 58 (0 : Int32).toNatClampNeg x1) fun (u_T_8 : S32) => some ((1 : Int32), u_T_8)))
set_option maxHeartbeats 4000000 in
set_option maxRecDepth 100000 in
theorem c_X12_rate {l : Launch} {g : GG} {A : Nat → Prop} {X : va_W} {fu : Nat} {a_T : Nat → Nat} {u_T : S32} {v_T : S64} {x1 : Int32} {r : Int32} {zu_T : S32} (hf : f_X12_rate fu v_T u_T x1 = some (r, zu_T)) : MI l yX12_rate cX12_rate 2 (some .boolean) 2 g A (cl_X12 g a_T u_T v_T ++ X) [.ref (a_T 0), .int x1] r (cl_X12 g a_T zu_T v_T ++ X) := by
  refine tx_start (av := [.ref (a_T 0), .int x1]) (by decide) (Nat.le_of_ble_eq_true rfl) ?_
  intro p e s m below meth c ls S hr hlk hE hw hl
  have S : CallFix p m c cX12_rate 2 s (List.toArray [.ref (a_T 0), .int x1]) (Cond.code yX12_rate cX12_rate 2 (some .boolean) :: allW) RX12 := S
  have hx := S.1
  have hb := S.2.1
  have hown := S.2.2.2.1
  have hts : ∀ w ∈ allW, w.before (List.toArray [.ref (a_T 0), .int x1]) s = true := fun w h => S.2.2.2.2 w (List.mem_cons_of_mem _ h)
  have hl : lv_has ls 2 [(0, .ref (a_T 0)), (1, .int x1)] := hl
  unfold f_X12_rate at hf
  refine lv_aload_n hx hb dX12_rate_0 rfl (lv_at hl 0 rfl) ?_
  refine lv_iconst (v := 0) hx hb dX12_rate_1 (by decide) ?_
  obtain ⟨u_T_1, eu_T_1⟩ : ∃ z : S32, z = up2 u_T 0 2 (0 : Int32) := ⟨_, rfl⟩
  replace hf := tx_let_e hf eu_T_1
  refine pf_X12_145 (ws' := cl_X12 g a_T u_T_1 v_T ++ X) S hE hw rfl rfl 0 rfl (Nat.le_of_ble_eq_true rfl) (by rw [eu_T_1]; rfl) dX12_rate_2 (fun H locs hw => ?_)
  refine lv_iload_n hx hb dX12_rate_5 rfl (lv_at hl 1 rfl) ?_
  refine lv_iconst (v := 0) hx hb dX12_rate_6 (by decide) ?_
  refine lv_bipush (v := 100) hx hb dX12_rate_7 (by decide) ?_
  obtain ⟨r_3, h_2, hf⟩ := tx_b1_e hf
  refine tx_ci hw (tx_runS S hE hw (c_X12_isIn h_2) lk_X12_190 rfl hl.1 (rest := []) rfl (Nat.le_of_ble_eq_true rfl) ⟨by decide, by decide⟩ dX12_rate_9 ⟨Nat.zero_le _, Nat.zero_le _⟩) (fun H locs hw => ?_)
  refine lv_if_eq (tgt := 25) hx hb dX12_rate_12 (by decide) (fun h_4 => ?_) (fun h_4 => ?_)
  · replace hf := tx_pos hf h_4
    refine lv_iconst (v := 0) hx hb dX12_rate_25 (by decide) ?_
    obtain ⟨e0, e1⟩ := tx_in2 hf
    rw [← e0, ← e1]
    exact tx_zret S hr hlk (by decide) hw dX12_rate_26
  · replace hf := tx_neg hf h_4
    refine lv_aload_n hx hb dX12_rate_15 rfl (lv_at hl 0 rfl) ?_
    refine gf_X12_112 S hE hw 0 rfl rfl dX12_rate_16 ?_
    refine lv_iconst (v := 0) hx hb dX12_rate_19 (by decide) ?_
    refine tx_iald S hE hw 33 rfl (by unfold vp_in; decide) dX12_rate_20 ?_
    refine lv_iload_n hx hb dX12_rate_21 rfl (lv_at hl 1 rfl) ?_
    refine lv_icmp_ne (tgt := 27) hx hb dX12_rate_22 (by decide) (fun h_5 => ?_) (fun h_5 => ?_)
    · replace hf := tx_neg hf h_5
      refine lv_aload_n hx hb dX12_rate_27 rfl (lv_at hl 0 rfl) ?_
      obtain ⟨u_T_7, h_6, hf⟩ := tx_b1_e hf
      refine tx_cv hw (tx_runV S hE hw (c_X12_remember h_6) lk_X12_471 (q0 := 0) rfl rfl rfl hl.1 (rest := []) rfl (Nat.le_of_ble_eq_true rfl) ⟨by decide, by decide⟩ dX12_rate_28 ⟨Nat.zero_le _, Nat.zero_le _⟩) (fun H locs hw => ?_)
      refine lv_aload_n hx hb dX12_rate_31 rfl (lv_at hl 0 rfl) ?_
      refine gf_X12_112 S hE hw 0 rfl rfl dX12_rate_32 ?_
      refine lv_iconst (v := 0) hx hb dX12_rate_35 (by decide) ?_
      refine lv_iload_n hx hb dX12_rate_36 rfl (lv_at hl 1 rfl) ?_
      obtain ⟨u_T_8, eu_T_8⟩ : ∃ z : S32, z = up2 u_T_7 58 (0 : Int32).toNatClampNeg x1 := ⟨_, rfl⟩
      replace hf := tx_let_e hf eu_T_8
      refine tx_iast (ws' := cl_X12 g a_T u_T_8 v_T ++ X) S hE hw 33 rfl (by unfold vp_in; decide) (by rw [eu_T_8]; rfl) dX12_rate_37 (fun H locs hw => ?_)
      refine lv_iconst (v := 1) hx hb dX12_rate_38 (by decide) ?_
      obtain ⟨e0, e1⟩ := tx_in2 hf
      rw [← e0, ← e1]
      exact tx_zret S hr hlk (by decide) hw dX12_rate_39
    · replace hf := tx_pos hf h_5
      refine lv_iconst (v := 0) hx hb dX12_rate_25 (by decide) ?_
      obtain ⟨e0, e1⟩ := tx_in2 hf
      rw [← e0, ← e1]
      exact tx_zret S hr hlk (by decide) hw dX12_rate_26
def f_X12_weeks_J76 (fu : Nat) (u_T : S32) (v_T : S64) (t1 : Int32) : Option (Int32 × S32 × S64) := tx_let (up2 u_T 0 75 t1) fun (u_T_16 : S32) => some (u_T_16 59 (0 : Int32).toNatClampNeg, u_T_16, v_T)
def f_X12_weeks_J42 (fu : Nat) (K42 : S32 → S64 → Int32 → Int32 → Option (Int32 × S32 × S64)) (u_T : S32) (v_T : S64) (w1 : Int32) (w2 : Int32) : Option (Int32 × S32 × S64) := if w1 ≤ w2 then (tx_let (up2 u_T 0 61 (0 : Int32)) fun (u_T_10 : S32) => if w1 ≤ (0 : Int32) then (f_X12_weeks_J76 fu u_T_10 v_T (u_T_10 0 75)) else (f_X12_weeks_J76 fu u_T_10 v_T (0 : Int32))) else (tx_b2 (f_X12_weekGoes fu u_T v_T (0 : Int32)) fun (u_T_13 : S32) (v_T_14 : S64) => tx_let (w2 + (1 : Int32)) fun (y_15 : Int32) => K42 u_T_13 v_T_14 w1 y_15)
def f_X12_weeks_L42 (fu : Nat) : Nat → S32 → S64 → Int32 → Int32 → Option (Int32 × S32 × S64)
  | 0 => fun _ _ _ _ => none
  | n + 1 => f_X12_weeks_J42 fu (f_X12_weeks_L42 fu n)
def f_X12_weeks (fu : Nat) (u_T : S32) (v_T : S64) (x1 : Int32) : Option (Int32 × S32 × S64) := tx_let (up2 u_T 0 2 (0 : Int32)) fun (u_T_1 : S32) => tx_b1 (f_X12_isIn fu x1 (0 : Int32) (99 : Int32)) fun (r_3 : Int32) => if r_3 = (0 : Int32) then (some ((-1 : Int32), u_T_1, v_T)) else (if ((u_T_1 59 (0 : Int32).toNatClampNeg) + x1) ≤ (9900 : Int32) then (tx_b1 (f_X12_plainTried fu v_T u_T_1) fun (u_T_7 : S32) => tx_let (up2 u_T_7 0 61 (1 : Int32)) fun (u_T_8 : S32) => f_X12_weeks_L42 fu fu u_T_8 v_T x1 (0 : Int32)) else (some ((-1 : Int32), u_T_1, v_T)))
set_option maxHeartbeats 4000000 in
set_option maxRecDepth 100000 in
theorem c_X12_weeks {l : Launch} {g : GG} {A : Nat → Prop} {X : va_W} {fu : Nat} {a_T : Nat → Nat} {u_T : S32} {v_T : S64} {x1 : Int32} {r : Int32} {zu_T : S32} {zv_T : S64} (hf : f_X12_weeks fu  u_T v_T x1 = some (r, zu_T, zv_T)) : MI l yX12_weeks cX12_weeks 3 (some .int) 8 g A (cl_X12 g a_T u_T v_T ++ X) [.ref (a_T 0), .int x1] r (cl_X12 g a_T zu_T zv_T ++ X) := by
  refine tx_start (av := [.ref (a_T 0), .int x1]) (by decide) (Nat.le_of_ble_eq_true rfl) ?_
  intro p e s m below meth c ls S hr hlk hE hw hl
  have S : CallFix p m c cX12_weeks 3 s (List.toArray [.ref (a_T 0), .int x1]) (Cond.code yX12_weeks cX12_weeks 3 (some .int) :: allW) RX12 := S
  have hx := S.1
  have hb := S.2.1
  have hown := S.2.2.2.1
  have hts : ∀ w ∈ allW, w.before (List.toArray [.ref (a_T 0), .int x1]) s = true := fun w h => S.2.2.2.2 w (List.mem_cons_of_mem _ h)
  have hl : lv_has ls 3 [(0, .ref (a_T 0)), (1, .int x1)] := hl
  have J76 : ∀ {u_T : S32} {v_T : S64} {t1 : Int32} {H : Heap} {locs : List Loc} {ls : Array Slot}, f_X12_weeks_J76 fu u_T v_T t1 = some (r, zu_T, zv_T) → WD g A s.heap (cl_X12 g a_T u_T v_T ++ X) H locs → lv_has ls 3 [(0, .ref (a_T 0))] → W p l e (rmH 8) s m (List.toArray [.ref (a_T 0), .int x1]) below meth c H locs 0 0 (MQ below (va_Qi (fun r2 (_ : Unit) => r2 = r) (fun _ t => POST g A (cl_X12 g a_T zu_T zv_T ++ X) t) A) (List.toArray [.ref (a_T 0), .int x1]) s 0 0 A) (F0 m 76 ls [.int t1, .ref (a_T 0)]) := by
    intro u_T v_T t1 H locs ls hf hw hl
    unfold f_X12_weeks_J76 at hf
    obtain ⟨u_T_16, eu_T_16⟩ : ∃ z : S32, z = up2 u_T 0 75 t1 := ⟨_, rfl⟩
    replace hf := tx_let_e hf eu_T_16
    refine pf_X12_350 (ws' := cl_X12 g a_T u_T_16 v_T ++ X) S hE hw rfl rfl 0 rfl (Nat.le_of_ble_eq_true rfl) (by rw [eu_T_16]; rfl) dX12_weeks_76 (fun H locs hw => ?_)
    refine lv_aload_n hx hb dX12_weeks_79 rfl (lv_at hl 0 rfl) ?_
    refine gf_X12_115 S hE hw 0 rfl rfl dX12_weeks_80 ?_
    refine lv_iconst (v := 0) hx hb dX12_weeks_83 (by decide) ?_
    refine tx_iald S hE hw 34 rfl (by unfold vp_in; decide) dX12_weeks_84 ?_
    obtain ⟨e0, e1, e2⟩ := tx_in3 hf
    rw [← e0, ← e1, ← e2]
    exact tx_iret S hr hlk hw dX12_weeks_85
  have J42 : ∀ {K42 : S32 → S64 → Int32 → Int32 → Option (Int32 × S32 × S64)} (hK42 : ∀ {u_T : S32} {v_T : S64} {w1 : Int32} {w2 : Int32} {H : Heap} {locs : List Loc} {ls : Array Slot}, K42 u_T v_T w1 w2 = some (r, zu_T, zv_T) → WD g A s.heap (cl_X12 g a_T u_T v_T ++ X) H locs → lv_has ls 3 [(0, .ref (a_T 0)), (1, .int w1), (2, .int w2)] → W p l e (rmH 8) s m (List.toArray [.ref (a_T 0), .int x1]) below meth c H locs 0 0 (MQ below (va_Qi (fun r2 (_ : Unit) => r2 = r) (fun _ t => POST g A (cl_X12 g a_T zu_T zv_T ++ X) t) A) (List.toArray [.ref (a_T 0), .int x1]) s 0 0 A) (F0 m 42 ls [])), ∀ {u_T : S32} {v_T : S64} {w1 : Int32} {w2 : Int32} {H : Heap} {locs : List Loc} {ls : Array Slot}, f_X12_weeks_J42 fu K42 u_T v_T w1 w2 = some (r, zu_T, zv_T) → WD g A s.heap (cl_X12 g a_T u_T v_T ++ X) H locs → lv_has ls 3 [(0, .ref (a_T 0)), (1, .int w1), (2, .int w2)] → W p l e (rmH 8) s m (List.toArray [.ref (a_T 0), .int x1]) below meth c H locs 0 0 (MQ below (va_Qi (fun r2 (_ : Unit) => r2 = r) (fun _ t => POST g A (cl_X12 g a_T zu_T zv_T ++ X) t) A) (List.toArray [.ref (a_T 0), .int x1]) s 0 0 A) (F0 m 42 ls []) := by
    intro K42 hK42 u_T v_T w1 w2 H locs ls hf hw hl
    unfold f_X12_weeks_J42 at hf
    refine lv_iload_n hx hb dX12_weeks_42 rfl (lv_at hl 2 rfl) ?_
    refine lv_iload_n hx hb dX12_weeks_43 rfl (lv_at hl 1 rfl) ?_
    refine lv_icmp_ge (tgt := 58) hx hb dX12_weeks_44 (by decide) (fun h_9 => ?_) (fun h_9 => ?_)
    · replace hf := tx_pos hf h_9
      refine lv_aload_n hx hb dX12_weeks_58 rfl (lv_at hl 0 rfl) ?_
      refine lv_iconst (v := 0) hx hb dX12_weeks_59 (by decide) ?_
      obtain ⟨u_T_10, eu_T_10⟩ : ∃ z : S32, z = up2 u_T 0 61 (0 : Int32) := ⟨_, rfl⟩
      replace hf := tx_let_e hf eu_T_10
      refine pf_X12_356 (ws' := cl_X12 g a_T u_T_10 v_T ++ X) S hE hw (by decide) (by decide) 0 rfl (Nat.le_of_ble_eq_true rfl) (by rw [eu_T_10]; rfl) dX12_weeks_60 (fun H locs hw => ?_)
      refine lv_aload_n hx hb dX12_weeks_63 rfl (lv_at hl 0 rfl) ?_
      refine lv_iload_n hx hb dX12_weeks_64 rfl (lv_at hl 1 rfl) ?_
      refine lv_if_le (tgt := 72) hx hb dX12_weeks_65 (by decide) (fun h_11 => ?_) (fun h_11 => ?_)
      · replace hf := tx_pos hf h_11
        refine lv_aload_n hx hb dX12_weeks_72 rfl (lv_at hl 0 rfl) ?_
        refine gf_X12_350 S hE hw 0 rfl rfl dX12_weeks_73 ?_
        exact J76 hf hw (lv_sub hl [0] rfl)
      · replace hf := tx_neg hf h_11
        refine lv_iconst (v := 0) hx hb dX12_weeks_68 (by decide) ?_
        refine lv_goto (tgt := 76) hx hb dX12_weeks_69 (by decide) ?_
        exact J76 hf hw (lv_sub hl [0] rfl)
    · replace hf := tx_neg hf h_9
      refine lv_aload_n hx hb dX12_weeks_47 rfl (lv_at hl 0 rfl) ?_
      refine lv_iconst (v := 0) hx hb dX12_weeks_48 (by decide) ?_
      obtain ⟨u_T_13, v_T_14, h_12, hf⟩ := tx_b2_e hf
      refine tx_cv hw (tx_runV S hE hw (c_X12_weekGoes h_12) lk_X12_445 (q0 := 0) rfl rfl rfl hl.1 (rest := []) rfl (Nat.le_of_ble_eq_true rfl) ⟨by decide, by decide⟩ dX12_weeks_49 ⟨Nat.zero_le _, Nat.zero_le _⟩) (fun H locs hw => ?_)
      obtain ⟨y_15, ey_15⟩ : ∃ y : Int32, y = w2 + (1 : Int32) := ⟨_, rfl⟩
      replace hf := tx_let_e hf ey_15
      refine lv_iinc (v := y_15) (lv' := [(2, .int y_15), (0, .ref (a_T 0)), (1, .int w1)]) hx hb dX12_weeks_52 hl (k := 2) rfl (by rw [ey_15]; rfl) (by decide) rfl (fun ls hl => ?_)
      refine lv_goto (tgt := 42) hx hb dX12_weeks_55 (by decide) ?_
      exact hK42 hf hw (lv_sub hl [1, 2, 0] rfl)
  have L42 : ∀ (n : Nat), ∀ {u_T : S32} {v_T : S64} {w1 : Int32} {w2 : Int32} {H : Heap} {locs : List Loc} {ls : Array Slot}, f_X12_weeks_L42 fu n u_T v_T w1 w2 = some (r, zu_T, zv_T) → WD g A s.heap (cl_X12 g a_T u_T v_T ++ X) H locs → lv_has ls 3 [(0, .ref (a_T 0)), (1, .int w1), (2, .int w2)] → W p l e (rmH 8) s m (List.toArray [.ref (a_T 0), .int x1]) below meth c H locs 0 0 (MQ below (va_Qi (fun r2 (_ : Unit) => r2 = r) (fun _ t => POST g A (cl_X12 g a_T zu_T zv_T ++ X) t) A) (List.toArray [.ref (a_T 0), .int x1]) s 0 0 A) (F0 m 42 ls []) := by
    intro  n
    induction n with
    | zero => intro u_T v_T w1 w2 H locs ls hf; exact absurd hf (by intro q; cases q)
    | succ n ih => exact fun hf hw hl => J42 ih hf hw hl
  unfold f_X12_weeks at hf
  refine lv_aload_n hx hb dX12_weeks_0 rfl (lv_at hl 0 rfl) ?_
  refine lv_iconst (v := 0) hx hb dX12_weeks_1 (by decide) ?_
  obtain ⟨u_T_1, eu_T_1⟩ : ∃ z : S32, z = up2 u_T 0 2 (0 : Int32) := ⟨_, rfl⟩
  replace hf := tx_let_e hf eu_T_1
  refine pf_X12_145 (ws' := cl_X12 g a_T u_T_1 v_T ++ X) S hE hw rfl rfl 0 rfl (Nat.le_of_ble_eq_true rfl) (by rw [eu_T_1]; rfl) dX12_weeks_2 (fun H locs hw => ?_)
  refine lv_iload_n hx hb dX12_weeks_5 rfl (lv_at hl 1 rfl) ?_
  refine lv_iconst (v := 0) hx hb dX12_weeks_6 (by decide) ?_
  refine lv_bipush (v := 99) hx hb dX12_weeks_7 (by decide) ?_
  obtain ⟨r_3, h_2, hf⟩ := tx_b1_e hf
  refine tx_ci hw (tx_runS S hE hw (c_X12_isIn h_2) lk_X12_190 rfl hl.1 (rest := []) rfl (Nat.le_of_ble_eq_true rfl) ⟨by decide, by decide⟩ dX12_weeks_9 ⟨Nat.zero_le _, Nat.zero_le _⟩) (fun H locs hw => ?_)
  refine lv_if_eq (tgt := 29) hx hb dX12_weeks_12 (by decide) (fun h_4 => ?_) (fun h_4 => ?_)
  · replace hf := tx_pos hf h_4
    refine lv_iconst (v := -1) hx hb dX12_weeks_29 (by decide) ?_
    obtain ⟨e0, e1, e2⟩ := tx_in3 hf
    rw [← e0, ← e1, ← e2]
    exact tx_iret S hr hlk hw dX12_weeks_30
  · replace hf := tx_neg hf h_4
    refine lv_aload_n hx hb dX12_weeks_15 rfl (lv_at hl 0 rfl) ?_
    refine gf_X12_115 S hE hw 0 rfl rfl dX12_weeks_16 ?_
    refine lv_iconst (v := 0) hx hb dX12_weeks_19 (by decide) ?_
    refine tx_iald S hE hw 34 rfl (by unfold vp_in; decide) dX12_weeks_20 ?_
    refine lv_iload_n hx hb dX12_weeks_21 rfl (lv_at hl 1 rfl) ?_
    refine lv_iadd hx hb dX12_weeks_22 ?_
    refine lv_sipush (v := 9900) hx hb dX12_weeks_23 (by decide) ?_
    refine lv_icmp_le (tgt := 31) hx hb dX12_weeks_26 (by decide) (fun h_5 => ?_) (fun h_5 => ?_)
    · replace hf := tx_pos hf h_5
      refine lv_aload_n hx hb dX12_weeks_31 rfl (lv_at hl 0 rfl) ?_
      obtain ⟨u_T_7, h_6, hf⟩ := tx_b1_e hf
      refine tx_cv hw (tx_runV S hE hw (c_X12_plainTried h_6) lk_X12_344 (q0 := 0) rfl rfl rfl hl.1 (rest := []) rfl (Nat.le_of_ble_eq_true rfl) ⟨by decide, by decide⟩ dX12_weeks_32 ⟨Nat.zero_le _, Nat.zero_le _⟩) (fun H locs hw => ?_)
      refine lv_aload_n hx hb dX12_weeks_35 rfl (lv_at hl 0 rfl) ?_
      refine lv_iconst (v := 1) hx hb dX12_weeks_36 (by decide) ?_
      obtain ⟨u_T_8, eu_T_8⟩ : ∃ z : S32, z = up2 u_T_7 0 61 (1 : Int32) := ⟨_, rfl⟩
      replace hf := tx_let_e hf eu_T_8
      refine pf_X12_356 (ws' := cl_X12 g a_T u_T_8 v_T ++ X) S hE hw (by decide) (by decide) 0 rfl (Nat.le_of_ble_eq_true rfl) (by rw [eu_T_8]; rfl) dX12_weeks_37 (fun H locs hw => ?_)
      refine lv_iconst (v := 0) hx hb dX12_weeks_40 (by decide) ?_
      refine lv_istore_n (lv' := [(2, .int (0 : Int32)), (0, .ref (a_T 0)), (1, .int x1)]) hx hb dX12_weeks_41 rfl hl (by decide) rfl (fun ls hl => ?_)
      exact L42 fu hf hw (lv_sub hl [1, 2, 0] rfl)
    · replace hf := tx_neg hf h_5
      refine lv_iconst (v := -1) hx hb dX12_weeks_29 (by decide) ?_
      obtain ⟨e0, e1, e2⟩ := tx_in3 hf
      rw [← e0, ← e1, ← e2]
      exact tx_iret S hr hlk hw dX12_weeks_30
def f_X12_ahead (fu : Nat) (u_T : S32) (v_T : S64) (x1 : Int32) (x2 : Int32) : Option (Int32 × S32 × S64) := tx_let (up2 u_T 0 2 (0 : Int32)) fun (u_T_1 : S32) => tx_b1 (f_X12_isIn fu x1 (0 : Int32) (99 : Int32)) fun (r_3 : Int32) => if r_3 = (0 : Int32) then (some ((-1 : Int32), u_T_1, v_T)) else (tx_b1 (f_X12_isIn fu x2 (0 : Int32) (3 : Int32)) fun (r_6 : Int32) => if r_6 = (0 : Int32) then (some ((-1 : Int32), u_T_1, v_T)) else (tx_b1 (f_X12_layTried fu v_T u_T_1) fun (u_T_9 : S32) => tx_b2 (f_X12_goMany fu u_T_9 v_T x1) fun (u_T_11 : S32) (v_T_12 : S64) => if x2 = (0 : Int32) then (tx_b1 (f_X12_paidAll fu u_T_11 v_T_12 (1 : Int32)) fun (r_15 : Int32) => tx_b1 (f_X12_paidAll fu u_T_11 v_T_12 (0 : Int32)) fun (r_17 : Int32) => some (r_15 - r_17, u_T_11, v_T_12)) else if x2 = (1 : Int32) then (tx_b1 (f_X12_owedAll fu u_T_11 v_T_12 (1 : Int32)) fun (r_20 : Int32) => tx_b1 (f_X12_owedAll fu u_T_11 v_T_12 (0 : Int32)) fun (r_22 : Int32) => some (r_20 - r_22, u_T_11, v_T_12)) else if x2 = (2 : Int32) then (tx_b1 (f_X12_are fu u_T_11 v_T_12 (1 : Int32) (2 : Int32)) fun (r_25 : Int32) => tx_b1 (f_X12_are fu u_T_11 v_T_12 (0 : Int32) (2 : Int32)) fun (r_27 : Int32) => some (r_25 - r_27, u_T_11, v_T_12)) else (tx_b1 (f_X12_are fu u_T_11 v_T_12 (1 : Int32) (1 : Int32)) fun (r_29 : Int32) => some (r_29, u_T_11, v_T_12))))
set_option maxHeartbeats 4000000 in
set_option maxRecDepth 100000 in
theorem c_X12_ahead {l : Launch} {g : GG} {A : Nat → Prop} {X : va_W} {fu : Nat} {a_T : Nat → Nat} {u_T : S32} {v_T : S64} {x1 : Int32} {x2 : Int32} {r : Int32} {zu_T : S32} {zv_T : S64} (hf : f_X12_ahead fu  u_T v_T x1 x2 = some (r, zu_T, zv_T)) : MI l yX12_ahead cX12_ahead 3 (some .int) 9 g A (cl_X12 g a_T u_T v_T ++ X) [.ref (a_T 0), .int x1, .int x2] r (cl_X12 g a_T zu_T zv_T ++ X) := by
  refine tx_start (av := [.ref (a_T 0), .int x1, .int x2]) (by decide) (Nat.le_of_ble_eq_true rfl) ?_
  intro p e s m below meth c ls S hr hlk hE hw hl
  have S : CallFix p m c cX12_ahead 3 s (List.toArray [.ref (a_T 0), .int x1, .int x2]) (Cond.code yX12_ahead cX12_ahead 3 (some .int) :: allW) RX12 := S
  have hx := S.1
  have hb := S.2.1
  have hown := S.2.2.2.1
  have hts : ∀ w ∈ allW, w.before (List.toArray [.ref (a_T 0), .int x1, .int x2]) s = true := fun w h => S.2.2.2.2 w (List.mem_cons_of_mem _ h)
  have hl : lv_has ls 3 [(0, .ref (a_T 0)), (1, .int x1), (2, .int x2)] := hl
  unfold f_X12_ahead at hf
  refine lv_aload_n hx hb dX12_ahead_0 rfl (lv_at hl 0 rfl) ?_
  refine lv_iconst (v := 0) hx hb dX12_ahead_1 (by decide) ?_
  obtain ⟨u_T_1, eu_T_1⟩ : ∃ z : S32, z = up2 u_T 0 2 (0 : Int32) := ⟨_, rfl⟩
  replace hf := tx_let_e hf eu_T_1
  refine pf_X12_145 (ws' := cl_X12 g a_T u_T_1 v_T ++ X) S hE hw rfl rfl 0 rfl (Nat.le_of_ble_eq_true rfl) (by rw [eu_T_1]; rfl) dX12_ahead_2 (fun H locs hw => ?_)
  refine lv_iload_n hx hb dX12_ahead_5 rfl (lv_at hl 1 rfl) ?_
  refine lv_iconst (v := 0) hx hb dX12_ahead_6 (by decide) ?_
  refine lv_bipush (v := 99) hx hb dX12_ahead_7 (by decide) ?_
  obtain ⟨r_3, h_2, hf⟩ := tx_b1_e hf
  refine tx_ci hw (tx_runS S hE hw (c_X12_isIn h_2) lk_X12_190 rfl hl.1 (rest := []) rfl (Nat.le_of_ble_eq_true rfl) ⟨by decide, by decide⟩ dX12_ahead_9 ⟨Nat.zero_le _, Nat.zero_le _⟩) (fun H locs hw => ?_)
  refine lv_if_eq (tgt := 24) hx hb dX12_ahead_12 (by decide) (fun h_4 => ?_) (fun h_4 => ?_)
  · replace hf := tx_pos hf h_4
    refine lv_iconst (v := -1) hx hb dX12_ahead_24 (by decide) ?_
    obtain ⟨e0, e1, e2⟩ := tx_in3 hf
    rw [← e0, ← e1, ← e2]
    exact tx_iret S hr hlk hw dX12_ahead_25
  · replace hf := tx_neg hf h_4
    refine lv_iload_n hx hb dX12_ahead_15 rfl (lv_at hl 2 rfl) ?_
    refine lv_iconst (v := 0) hx hb dX12_ahead_16 (by decide) ?_
    refine lv_iconst (v := 3) hx hb dX12_ahead_17 (by decide) ?_
    obtain ⟨r_6, h_5, hf⟩ := tx_b1_e hf
    refine tx_ci hw (tx_runS S hE hw (c_X12_isIn h_5) lk_X12_190 rfl hl.1 (rest := []) rfl (Nat.le_of_ble_eq_true rfl) ⟨by decide, by decide⟩ dX12_ahead_18 ⟨Nat.zero_le _, Nat.zero_le _⟩) (fun H locs hw => ?_)
    refine lv_if_ne (tgt := 26) hx hb dX12_ahead_21 (by decide) (fun h_7 => ?_) (fun h_7 => ?_)
    · replace hf := tx_neg hf h_7
      refine lv_aload_n hx hb dX12_ahead_26 rfl (lv_at hl 0 rfl) ?_
      obtain ⟨u_T_9, h_8, hf⟩ := tx_b1_e hf
      refine tx_cv hw (tx_runV S hE hw (c_X12_layTried h_8) lk_X12_474 (q0 := 0) rfl rfl rfl hl.1 (rest := []) rfl (Nat.le_of_ble_eq_true rfl) ⟨by decide, by decide⟩ dX12_ahead_27 ⟨Nat.zero_le _, Nat.zero_le _⟩) (fun H locs hw => ?_)
      refine lv_aload_n hx hb dX12_ahead_30 rfl (lv_at hl 0 rfl) ?_
      refine lv_iload_n hx hb dX12_ahead_31 rfl (lv_at hl 1 rfl) ?_
      obtain ⟨u_T_11, v_T_12, h_10, hf⟩ := tx_b2_e hf
      refine tx_cv hw (tx_runV S hE hw (c_X12_goMany h_10) lk_X12_477 (q0 := 0) rfl rfl rfl hl.1 (rest := []) rfl (Nat.le_of_ble_eq_true rfl) ⟨by decide, by decide⟩ dX12_ahead_32 ⟨Nat.zero_le _, Nat.zero_le _⟩) (fun H locs hw => ?_)
      refine lv_iload_n hx hb dX12_ahead_35 rfl (lv_at hl 2 rfl) ?_
      by_cases h_13 : x2 = (0 : Int32)
      · replace hf := tx_pos hf h_13
        refine lv_tableIn (off := 28) (tgt := 64) hx hb dX12_ahead_36 (by rw [h_13]; decide) (by rw [h_13]; decide) (by rw [h_13]; rfl) (by decide) ?_
        refine lv_aload_n hx hb dX12_ahead_64 rfl (lv_at hl 0 rfl) ?_
        refine lv_iconst (v := 1) hx hb dX12_ahead_65 (by decide) ?_
        obtain ⟨r_15, h_14, hf⟩ := tx_b1_e hf
        refine tx_ci hw (tx_runV S hE hw (c_X12_paidAll h_14) lk_X12_448 (q0 := 0) rfl rfl rfl hl.1 (rest := []) rfl (Nat.le_of_ble_eq_true rfl) ⟨by decide, by decide⟩ dX12_ahead_66 ⟨Nat.zero_le _, Nat.zero_le _⟩) (fun H locs hw => ?_)
        refine lv_aload_n hx hb dX12_ahead_69 rfl (lv_at hl 0 rfl) ?_
        refine lv_iconst (v := 0) hx hb dX12_ahead_70 (by decide) ?_
        obtain ⟨r_17, h_16, hf⟩ := tx_b1_e hf
        refine tx_ci hw (tx_runV S hE hw (c_X12_paidAll h_16) lk_X12_448 (q0 := 0) rfl rfl rfl hl.1 (rest := [.int r_15]) rfl (Nat.le_of_ble_eq_true rfl) ⟨by decide, by decide⟩ dX12_ahead_71 ⟨Nat.zero_le _, Nat.zero_le _⟩) (fun H locs hw => ?_)
        refine lv_isub hx hb dX12_ahead_74 ?_
        obtain ⟨e0, e1, e2⟩ := tx_in3 hf
        rw [← e0, ← e1, ← e2]
        exact tx_iret S hr hlk hw dX12_ahead_75
      replace hf := tx_neg hf h_13
      by_cases h_18 : x2 = (1 : Int32)
      · replace hf := tx_pos hf h_18
        refine lv_tableIn (off := 40) (tgt := 76) hx hb dX12_ahead_36 (by rw [h_18]; decide) (by rw [h_18]; decide) (by rw [h_18]; rfl) (by decide) ?_
        refine lv_aload_n hx hb dX12_ahead_76 rfl (lv_at hl 0 rfl) ?_
        refine lv_iconst (v := 1) hx hb dX12_ahead_77 (by decide) ?_
        obtain ⟨r_20, h_19, hf⟩ := tx_b1_e hf
        refine tx_ci hw (tx_runV S hE hw (c_X12_owedAll h_19) lk_X12_451 (q0 := 0) rfl rfl rfl hl.1 (rest := []) rfl (Nat.le_of_ble_eq_true rfl) ⟨by decide, by decide⟩ dX12_ahead_78 ⟨Nat.zero_le _, Nat.zero_le _⟩) (fun H locs hw => ?_)
        refine lv_aload_n hx hb dX12_ahead_81 rfl (lv_at hl 0 rfl) ?_
        refine lv_iconst (v := 0) hx hb dX12_ahead_82 (by decide) ?_
        obtain ⟨r_22, h_21, hf⟩ := tx_b1_e hf
        refine tx_ci hw (tx_runV S hE hw (c_X12_owedAll h_21) lk_X12_451 (q0 := 0) rfl rfl rfl hl.1 (rest := [.int r_20]) rfl (Nat.le_of_ble_eq_true rfl) ⟨by decide, by decide⟩ dX12_ahead_83 ⟨Nat.zero_le _, Nat.zero_le _⟩) (fun H locs hw => ?_)
        refine lv_isub hx hb dX12_ahead_86 ?_
        obtain ⟨e0, e1, e2⟩ := tx_in3 hf
        rw [← e0, ← e1, ← e2]
        exact tx_iret S hr hlk hw dX12_ahead_87
      replace hf := tx_neg hf h_18
      by_cases h_23 : x2 = (2 : Int32)
      · replace hf := tx_pos hf h_23
        refine lv_tableIn (off := 52) (tgt := 88) hx hb dX12_ahead_36 (by rw [h_23]; decide) (by rw [h_23]; decide) (by rw [h_23]; rfl) (by decide) ?_
        refine lv_aload_n hx hb dX12_ahead_88 rfl (lv_at hl 0 rfl) ?_
        refine lv_iconst (v := 1) hx hb dX12_ahead_89 (by decide) ?_
        refine lv_iconst (v := 2) hx hb dX12_ahead_90 (by decide) ?_
        obtain ⟨r_25, h_24, hf⟩ := tx_b1_e hf
        refine tx_ci hw (tx_runV S hE hw (c_X12_are h_24) lk_X12_480 (q0 := 0) rfl rfl rfl hl.1 (rest := []) rfl (Nat.le_of_ble_eq_true rfl) ⟨by decide, by decide⟩ dX12_ahead_91 ⟨Nat.zero_le _, Nat.zero_le _⟩) (fun H locs hw => ?_)
        refine lv_aload_n hx hb dX12_ahead_94 rfl (lv_at hl 0 rfl) ?_
        refine lv_iconst (v := 0) hx hb dX12_ahead_95 (by decide) ?_
        refine lv_iconst (v := 2) hx hb dX12_ahead_96 (by decide) ?_
        obtain ⟨r_27, h_26, hf⟩ := tx_b1_e hf
        refine tx_ci hw (tx_runV S hE hw (c_X12_are h_26) lk_X12_480 (q0 := 0) rfl rfl rfl hl.1 (rest := [.int r_25]) rfl (Nat.le_of_ble_eq_true rfl) ⟨by decide, by decide⟩ dX12_ahead_97 ⟨Nat.zero_le _, Nat.zero_le _⟩) (fun H locs hw => ?_)
        refine lv_isub hx hb dX12_ahead_100 ?_
        obtain ⟨e0, e1, e2⟩ := tx_in3 hf
        rw [← e0, ← e1, ← e2]
        exact tx_iret S hr hlk hw dX12_ahead_101
      replace hf := tx_neg hf h_23
      have eh_13 : x2.toInt ≠ 0 := tx_ne h_13
      have eh_18 : x2.toInt ≠ 1 := tx_ne h_18
      have eh_23 : x2.toInt ≠ 2 := tx_ne h_23
      refine lv_tableOut (tgt := 102) hx hb dX12_ahead_36 (by omega) (by decide) ?_
      refine lv_aload_n hx hb dX12_ahead_102 rfl (lv_at hl 0 rfl) ?_
      refine lv_iconst (v := 1) hx hb dX12_ahead_103 (by decide) ?_
      refine lv_iconst (v := 1) hx hb dX12_ahead_104 (by decide) ?_
      obtain ⟨r_29, h_28, hf⟩ := tx_b1_e hf
      refine tx_ci hw (tx_runV S hE hw (c_X12_are h_28) lk_X12_480 (q0 := 0) rfl rfl rfl hl.1 (rest := []) rfl (Nat.le_of_ble_eq_true rfl) ⟨by decide, by decide⟩ dX12_ahead_105 ⟨Nat.zero_le _, Nat.zero_le _⟩) (fun H locs hw => ?_)
      obtain ⟨e0, e1, e2⟩ := tx_in3 hf
      rw [← e0, ← e1, ← e2]
      exact tx_iret S hr hlk hw dX12_ahead_108
    · replace hf := tx_pos hf h_7
      refine lv_iconst (v := -1) hx hb dX12_ahead_24 (by decide) ?_
      obtain ⟨e0, e1, e2⟩ := tx_in3 hf
      rw [← e0, ← e1, ← e2]
      exact tx_iret S hr hlk hw dX12_ahead_25
def f_X12_likely_J57 (fu : Nat) (u_T : S32) (v_T : S64) : Option (Int32 × S32 × S64) := some ((0 : Int32), u_T, v_T)
def f_X12_likely (fu : Nat) (u_T : S32) (v_T : S64) (x1 : Int32) : Option (Int32 × S32 × S64) := tx_let (up2 u_T 0 2 (0 : Int32)) fun (u_T_1 : S32) => tx_b1 (f_X12_isThought fu u_T_1 v_T x1) fun (r_3 : Int32) => if r_3 = (0 : Int32) then (some ((-1 : Int32), u_T_1, v_T)) else (tx_ck x1 24 <| if (u_T_1 50 x1.toNatClampNeg) = (1 : Int32) then (tx_b1 (f_X12_plainTried fu v_T u_T_1) fun (u_T_8 : S32) => tx_ck x1 24 <| tx_ck (u_T_8 51 x1.toNatClampNeg) 12 <| tx_let (u_T_8 57 (u_T_8 51 x1.toNatClampNeg).toNatClampNeg) fun (y_11 : Int32) => if y_11 < (0 : Int32) then (f_X12_likely_J57 fu u_T_8 v_T) else (tx_b1 (f_X12_knows fu u_T_8 v_T y_11 x1) fun (r_14 : Int32) => if r_14 = (0 : Int32) then (f_X12_likely_J57 fu u_T_8 v_T) else (tx_ck x1 24 <| tx_b3 (f_X12_readOf fu u_T_8 v_T (0 : Int32) x1 (u_T_8 51 x1.toNatClampNeg) y_11) fun (r_18 : Int32) (u_T_19 : S32) (v_T_20 : S64) => some (r_18, u_T_19, v_T_20)))) else (some ((-2 : Int32), u_T_1, v_T)))
set_option maxHeartbeats 4000000 in
set_option maxRecDepth 100000 in
theorem c_X12_likely {l : Launch} {g : GG} {A : Nat → Prop} {X : va_W} {fu : Nat} {a_T : Nat → Nat} {u_T : S32} {v_T : S64} {x1 : Int32} {r : Int32} {zu_T : S32} {zv_T : S64} (hf : f_X12_likely fu  u_T v_T x1 = some (r, zu_T, zv_T)) : MI l yX12_likely cX12_likely 3 (some .int) 5 g A (cl_X12 g a_T u_T v_T ++ X) [.ref (a_T 0), .int x1] r (cl_X12 g a_T zu_T zv_T ++ X) := by
  refine tx_start (av := [.ref (a_T 0), .int x1]) (by decide) (Nat.le_of_ble_eq_true rfl) ?_
  intro p e s m below meth c ls S hr hlk hE hw hl
  have S : CallFix p m c cX12_likely 3 s (List.toArray [.ref (a_T 0), .int x1]) (Cond.code yX12_likely cX12_likely 3 (some .int) :: allW) RX12 := S
  have hx := S.1
  have hb := S.2.1
  have hown := S.2.2.2.1
  have hts : ∀ w ∈ allW, w.before (List.toArray [.ref (a_T 0), .int x1]) s = true := fun w h => S.2.2.2.2 w (List.mem_cons_of_mem _ h)
  have hl : lv_has ls 3 [(0, .ref (a_T 0)), (1, .int x1)] := hl
  have J57 : ∀ {u_T : S32} {v_T : S64} {H : Heap} {locs : List Loc} {ls : Array Slot}, f_X12_likely_J57 fu u_T v_T = some (r, zu_T, zv_T) → WD g A s.heap (cl_X12 g a_T u_T v_T ++ X) H locs → lv_has ls 3 [] → W p l e (rmH 5) s m (List.toArray [.ref (a_T 0), .int x1]) below meth c H locs 0 0 (MQ below (va_Qi (fun r2 (_ : Unit) => r2 = r) (fun _ t => POST g A (cl_X12 g a_T zu_T zv_T ++ X) t) A) (List.toArray [.ref (a_T 0), .int x1]) s 0 0 A) (F0 m 57 ls []) := by
    intro u_T v_T H locs ls hf hw hl
    unfold f_X12_likely_J57 at hf
    refine lv_iconst (v := 0) hx hb dX12_likely_57 (by decide) ?_
    refine lv_goto (tgt := 74) hx hb dX12_likely_58 (by decide) ?_
    obtain ⟨e0, e1, e2⟩ := tx_in3 hf
    rw [← e0, ← e1, ← e2]
    exact tx_iret S hr hlk hw dX12_likely_74
  unfold f_X12_likely at hf
  refine lv_aload_n hx hb dX12_likely_0 rfl (lv_at hl 0 rfl) ?_
  refine lv_iconst (v := 0) hx hb dX12_likely_1 (by decide) ?_
  obtain ⟨u_T_1, eu_T_1⟩ : ∃ z : S32, z = up2 u_T 0 2 (0 : Int32) := ⟨_, rfl⟩
  replace hf := tx_let_e hf eu_T_1
  refine pf_X12_145 (ws' := cl_X12 g a_T u_T_1 v_T ++ X) S hE hw rfl rfl 0 rfl (Nat.le_of_ble_eq_true rfl) (by rw [eu_T_1]; rfl) dX12_likely_2 (fun H locs hw => ?_)
  refine lv_aload_n hx hb dX12_likely_5 rfl (lv_at hl 0 rfl) ?_
  refine lv_iload_n hx hb dX12_likely_6 rfl (lv_at hl 1 rfl) ?_
  obtain ⟨r_3, h_2, hf⟩ := tx_b1_e hf
  refine tx_ci hw (tx_runV S hE hw (c_X12_isThought h_2) lk_X12_454 (q0 := 0) rfl rfl rfl hl.1 (rest := []) rfl (Nat.le_of_ble_eq_true rfl) ⟨by decide, by decide⟩ dX12_likely_7 ⟨Nat.zero_le _, Nat.zero_le _⟩) (fun H locs hw => ?_)
  refine lv_if_ne (tgt := 15) hx hb dX12_likely_10 (by decide) (fun h_4 => ?_) (fun h_4 => ?_)
  · replace hf := tx_neg hf h_4
    refine lv_aload_n hx hb dX12_likely_15 rfl (lv_at hl 0 rfl) ?_
    refine gf_X12_88 S hE hw 0 rfl rfl dX12_likely_16 ?_
    refine lv_iload_n hx hb dX12_likely_19 rfl (lv_at hl 1 rfl) ?_
    obtain ⟨h_5, hf⟩ := tx_ck_e hf
    refine tx_iald S hE hw 25 rfl h_5 dX12_likely_20 ?_
    refine lv_iconst (v := 1) hx hb dX12_likely_21 (by decide) ?_
    refine lv_icmp_eq (tgt := 28) hx hb dX12_likely_22 (by decide) (fun h_6 => ?_) (fun h_6 => ?_)
    · replace hf := tx_pos hf h_6
      refine lv_aload_n hx hb dX12_likely_28 rfl (lv_at hl 0 rfl) ?_
      obtain ⟨u_T_8, h_7, hf⟩ := tx_b1_e hf
      refine tx_cv hw (tx_runV S hE hw (c_X12_plainTried h_7) lk_X12_344 (q0 := 0) rfl rfl rfl hl.1 (rest := []) rfl (Nat.le_of_ble_eq_true rfl) ⟨by decide, by decide⟩ dX12_likely_29 ⟨Nat.zero_le _, Nat.zero_le _⟩) (fun H locs hw => ?_)
      refine lv_aload_n hx hb dX12_likely_32 rfl (lv_at hl 0 rfl) ?_
      refine gf_X12_109 S hE hw 0 rfl rfl dX12_likely_33 ?_
      refine lv_aload_n hx hb dX12_likely_36 rfl (lv_at hl 0 rfl) ?_
      refine gf_X12_91 S hE hw 0 rfl rfl dX12_likely_37 ?_
      refine lv_iload_n hx hb dX12_likely_40 rfl (lv_at hl 1 rfl) ?_
      obtain ⟨h_9, hf⟩ := tx_ck_e hf
      refine tx_iald S hE hw 26 rfl h_9 dX12_likely_41 ?_
      obtain ⟨h_10, hf⟩ := tx_ck_e hf
      refine tx_iald S hE hw 32 rfl h_10 dX12_likely_42 ?_
      refine lv_topi (fun y_11 ey_11 => ?_)
      replace hf := tx_let_e hf ey_11
      refine lv_istore_n (lv' := [(2, .int y_11), (0, .ref (a_T 0)), (1, .int x1)]) hx hb dX12_likely_43 rfl hl (by decide) rfl (fun ls hl => ?_)
      refine lv_iload_n hx hb dX12_likely_44 rfl (lv_at hl 0 rfl) ?_
      refine lv_if_lt (tgt := 57) hx hb dX12_likely_45 (by decide) (fun h_12 => ?_) (fun h_12 => ?_)
      · replace hf := tx_pos hf h_12
        exact J57 hf hw (lv_sub hl [] rfl)
      · replace hf := tx_neg hf h_12
        refine lv_aload_n hx hb dX12_likely_48 rfl (lv_at hl 1 rfl) ?_
        refine lv_iload_n hx hb dX12_likely_49 rfl (lv_at hl 0 rfl) ?_
        refine lv_iload_n hx hb dX12_likely_50 rfl (lv_at hl 2 rfl) ?_
        obtain ⟨r_14, h_13, hf⟩ := tx_b1_e hf
        refine tx_ci hw (tx_runV S hE hw (c_X12_knows h_13) lk_X12_421 (q0 := 0) rfl rfl rfl hl.1 (rest := []) rfl (Nat.le_of_ble_eq_true rfl) ⟨by decide, by decide⟩ dX12_likely_51 ⟨Nat.zero_le _, Nat.zero_le _⟩) (fun H locs hw => ?_)
        refine lv_if_ne (tgt := 61) hx hb dX12_likely_54 (by decide) (fun h_15 => ?_) (fun h_15 => ?_)
        · replace hf := tx_neg hf h_15
          refine lv_aload_n hx hb dX12_likely_61 rfl (lv_at hl 1 rfl) ?_
          refine lv_iconst (v := 0) hx hb dX12_likely_62 (by decide) ?_
          refine lv_iload_n hx hb dX12_likely_63 rfl (lv_at hl 2 rfl) ?_
          refine lv_aload_n hx hb dX12_likely_64 rfl (lv_at hl 1 rfl) ?_
          refine gf_X12_91 S hE hw 0 rfl rfl dX12_likely_65 ?_
          refine lv_iload_n hx hb dX12_likely_68 rfl (lv_at hl 2 rfl) ?_
          obtain ⟨h_16, hf⟩ := tx_ck_e hf
          refine tx_iald S hE hw 26 rfl h_16 dX12_likely_69 ?_
          refine lv_iload_n hx hb dX12_likely_70 rfl (lv_at hl 0 rfl) ?_
          obtain ⟨r_18, u_T_19, v_T_20, h_17, hf⟩ := tx_b3_e hf
          refine tx_ci hw (tx_runV S hE hw (c_X12_readOf h_17) lk_X12_424 (q0 := 0) rfl rfl rfl hl.1 (rest := []) rfl (Nat.le_of_ble_eq_true rfl) ⟨by decide, by decide⟩ dX12_likely_71 ⟨Nat.zero_le _, Nat.zero_le _⟩) (fun H locs hw => ?_)
          obtain ⟨e0, e1, e2⟩ := tx_in3 hf
          rw [← e0, ← e1, ← e2]
          exact tx_iret S hr hlk hw dX12_likely_74
        · replace hf := tx_pos hf h_15
          exact J57 hf hw (lv_sub hl [] rfl)
    · replace hf := tx_neg hf h_6
      refine lv_bipush (v := -2) hx hb dX12_likely_25 (by decide) ?_
      obtain ⟨e0, e1, e2⟩ := tx_in3 hf
      rw [← e0, ← e1, ← e2]
      exact tx_iret S hr hlk hw dX12_likely_27
  · replace hf := tx_pos hf h_4
    refine lv_iconst (v := -1) hx hb dX12_likely_13 (by decide) ?_
    obtain ⟨e0, e1, e2⟩ := tx_in3 hf
    rw [← e0, ← e1, ← e2]
    exact tx_iret S hr hlk hw dX12_likely_14
