def f_X12_count (fu : Nat) (v_T : S64) (u_T : S32) (x1 : Int32) : Option (Int32 × S32) := tx_let (up2 u_T 0 2 (0 : Int32)) fun (u_T_1 : S32) => if x1 = (0 : Int32) then (some (u_T_1 0 12, u_T_1)) else if x1 = (1 : Int32) then (some (u_T_1 0 13, u_T_1)) else if x1 = (2 : Int32) then (some (u_T_1 0 14, u_T_1)) else if x1 = (3 : Int32) then (some (u_T_1 0 15, u_T_1)) else if x1 = (4 : Int32) then (some (u_T_1 59 (0 : Int32).toNatClampNeg, u_T_1)) else if x1 = (5 : Int32) then (some (u_T_1 58 (0 : Int32).toNatClampNeg, u_T_1)) else if x1 = (6 : Int32) then (tx_b1 (f_X12_are fu u_T_1 v_T (0 : Int32) (1 : Int32)) fun (r_10 : Int32) => some (r_10, u_T_1)) else if x1 = (7 : Int32) then (tx_b1 (f_X12_are fu u_T_1 v_T (0 : Int32) (2 : Int32)) fun (r_13 : Int32) => some (r_13, u_T_1)) else if x1 = (8 : Int32) then (tx_b1 (f_X12_paidAll fu u_T_1 v_T (0 : Int32)) fun (r_16 : Int32) => some (r_16, u_T_1)) else if x1 = (9 : Int32) then (tx_b1 (f_X12_owedAll fu u_T_1 v_T (0 : Int32)) fun (r_19 : Int32) => some (r_19, u_T_1)) else if x1 = (10 : Int32) then (some (u_T_1 0 71, u_T_1)) else if x1 = (11 : Int32) then (tx_b1 (f_X12_knownBy fu u_T_1 v_T) fun (r_23 : Int32) => some (r_23, u_T_1)) else if x1 = (12 : Int32) then (some (u_T_1 0 75, u_T_1)) else (some ((-1 : Int32), u_T_1))
set_option maxHeartbeats 4000000 in
set_option maxRecDepth 100000 in
theorem c_X12_count {l : Launch} {g : GG} {A : Nat → Prop} {X : va_W} {fu : Nat} {a_T : Nat → Nat} {u_T : S32} {v_T : S64} {x1 : Int32} {r : Int32} {zu_T : S32} (hf : f_X12_count fu v_T u_T x1 = some (r, zu_T)) : MI l yX12_count cX12_count 2 (some .int) 1 g A (cl_X12 g a_T u_T v_T ++ X) [.ref (a_T 0), .int x1] r (cl_X12 g a_T zu_T v_T ++ X) := by
  refine tx_start (av := [.ref (a_T 0), .int x1]) (by decide) (Nat.le_of_ble_eq_true rfl) ?_
  intro p e s m below meth c ls S hr hlk hE hw hl
  have S : CallFix p m c cX12_count 2 s (List.toArray [.ref (a_T 0), .int x1]) (Cond.code yX12_count cX12_count 2 (some .int) :: allW) RX12 := S
  have hx := S.1
  have hb := S.2.1
  have hown := S.2.2.2.1
  have hts : ∀ w ∈ allW, w.before (List.toArray [.ref (a_T 0), .int x1]) s = true := fun w h => S.2.2.2.2 w (List.mem_cons_of_mem _ h)
  have hl : lv_has ls 2 [(0, .ref (a_T 0)), (1, .int x1)] := hl
  unfold f_X12_count at hf
  refine lv_aload_n hx hb dX12_count_0 rfl (lv_at hl 0 rfl) ?_
  refine lv_iconst (v := 0) hx hb dX12_count_1 (by decide) ?_
  obtain ⟨u_T_1, eu_T_1⟩ : ∃ z : S32, z = up2 u_T 0 2 (0 : Int32) := ⟨_, rfl⟩
  replace hf := tx_let_e hf eu_T_1
  refine pf_X12_145 (ws' := cl_X12 g a_T u_T_1 v_T ++ X) S hE hw rfl rfl 0 rfl (Nat.le_of_ble_eq_true rfl) (by rw [eu_T_1]; rfl) dX12_count_2 (fun H locs hw => ?_)
  refine lv_iload_n hx hb dX12_count_5 rfl (lv_at hl 1 rfl) ?_
  by_cases h_2 : x1 = (0 : Int32)
  · replace hf := tx_pos hf h_2
    refine lv_tableIn (off := 66) (tgt := 72) hx hb dX12_count_6 (by rw [h_2]; decide) (by rw [h_2]; decide) (by rw [h_2]; rfl) (by decide) ?_
    refine lv_aload_n hx hb dX12_count_72 rfl (lv_at hl 0 rfl) ?_
    refine gf_X12_222 S hE hw 0 rfl rfl dX12_count_73 ?_
    obtain ⟨e0, e1⟩ := tx_in2 hf
    rw [← e0, ← e1]
    exact tx_iret S hr hlk hw dX12_count_76
  replace hf := tx_neg hf h_2
  by_cases h_3 : x1 = (1 : Int32)
  · replace hf := tx_pos hf h_3
    refine lv_tableIn (off := 71) (tgt := 77) hx hb dX12_count_6 (by rw [h_3]; decide) (by rw [h_3]; decide) (by rw [h_3]; rfl) (by decide) ?_
    refine lv_aload_n hx hb dX12_count_77 rfl (lv_at hl 0 rfl) ?_
    refine gf_X12_225 S hE hw 0 rfl rfl dX12_count_78 ?_
    obtain ⟨e0, e1⟩ := tx_in2 hf
    rw [← e0, ← e1]
    exact tx_iret S hr hlk hw dX12_count_81
  replace hf := tx_neg hf h_3
  by_cases h_4 : x1 = (2 : Int32)
  · replace hf := tx_pos hf h_4
    refine lv_tableIn (off := 76) (tgt := 82) hx hb dX12_count_6 (by rw [h_4]; decide) (by rw [h_4]; decide) (by rw [h_4]; rfl) (by decide) ?_
    refine lv_aload_n hx hb dX12_count_82 rfl (lv_at hl 0 rfl) ?_
    refine gf_X12_228 S hE hw 0 rfl rfl dX12_count_83 ?_
    obtain ⟨e0, e1⟩ := tx_in2 hf
    rw [← e0, ← e1]
    exact tx_iret S hr hlk hw dX12_count_86
  replace hf := tx_neg hf h_4
  by_cases h_5 : x1 = (3 : Int32)
  · replace hf := tx_pos hf h_5
    refine lv_tableIn (off := 81) (tgt := 87) hx hb dX12_count_6 (by rw [h_5]; decide) (by rw [h_5]; decide) (by rw [h_5]; rfl) (by decide) ?_
    refine lv_aload_n hx hb dX12_count_87 rfl (lv_at hl 0 rfl) ?_
    refine gf_X12_231 S hE hw 0 rfl rfl dX12_count_88 ?_
    obtain ⟨e0, e1⟩ := tx_in2 hf
    rw [← e0, ← e1]
    exact tx_iret S hr hlk hw dX12_count_91
  replace hf := tx_neg hf h_5
  by_cases h_6 : x1 = (4 : Int32)
  · replace hf := tx_pos hf h_6
    refine lv_tableIn (off := 86) (tgt := 92) hx hb dX12_count_6 (by rw [h_6]; decide) (by rw [h_6]; decide) (by rw [h_6]; rfl) (by decide) ?_
    refine lv_aload_n hx hb dX12_count_92 rfl (lv_at hl 0 rfl) ?_
    refine gf_X12_115 S hE hw 0 rfl rfl dX12_count_93 ?_
    refine lv_iconst (v := 0) hx hb dX12_count_96 (by decide) ?_
    refine tx_iald S hE hw 34 rfl (by unfold vp_in; decide) dX12_count_97 ?_
    obtain ⟨e0, e1⟩ := tx_in2 hf
    rw [← e0, ← e1]
    exact tx_iret S hr hlk hw dX12_count_98
  replace hf := tx_neg hf h_6
  by_cases h_7 : x1 = (5 : Int32)
  · replace hf := tx_pos hf h_7
    refine lv_tableIn (off := 93) (tgt := 99) hx hb dX12_count_6 (by rw [h_7]; decide) (by rw [h_7]; decide) (by rw [h_7]; rfl) (by decide) ?_
    refine lv_aload_n hx hb dX12_count_99 rfl (lv_at hl 0 rfl) ?_
    refine gf_X12_112 S hE hw 0 rfl rfl dX12_count_100 ?_
    refine lv_iconst (v := 0) hx hb dX12_count_103 (by decide) ?_
    refine tx_iald S hE hw 33 rfl (by unfold vp_in; decide) dX12_count_104 ?_
    obtain ⟨e0, e1⟩ := tx_in2 hf
    rw [← e0, ← e1]
    exact tx_iret S hr hlk hw dX12_count_105
  replace hf := tx_neg hf h_7
  by_cases h_8 : x1 = (6 : Int32)
  · replace hf := tx_pos hf h_8
    refine lv_tableIn (off := 100) (tgt := 106) hx hb dX12_count_6 (by rw [h_8]; decide) (by rw [h_8]; decide) (by rw [h_8]; rfl) (by decide) ?_
    refine lv_aload_n hx hb dX12_count_106 rfl (lv_at hl 0 rfl) ?_
    refine lv_iconst (v := 0) hx hb dX12_count_107 (by decide) ?_
    refine lv_iconst (v := 1) hx hb dX12_count_108 (by decide) ?_
    obtain ⟨r_10, h_9, hf⟩ := tx_b1_e hf
    refine tx_ci hw (tx_runV S hE hw (c_X12_are h_9) lk_X12_480 (q0 := 0) rfl rfl rfl hl.1 (rest := []) rfl (Nat.le_of_ble_eq_true rfl) ⟨by decide, by decide⟩ dX12_count_109 ⟨Nat.zero_le _, Nat.zero_le _⟩) (fun H locs hw => ?_)
    obtain ⟨e0, e1⟩ := tx_in2 hf
    rw [← e0, ← e1]
    exact tx_iret S hr hlk hw dX12_count_112
  replace hf := tx_neg hf h_8
  by_cases h_11 : x1 = (7 : Int32)
  · replace hf := tx_pos hf h_11
    refine lv_tableIn (off := 107) (tgt := 113) hx hb dX12_count_6 (by rw [h_11]; decide) (by rw [h_11]; decide) (by rw [h_11]; rfl) (by decide) ?_
    refine lv_aload_n hx hb dX12_count_113 rfl (lv_at hl 0 rfl) ?_
    refine lv_iconst (v := 0) hx hb dX12_count_114 (by decide) ?_
    refine lv_iconst (v := 2) hx hb dX12_count_115 (by decide) ?_
    obtain ⟨r_13, h_12, hf⟩ := tx_b1_e hf
    refine tx_ci hw (tx_runV S hE hw (c_X12_are h_12) lk_X12_480 (q0 := 0) rfl rfl rfl hl.1 (rest := []) rfl (Nat.le_of_ble_eq_true rfl) ⟨by decide, by decide⟩ dX12_count_116 ⟨Nat.zero_le _, Nat.zero_le _⟩) (fun H locs hw => ?_)
    obtain ⟨e0, e1⟩ := tx_in2 hf
    rw [← e0, ← e1]
    exact tx_iret S hr hlk hw dX12_count_119
  replace hf := tx_neg hf h_11
  by_cases h_14 : x1 = (8 : Int32)
  · replace hf := tx_pos hf h_14
    refine lv_tableIn (off := 114) (tgt := 120) hx hb dX12_count_6 (by rw [h_14]; decide) (by rw [h_14]; decide) (by rw [h_14]; rfl) (by decide) ?_
    refine lv_aload_n hx hb dX12_count_120 rfl (lv_at hl 0 rfl) ?_
    refine lv_iconst (v := 0) hx hb dX12_count_121 (by decide) ?_
    obtain ⟨r_16, h_15, hf⟩ := tx_b1_e hf
    refine tx_ci hw (tx_runV S hE hw (c_X12_paidAll h_15) lk_X12_448 (q0 := 0) rfl rfl rfl hl.1 (rest := []) rfl (Nat.le_of_ble_eq_true rfl) ⟨by decide, by decide⟩ dX12_count_122 ⟨Nat.zero_le _, Nat.zero_le _⟩) (fun H locs hw => ?_)
    obtain ⟨e0, e1⟩ := tx_in2 hf
    rw [← e0, ← e1]
    exact tx_iret S hr hlk hw dX12_count_125
  replace hf := tx_neg hf h_14
  by_cases h_17 : x1 = (9 : Int32)
  · replace hf := tx_pos hf h_17
    refine lv_tableIn (off := 120) (tgt := 126) hx hb dX12_count_6 (by rw [h_17]; decide) (by rw [h_17]; decide) (by rw [h_17]; rfl) (by decide) ?_
    refine lv_aload_n hx hb dX12_count_126 rfl (lv_at hl 0 rfl) ?_
    refine lv_iconst (v := 0) hx hb dX12_count_127 (by decide) ?_
    obtain ⟨r_19, h_18, hf⟩ := tx_b1_e hf
    refine tx_ci hw (tx_runV S hE hw (c_X12_owedAll h_18) lk_X12_451 (q0 := 0) rfl rfl rfl hl.1 (rest := []) rfl (Nat.le_of_ble_eq_true rfl) ⟨by decide, by decide⟩ dX12_count_128 ⟨Nat.zero_le _, Nat.zero_le _⟩) (fun H locs hw => ?_)
    obtain ⟨e0, e1⟩ := tx_in2 hf
    rw [← e0, ← e1]
    exact tx_iret S hr hlk hw dX12_count_131
  replace hf := tx_neg hf h_17
  by_cases h_20 : x1 = (10 : Int32)
  · replace hf := tx_pos hf h_20
    refine lv_tableIn (off := 126) (tgt := 132) hx hb dX12_count_6 (by rw [h_20]; decide) (by rw [h_20]; decide) (by rw [h_20]; rfl) (by decide) ?_
    refine lv_aload_n hx hb dX12_count_132 rfl (lv_at hl 0 rfl) ?_
    refine gf_X12_347 S hE hw 0 rfl rfl dX12_count_133 ?_
    obtain ⟨e0, e1⟩ := tx_in2 hf
    rw [← e0, ← e1]
    exact tx_iret S hr hlk hw dX12_count_136
  replace hf := tx_neg hf h_20
  by_cases h_21 : x1 = (11 : Int32)
  · replace hf := tx_pos hf h_21
    refine lv_tableIn (off := 131) (tgt := 137) hx hb dX12_count_6 (by rw [h_21]; decide) (by rw [h_21]; decide) (by rw [h_21]; rfl) (by decide) ?_
    refine lv_aload_n hx hb dX12_count_137 rfl (lv_at hl 0 rfl) ?_
    obtain ⟨r_23, h_22, hf⟩ := tx_b1_e hf
    refine tx_ci hw (tx_runV S hE hw (c_X12_knownBy h_22) lk_X12_507 (q0 := 0) rfl rfl rfl hl.1 (rest := []) rfl (Nat.le_of_ble_eq_true rfl) ⟨by decide, by decide⟩ dX12_count_138 ⟨Nat.zero_le _, Nat.zero_le _⟩) (fun H locs hw => ?_)
    obtain ⟨e0, e1⟩ := tx_in2 hf
    rw [← e0, ← e1]
    exact tx_iret S hr hlk hw dX12_count_141
  replace hf := tx_neg hf h_21
  by_cases h_24 : x1 = (12 : Int32)
  · replace hf := tx_pos hf h_24
    refine lv_tableIn (off := 136) (tgt := 142) hx hb dX12_count_6 (by rw [h_24]; decide) (by rw [h_24]; decide) (by rw [h_24]; rfl) (by decide) ?_
    refine lv_aload_n hx hb dX12_count_142 rfl (lv_at hl 0 rfl) ?_
    refine gf_X12_350 S hE hw 0 rfl rfl dX12_count_143 ?_
    obtain ⟨e0, e1⟩ := tx_in2 hf
    rw [← e0, ← e1]
    exact tx_iret S hr hlk hw dX12_count_146
  replace hf := tx_neg hf h_24
  have eh_2 : x1.toInt ≠ 0 := tx_ne h_2
  have eh_3 : x1.toInt ≠ 1 := tx_ne h_3
  have eh_4 : x1.toInt ≠ 2 := tx_ne h_4
  have eh_5 : x1.toInt ≠ 3 := tx_ne h_5
  have eh_6 : x1.toInt ≠ 4 := tx_ne h_6
  have eh_7 : x1.toInt ≠ 5 := tx_ne h_7
  have eh_8 : x1.toInt ≠ 6 := tx_ne h_8
  have eh_11 : x1.toInt ≠ 7 := tx_ne h_11
  have eh_14 : x1.toInt ≠ 8 := tx_ne h_14
  have eh_17 : x1.toInt ≠ 9 := tx_ne h_17
  have eh_20 : x1.toInt ≠ 10 := tx_ne h_20
  have eh_21 : x1.toInt ≠ 11 := tx_ne h_21
  have eh_24 : x1.toInt ≠ 12 := tx_ne h_24
  refine lv_tableOut (tgt := 147) hx hb dX12_count_6 (by omega) (by decide) ?_
  refine lv_iconst (v := -1) hx hb dX12_count_147 (by decide) ?_
  obtain ⟨e0, e1⟩ := tx_in2 hf
  rw [← e0, ← e1]
  exact tx_iret S hr hlk hw dX12_count_148
