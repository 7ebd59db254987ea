def f_X12_plainTried (fu : Nat) (v_T : S64) (u_T : S32) : Option (S32) := tx_let (up2 u_T 0 61 (0 : Int32)) fun (u_T_1 : S32) => tx_let (up2 u_T_1 0 62 (0 : Int32)) fun (u_T_2 : S32) => tx_let (up2 u_T_2 0 63 (0 : Int32)) fun (u_T_3 : S32) => tx_let (up2 u_T_3 0 64 (0 : Int32)) fun (u_T_4 : S32) => tx_let (up2 u_T_4 0 65 (0 : Int32)) fun (u_T_5 : S32) => tx_let (up2 u_T_5 0 66 (-1 : Int32)) fun (u_T_6 : S32) => tx_let (up2 u_T_6 0 67 (-1 : Int32)) fun (u_T_7 : S32) => tx_let (up2 u_T_7 0 68 (-1 : Int32)) fun (u_T_8 : S32) => tx_let (up2 u_T_8 0 69 (0 : Int32)) fun (u_T_9 : S32) => some u_T_9
set_option maxHeartbeats 4000000 in
set_option maxRecDepth 100000 in
theorem c_X12_plainTried {l : Launch} {g : GG} {A : Nat → Prop} {X : va_W} {fu : Nat} {a_T : Nat → Nat} {u_T : S32} {v_T : S64} {zu_T : S32} (hf : f_X12_plainTried fu v_T u_T = some zu_T) : MV l yX12_plainTried cX12_plainTried 1 none 0 g A (cl_X12 g a_T u_T v_T ++ X) [.ref (a_T 0)] (cl_X12 g a_T zu_T v_T ++ X) := by
  refine tx_start (av := [.ref (a_T 0)]) (by decide) (Nat.le_of_ble_eq_true rfl) ?_
  intro p e s m below meth c ls S hr hlk hE hw hl
  have S : CallFix p m c cX12_plainTried 1 s (List.toArray [.ref (a_T 0)]) (Cond.code yX12_plainTried cX12_plainTried 1 none :: allW) RX12 := S
  have hx := S.1
  have hb := S.2.1
  have hown := S.2.2.2.1
  have hts : ∀ w ∈ allW, w.before (List.toArray [.ref (a_T 0)]) s = true := fun w h => S.2.2.2.2 w (List.mem_cons_of_mem _ h)
  have hl : lv_has ls 1 [(0, .ref (a_T 0))] := hl
  unfold f_X12_plainTried at hf
  refine lv_aload_n hx hb dX12_plainTried_0 rfl (lv_at hl 0 rfl) ?_
  refine lv_iconst (v := 0) hx hb dX12_plainTried_1 (by decide) ?_
  obtain ⟨u_T_1, eu_T_1⟩ : ∃ z : S32, z = up2 u_T 0 61 (0 : Int32) := ⟨_, rfl⟩
  replace hf := tx_let_e hf eu_T_1
  refine pf_X12_356 (ws' := cl_X12 g a_T u_T_1 v_T ++ X) S hE hw (by decide) (by decide) 0 rfl (Nat.le_of_ble_eq_true rfl) (by rw [eu_T_1]; rfl) dX12_plainTried_2 (fun H locs hw => ?_)
  refine lv_aload_n hx hb dX12_plainTried_5 rfl (lv_at hl 0 rfl) ?_
  refine lv_iconst (v := 0) hx hb dX12_plainTried_6 (by decide) ?_
  obtain ⟨u_T_2, eu_T_2⟩ : ∃ z : S32, z = up2 u_T_1 0 62 (0 : Int32) := ⟨_, rfl⟩
  replace hf := tx_let_e hf eu_T_2
  refine pf_X12_359 (ws' := cl_X12 g a_T u_T_2 v_T ++ X) S hE hw (by decide) (by decide) 0 rfl (Nat.le_of_ble_eq_true rfl) (by rw [eu_T_2]; rfl) dX12_plainTried_7 (fun H locs hw => ?_)
  refine lv_aload_n hx hb dX12_plainTried_10 rfl (lv_at hl 0 rfl) ?_
  refine lv_iconst (v := 0) hx hb dX12_plainTried_11 (by decide) ?_
  obtain ⟨u_T_3, eu_T_3⟩ : ∃ z : S32, z = up2 u_T_2 0 63 (0 : Int32) := ⟨_, rfl⟩
  replace hf := tx_let_e hf eu_T_3
  refine pf_X12_362 (ws' := cl_X12 g a_T u_T_3 v_T ++ X) S hE hw (by decide) (by decide) 0 rfl (Nat.le_of_ble_eq_true rfl) (by rw [eu_T_3]; rfl) dX12_plainTried_12 (fun H locs hw => ?_)
  refine lv_aload_n hx hb dX12_plainTried_15 rfl (lv_at hl 0 rfl) ?_
  refine lv_iconst (v := 0) hx hb dX12_plainTried_16 (by decide) ?_
  obtain ⟨u_T_4, eu_T_4⟩ : ∃ z : S32, z = up2 u_T_3 0 64 (0 : Int32) := ⟨_, rfl⟩
  replace hf := tx_let_e hf eu_T_4
  refine pf_X12_365 (ws' := cl_X12 g a_T u_T_4 v_T ++ X) S hE hw (by decide) (by decide) 0 rfl (Nat.le_of_ble_eq_true rfl) (by rw [eu_T_4]; rfl) dX12_plainTried_17 (fun H locs hw => ?_)
  refine lv_aload_n hx hb dX12_plainTried_20 rfl (lv_at hl 0 rfl) ?_
  refine lv_iconst (v := 0) hx hb dX12_plainTried_21 (by decide) ?_
  obtain ⟨u_T_5, eu_T_5⟩ : ∃ z : S32, z = up2 u_T_4 0 65 (0 : Int32) := ⟨_, rfl⟩
  replace hf := tx_let_e hf eu_T_5
  refine pf_X12_368 (ws' := cl_X12 g a_T u_T_5 v_T ++ X) S hE hw (by decide) (by decide) 0 rfl (Nat.le_of_ble_eq_true rfl) (by rw [eu_T_5]; rfl) dX12_plainTried_22 (fun H locs hw => ?_)
  refine lv_aload_n hx hb dX12_plainTried_25 rfl (lv_at hl 0 rfl) ?_
  refine lv_iconst (v := -1) hx hb dX12_plainTried_26 (by decide) ?_
  obtain ⟨u_T_6, eu_T_6⟩ : ∃ z : S32, z = up2 u_T_5 0 66 (-1 : Int32) := ⟨_, rfl⟩
  replace hf := tx_let_e hf eu_T_6
  refine pf_X12_371 (ws' := cl_X12 g a_T u_T_6 v_T ++ X) S hE hw rfl rfl 0 rfl (Nat.le_of_ble_eq_true rfl) (by rw [eu_T_6]; rfl) dX12_plainTried_27 (fun H locs hw => ?_)
  refine lv_aload_n hx hb dX12_plainTried_30 rfl (lv_at hl 0 rfl) ?_
  refine lv_iconst (v := -1) hx hb dX12_plainTried_31 (by decide) ?_
  obtain ⟨u_T_7, eu_T_7⟩ : ∃ z : S32, z = up2 u_T_6 0 67 (-1 : Int32) := ⟨_, rfl⟩
  replace hf := tx_let_e hf eu_T_7
  refine pf_X12_374 (ws' := cl_X12 g a_T u_T_7 v_T ++ X) S hE hw rfl rfl 0 rfl (Nat.le_of_ble_eq_true rfl) (by rw [eu_T_7]; rfl) dX12_plainTried_32 (fun H locs hw => ?_)
  refine lv_aload_n hx hb dX12_plainTried_35 rfl (lv_at hl 0 rfl) ?_
  refine lv_iconst (v := -1) hx hb dX12_plainTried_36 (by decide) ?_
  obtain ⟨u_T_8, eu_T_8⟩ : ∃ z : S32, z = up2 u_T_7 0 68 (-1 : Int32) := ⟨_, rfl⟩
  replace hf := tx_let_e hf eu_T_8
  refine pf_X12_377 (ws' := cl_X12 g a_T u_T_8 v_T ++ X) S hE hw rfl rfl 0 rfl (Nat.le_of_ble_eq_true rfl) (by rw [eu_T_8]; rfl) dX12_plainTried_37 (fun H locs hw => ?_)
  refine lv_aload_n hx hb dX12_plainTried_40 rfl (lv_at hl 0 rfl) ?_
  refine lv_iconst (v := 0) hx hb dX12_plainTried_41 (by decide) ?_
  obtain ⟨u_T_9, eu_T_9⟩ : ∃ z : S32, z = up2 u_T_8 0 69 (0 : Int32) := ⟨_, rfl⟩
  replace hf := tx_let_e hf eu_T_9
  refine pf_X12_380 (ws' := cl_X12 g a_T u_T_9 v_T ++ X) S hE hw rfl rfl 0 rfl (Nat.le_of_ble_eq_true rfl) (by rw [eu_T_9]; rfl) dX12_plainTried_42 (fun H locs hw => ?_)
  obtain e0 := tx_in1 hf
  rw [← e0]
  exact tx_vret S hr hlk hw dX12_plainTried_45
def f_X12_begin (fu : Nat) (u_T : S32) (v_T : S64) : Option (S32 × S64) := tx_b1 (f_X12_atFirst fu v_T u_T (0 : Int32)) fun (u_T_2 : S32) => tx_let (up4 v_T 0 59 ((u_T_2 22 (2 : Int32).toNatClampNeg).toInt64)) fun (v_T_3 : S64) => tx_b1 (f_X12_plainTried fu v_T_3 u_T_2) fun (u_T_5 : S32) => tx_let (up2 u_T_5 0 71 (0 : Int32)) fun (u_T_6 : S32) => tx_let (up2 u_T_6 0 72 (-1 : Int32)) fun (u_T_7 : S32) => tx_let (up2 u_T_7 0 75 (0 : Int32)) fun (u_T_8 : S32) => tx_let (up2 u_T_8 0 77 (0 : Int32)) fun (u_T_9 : S32) => some (u_T_9, v_T_3)
set_option maxHeartbeats 4000000 in
set_option maxRecDepth 100000 in
theorem c_X12_begin {l : Launch} {g : GG} {A : Nat → Prop} {X : va_W} {fu : Nat} {a_T : Nat → Nat} {u_T : S32} {v_T : S64} {zu_T : S32} {zv_T : S64} (hf : f_X12_begin fu  u_T v_T = some (zu_T, zv_T)) : MV l yX12_begin cX12_begin 1 none 1 g A (cl_X12 g a_T u_T v_T ++ X) [.ref (a_T 0)] (cl_X12 g a_T zu_T zv_T ++ X) := by
  refine tx_start (av := [.ref (a_T 0)]) (by decide) (Nat.le_of_ble_eq_true rfl) ?_
  intro p e s m below meth c ls S hr hlk hE hw hl
  have S : CallFix p m c cX12_begin 1 s (List.toArray [.ref (a_T 0)]) (Cond.code yX12_begin cX12_begin 1 none :: allW) RX12 := S
  have hx := S.1
  have hb := S.2.1
  have hown := S.2.2.2.1
  have hts : ∀ w ∈ allW, w.before (List.toArray [.ref (a_T 0)]) s = true := fun w h => S.2.2.2.2 w (List.mem_cons_of_mem _ h)
  have hl : lv_has ls 1 [(0, .ref (a_T 0))] := hl
  unfold f_X12_begin at hf
  refine lv_aload_n hx hb dX12_begin_0 rfl (lv_at hl 0 rfl) ?_
  refine lv_iconst (v := 0) hx hb dX12_begin_1 (by decide) ?_
  obtain ⟨u_T_2, h_1, hf⟩ := tx_b1_e hf
  refine tx_cv hw (tx_runV S hE hw (c_X12_atFirst h_1) lk_X12_337 (q0 := 0) rfl rfl rfl hl.1 (rest := []) rfl (Nat.le_of_ble_eq_true rfl) ⟨by decide, by decide⟩ dX12_begin_2 ⟨Nat.zero_le _, Nat.zero_le _⟩) (fun H locs hw => ?_)
  refine lv_aload_n hx hb dX12_begin_5 rfl (lv_at hl 0 rfl) ?_
  refine lv_aload_n hx hb dX12_begin_6 rfl (lv_at hl 0 rfl) ?_
  refine gf_X12_24 S hE hw 0 rfl rfl dX12_begin_7 ?_
  refine lv_iconst (v := 2) hx hb dX12_begin_10 (by decide) ?_
  refine tx_iald S hE hw 4 rfl (by unfold vp_in; decide) dX12_begin_11 ?_
  refine lv_i2l (v := (u_T_2 22 (2 : Int32).toNatClampNeg).toInt64) hx hb dX12_begin_12 rfl ?_
  obtain ⟨v_T_3, ev_T_3⟩ : ∃ z : S64, z = up4 v_T 0 59 ((u_T_2 22 (2 : Int32).toNatClampNeg).toInt64) := ⟨_, rfl⟩
  replace hf := tx_let_e hf ev_T_3
  refine pf_X12_340 (ws' := cl_X12 g a_T u_T_2 v_T_3 ++ X) S hE hw rfl rfl 0 rfl (Nat.le_of_ble_eq_true rfl) (by rw [ev_T_3]; rfl) dX12_begin_13 (fun H locs hw => ?_)
  refine lv_aload_n hx hb dX12_begin_16 rfl (lv_at hl 0 rfl) ?_
  obtain ⟨u_T_5, h_4, hf⟩ := tx_b1_e hf
  refine tx_cv hw (tx_runV S hE hw (c_X12_plainTried h_4) lk_X12_344 (q0 := 0) rfl rfl rfl hl.1 (rest := []) rfl (Nat.le_of_ble_eq_true rfl) ⟨by decide, by decide⟩ dX12_begin_17 ⟨Nat.zero_le _, Nat.zero_le _⟩) (fun H locs hw => ?_)
  refine lv_aload_n hx hb dX12_begin_20 rfl (lv_at hl 0 rfl) ?_
  refine lv_iconst (v := 0) hx hb dX12_begin_21 (by decide) ?_
  obtain ⟨u_T_6, eu_T_6⟩ : ∃ z : S32, z = up2 u_T_5 0 71 (0 : Int32) := ⟨_, rfl⟩
  replace hf := tx_let_e hf eu_T_6
  refine pf_X12_347 (ws' := cl_X12 g a_T u_T_6 v_T_3 ++ X) S hE hw rfl rfl 0 rfl (Nat.le_of_ble_eq_true rfl) (by rw [eu_T_6]; rfl) dX12_begin_22 (fun H locs hw => ?_)
  refine lv_aload_n hx hb dX12_begin_25 rfl (lv_at hl 0 rfl) ?_
  refine lv_iconst (v := -1) hx hb dX12_begin_26 (by decide) ?_
  obtain ⟨u_T_7, eu_T_7⟩ : ∃ z : S32, z = up2 u_T_6 0 72 (-1 : Int32) := ⟨_, rfl⟩
  replace hf := tx_let_e hf eu_T_7
  refine pf_X12_121 (ws' := cl_X12 g a_T u_T_7 v_T_3 ++ X) S hE hw rfl rfl 0 rfl (Nat.le_of_ble_eq_true rfl) (by rw [eu_T_7]; rfl) dX12_begin_27 (fun H locs hw => ?_)
  refine lv_aload_n hx hb dX12_begin_30 rfl (lv_at hl 0 rfl) ?_
  refine lv_iconst (v := 0) hx hb dX12_begin_31 (by decide) ?_
  obtain ⟨u_T_8, eu_T_8⟩ : ∃ z : S32, z = up2 u_T_7 0 75 (0 : Int32) := ⟨_, rfl⟩
  replace hf := tx_let_e hf eu_T_8
  refine pf_X12_350 (ws' := cl_X12 g a_T u_T_8 v_T_3 ++ X) S hE hw rfl rfl 0 rfl (Nat.le_of_ble_eq_true rfl) (by rw [eu_T_8]; rfl) dX12_begin_32 (fun H locs hw => ?_)
  refine lv_aload_n hx hb dX12_begin_35 rfl (lv_at hl 0 rfl) ?_
  refine lv_iconst (v := 0) hx hb dX12_begin_36 (by decide) ?_
  obtain ⟨u_T_9, eu_T_9⟩ : ∃ z : S32, z = up2 u_T_8 0 77 (0 : Int32) := ⟨_, rfl⟩
  replace hf := tx_let_e hf eu_T_9
  refine pf_X12_353 (ws' := cl_X12 g a_T u_T_9 v_T_3 ++ X) S hE hw (by decide) (by decide) 0 rfl (Nat.le_of_ble_eq_true rfl) (by rw [eu_T_9]; rfl) dX12_begin_37 (fun H locs hw => ?_)
  obtain ⟨e0, e1⟩ := tx_in2 hf
  rw [← e0, ← e1]
  exact tx_vret S hr hlk hw dX12_begin_40
def f_X12_keepText_J129 (fu : Nat) (K129 : S32 → S64 → Int32 → Option (S32 × S64)) (u_T : S32) (v_T : S64) (w1 : Int32) : Option (S32 × S64) := if (3 : Int32) ≤ w1 then (tx_b1 (f_X12_copies_oX12r34 fu v_T u_T (3 : Int32)) fun (u_T_29 : S32) => tx_b1 (f_X12_copies_oX12r35 fu v_T u_T_29 (3 : Int32)) fun (u_T_31 : S32) => tx_b1 (f_X12_copies_oX12r36 fu v_T u_T_31 (64 : Int32)) fun (u_T_33 : S32) => tx_b1 (f_X12_copies_oX12r37 fu v_T u_T_33 (64 : Int32)) fun (u_T_35 : S32) => tx_b1 (f_X12_copies_oX12r38 fu v_T u_T_35 (64 : Int32)) fun (u_T_37 : S32) => tx_b2 (f_X12_begin fu u_T_37 v_T) fun (u_T_39 : S32) (v_T_40 : S64) => some (u_T_39, v_T_40)) else (tx_ck ((3 : Int32) + w1) 6 <| tx_ck w1 6 <| tx_let (up2 u_T 33 w1.toNatClampNeg ((u_T 33 ((3 : Int32) + w1).toNatClampNeg) &&& 1)) fun (u_T_43 : S32) => tx_let (w1 + (1 : Int32)) fun (y_44 : Int32) => K129 u_T_43 v_T y_44)
def f_X12_keepText_L129 (fu : Nat) : Nat → S32 → S64 → Int32 → Option (S32 × S64)
  | 0 => fun _ _ _ => none
  | n + 1 => f_X12_keepText_J129 fu (f_X12_keepText_L129 fu n)
def f_X12_keepText (fu : Nat) (u_T : S32) (v_T : S64) : Option (S32 × S64) := tx_let (up2 u_T 0 12 (u_T 0 16)) fun (u_T_1 : S32) => tx_let (up2 u_T_1 0 13 (u_T_1 0 17)) fun (u_T_2 : S32) => tx_let (up2 u_T_2 0 14 (u_T_2 0 18)) fun (u_T_3 : S32) => tx_let (up2 u_T_3 0 15 (u_T_3 0 19)) fun (u_T_4 : S32) => tx_b1 (f_X12_copies_oX12r22 fu v_T u_T_4 (3 : Int32)) fun (u_T_6 : S32) => tx_b1 (f_X12_copies_oX12r23 fu v_T u_T_6 (6 : Int32)) fun (u_T_8 : S32) => tx_b1 (f_X12_copies_oX12r24 fu v_T u_T_8 (6 : Int32)) fun (u_T_10 : S32) => tx_b1 (f_X12_copies_oX12r25 fu v_T u_T_10 (6 : Int32)) fun (u_T_12 : S32) => tx_b1 (f_X12_copies_oX12r26 fu v_T u_T_12 (12 : Int32)) fun (u_T_14 : S32) => tx_b1 (f_X12_copies_oX12r27 fu v_T u_T_14 (12 : Int32)) fun (u_T_16 : S32) => tx_b1 (f_X12_copies_oX12r28 fu v_T u_T_16 (12 : Int32)) fun (u_T_18 : S32) => tx_b1 (f_X12_copies_oX12r29 fu v_T u_T_18 (12 : Int32)) fun (u_T_20 : S32) => tx_b1 (f_X12_copies_oX12r30 fu v_T u_T_20 (4 : Int32)) fun (u_T_22 : S32) => tx_b1 (f_X12_copies_oX12r31 fu v_T u_T_22 (4 : Int32)) fun (u_T_24 : S32) => tx_b1 (f_X12_copies_oX12r32 fu v_T u_T_24 (4 : Int32)) fun (u_T_26 : S32) => f_X12_keepText_L129 fu fu u_T_26 v_T (0 : Int32)
set_option maxHeartbeats 4000000 in
set_option maxRecDepth 100000 in
theorem c_X12_keepText {l : Launch} {g : GG} {A : Nat → Prop} {X : va_W} {fu : Nat} {a_T : Nat → Nat} {u_T : S32} {v_T : S64} {zu_T : S32} {zv_T : S64} (hf : f_X12_keepText fu  u_T v_T = some (zu_T, zv_T)) : MV l yX12_keepText cX12_keepText 2 none 2 g A (cl_X12 g a_T u_T v_T ++ X) [.ref (a_T 0)] (cl_X12 g a_T zu_T zv_T ++ X) := by
  refine tx_start (av := [.ref (a_T 0)]) (by decide) (Nat.le_of_ble_eq_true rfl) ?_
  intro p e s m below meth c ls S hr hlk hE hw hl
  have S : CallFix p m c cX12_keepText 2 s (List.toArray [.ref (a_T 0)]) (Cond.code yX12_keepText cX12_keepText 2 none :: allW) RX12 := S
  have hx := S.1
  have hb := S.2.1
  have hown := S.2.2.2.1
  have hts : ∀ w ∈ allW, w.before (List.toArray [.ref (a_T 0)]) s = true := fun w h => S.2.2.2.2 w (List.mem_cons_of_mem _ h)
  have hl : lv_has ls 2 [(0, .ref (a_T 0))] := hl
  have J129 : ∀ {K129 : S32 → S64 → Int32 → Option (S32 × S64)} (hK129 : ∀ {u_T : S32} {v_T : S64} {w1 : Int32} {H : Heap} {locs : List Loc} {ls : Array Slot}, K129 u_T v_T w1 = some (zu_T, zv_T) → WD g A s.heap (cl_X12 g a_T u_T v_T ++ X) H locs → lv_has ls 2 [(0, .ref (a_T 0)), (1, .int w1)] → W p l e (rmH 2) s m (List.toArray [.ref (a_T 0)]) below meth c H locs 0 0 (MQ below (va_Qv (fun (_ : Unit) => True) (fun _ t => POST g A (cl_X12 g a_T zu_T zv_T ++ X) t) A) (List.toArray [.ref (a_T 0)]) s 0 0 A) (F0 m 129 ls [])), ∀ {u_T : S32} {v_T : S64} {w1 : Int32} {H : Heap} {locs : List Loc} {ls : Array Slot}, f_X12_keepText_J129 fu K129 u_T v_T w1 = some (zu_T, zv_T) → WD g A s.heap (cl_X12 g a_T u_T v_T ++ X) H locs → lv_has ls 2 [(0, .ref (a_T 0)), (1, .int w1)] → W p l e (rmH 2) s m (List.toArray [.ref (a_T 0)]) below meth c H locs 0 0 (MQ below (va_Qv (fun (_ : Unit) => True) (fun _ t => POST g A (cl_X12 g a_T zu_T zv_T ++ X) t) A) (List.toArray [.ref (a_T 0)]) s 0 0 A) (F0 m 129 ls []) := by
    intro K129 hK129 u_T v_T w1 H locs ls hf hw hl
    unfold f_X12_keepText_J129 at hf
    refine lv_iload_n hx hb dX12_keepText_129 rfl (lv_at hl 1 rfl) ?_
    refine lv_iconst (v := 3) hx hb dX12_keepText_130 (by decide) ?_
    refine lv_icmp_ge (tgt := 154) hx hb dX12_keepText_131 (by decide) (fun h_27 => ?_) (fun h_27 => ?_)
    · replace hf := tx_pos hf h_27
      refine lv_aload_n hx hb dX12_keepText_154 rfl (lv_at hl 0 rfl) ?_
      refine gf_X12_60 S hE hw 0 rfl rfl dX12_keepText_155 ?_
      refine lv_iconst (v := 3) hx hb dX12_keepText_158 (by decide) ?_
      obtain ⟨u_T_29, h_28, hf⟩ := tx_b1_e hf
      refine tx_cv hw (tx_runS S hE hw (c_X12_copies_oX12r34 h_28) lk_X12_234 rfl hl.1 (rest := []) rfl (Nat.le_of_ble_eq_true rfl) ⟨by decide, by decide⟩ dX12_keepText_159 ⟨Nat.zero_le _, Nat.zero_le _⟩) (fun H locs hw => ?_)
      refine lv_aload_n hx hb dX12_keepText_162 rfl (lv_at hl 0 rfl) ?_
      refine gf_X12_63 S hE hw 0 rfl rfl dX12_keepText_163 ?_
      refine lv_iconst (v := 3) hx hb dX12_keepText_166 (by decide) ?_
      obtain ⟨u_T_31, h_30, hf⟩ := tx_b1_e hf
      refine tx_cv hw (tx_runS S hE hw (c_X12_copies_oX12r35 h_30) lk_X12_234 rfl hl.1 (rest := []) rfl (Nat.le_of_ble_eq_true rfl) ⟨by decide, by decide⟩ dX12_keepText_167 ⟨Nat.zero_le _, Nat.zero_le _⟩) (fun H locs hw => ?_)
      refine lv_aload_n hx hb dX12_keepText_170 rfl (lv_at hl 0 rfl) ?_
      refine gf_X12_66 S hE hw 0 rfl rfl dX12_keepText_171 ?_
      refine lv_bipush (v := 64) hx hb dX12_keepText_174 (by decide) ?_
      obtain ⟨u_T_33, h_32, hf⟩ := tx_b1_e hf
      refine tx_cv hw (tx_runS S hE hw (c_X12_copies_oX12r36 h_32) lk_X12_234 rfl hl.1 (rest := []) rfl (Nat.le_of_ble_eq_true rfl) ⟨by decide, by decide⟩ dX12_keepText_176 ⟨Nat.zero_le _, Nat.zero_le _⟩) (fun H locs hw => ?_)
      refine lv_aload_n hx hb dX12_keepText_179 rfl (lv_at hl 0 rfl) ?_
      refine gf_X12_69 S hE hw 0 rfl rfl dX12_keepText_180 ?_
      refine lv_bipush (v := 64) hx hb dX12_keepText_183 (by decide) ?_
      obtain ⟨u_T_35, h_34, hf⟩ := tx_b1_e hf
      refine tx_cv hw (tx_runS S hE hw (c_X12_copies_oX12r37 h_34) lk_X12_234 rfl hl.1 (rest := []) rfl (Nat.le_of_ble_eq_true rfl) ⟨by decide, by decide⟩ dX12_keepText_185 ⟨Nat.zero_le _, Nat.zero_le _⟩) (fun H locs hw => ?_)
      refine lv_aload_n hx hb dX12_keepText_188 rfl (lv_at hl 0 rfl) ?_
      refine gf_X12_72 S hE hw 0 rfl rfl dX12_keepText_189 ?_
      refine lv_bipush (v := 64) hx hb dX12_keepText_192 (by decide) ?_
      obtain ⟨u_T_37, h_36, hf⟩ := tx_b1_e hf
      refine tx_cv hw (tx_runS S hE hw (c_X12_copies_oX12r38 h_36) lk_X12_234 rfl hl.1 (rest := []) rfl (Nat.le_of_ble_eq_true rfl) ⟨by decide, by decide⟩ dX12_keepText_194 ⟨Nat.zero_le _, Nat.zero_le _⟩) (fun H locs hw => ?_)
      refine lv_aload_n hx hb dX12_keepText_197 rfl (lv_at hl 0 rfl) ?_
      obtain ⟨u_T_39, v_T_40, h_38, hf⟩ := tx_b2_e hf
      refine tx_cv hw (tx_runV S hE hw (c_X12_begin h_38) lk_X12_238 (q0 := 0) rfl rfl rfl hl.1 (rest := []) rfl (Nat.le_of_ble_eq_true rfl) ⟨by decide, by decide⟩ dX12_keepText_198 ⟨Nat.zero_le _, Nat.zero_le _⟩) (fun H locs hw => ?_)
      obtain ⟨e0, e1⟩ := tx_in2 hf
      rw [← e0, ← e1]
      exact tx_vret S hr hlk hw dX12_keepText_201
    · replace hf := tx_neg hf h_27
      refine lv_aload_n hx hb dX12_keepText_134 rfl (lv_at hl 0 rfl) ?_
      refine gf_X12_57 S hE hw 0 rfl rfl dX12_keepText_135 ?_
      refine lv_iload_n hx hb dX12_keepText_138 rfl (lv_at hl 1 rfl) ?_
      refine lv_aload_n hx hb dX12_keepText_139 rfl (lv_at hl 0 rfl) ?_
      refine gf_X12_57 S hE hw 0 rfl rfl dX12_keepText_140 ?_
      refine lv_iconst (v := 3) hx hb dX12_keepText_143 (by decide) ?_
      refine lv_iload_n hx hb dX12_keepText_144 rfl (lv_at hl 1 rfl) ?_
      refine lv_iadd hx hb dX12_keepText_145 ?_
      obtain ⟨h_41, hf⟩ := tx_ck_e hf
      refine tx_zald S hE hw 15 rfl h_41 dX12_keepText_146 ?_
      obtain ⟨h_42, hf⟩ := tx_ck_e hf
      obtain ⟨u_T_43, eu_T_43⟩ : ∃ z : S32, z = up2 u_T 33 w1.toNatClampNeg ((u_T 33 ((3 : Int32) + w1).toNatClampNeg) &&& 1) := ⟨_, rfl⟩
      replace hf := tx_let_e hf eu_T_43
      refine tx_zast (ws' := cl_X12 g a_T u_T_43 v_T ++ X) S hE hw 15 rfl h_42 (by rw [eu_T_43]; rfl) dX12_keepText_147 (fun H locs hw => ?_)
      obtain ⟨y_44, ey_44⟩ : ∃ y : Int32, y = w1 + (1 : Int32) := ⟨_, rfl⟩
      replace hf := tx_let_e hf ey_44
      refine lv_iinc (v := y_44) (lv' := [(1, .int y_44), (0, .ref (a_T 0))]) hx hb dX12_keepText_148 hl (k := 1) rfl (by rw [ey_44]; rfl) (by decide) rfl (fun ls hl => ?_)
      refine lv_goto (tgt := 129) hx hb dX12_keepText_151 (by decide) ?_
      exact hK129 hf hw (lv_sub hl [1, 0] rfl)
  have L129 : ∀ (n : Nat), ∀ {u_T : S32} {v_T : S64} {w1 : Int32} {H : Heap} {locs : List Loc} {ls : Array Slot}, f_X12_keepText_L129 fu n u_T v_T w1 = some (zu_T, zv_T) → WD g A s.heap (cl_X12 g a_T u_T v_T ++ X) H locs → lv_has ls 2 [(0, .ref (a_T 0)), (1, .int w1)] → W p l e (rmH 2) s m (List.toArray [.ref (a_T 0)]) below meth c H locs 0 0 (MQ below (va_Qv (fun (_ : Unit) => True) (fun _ t => POST g A (cl_X12 g a_T zu_T zv_T ++ X) t) A) (List.toArray [.ref (a_T 0)]) s 0 0 A) (F0 m 129 ls []) := by
    intro  n
    induction n with
    | zero => intro u_T v_T w1 H locs ls hf; exact absurd hf (by intro q; cases q)
    | succ n ih => exact fun hf hw hl => J129 ih hf hw hl
  unfold f_X12_keepText at hf
  refine lv_aload_n hx hb dX12_keepText_0 rfl (lv_at hl 0 rfl) ?_
  refine lv_aload_n hx hb dX12_keepText_1 rfl (lv_at hl 0 rfl) ?_
  refine gf_X12_207 S hE hw 0 rfl rfl dX12_keepText_2 ?_
  obtain ⟨u_T_1, eu_T_1⟩ : ∃ z : S32, z = up2 u_T 0 12 (u_T 0 16) := ⟨_, rfl⟩
  replace hf := tx_let_e hf eu_T_1
  refine pf_X12_222 (ws' := cl_X12 g a_T u_T_1 v_T ++ X) S hE hw rfl rfl 0 rfl (Nat.le_of_ble_eq_true rfl) (by rw [eu_T_1]; rfl) dX12_keepText_5 (fun H locs hw => ?_)
  refine lv_aload_n hx hb dX12_keepText_8 rfl (lv_at hl 0 rfl) ?_
  refine lv_aload_n hx hb dX12_keepText_9 rfl (lv_at hl 0 rfl) ?_
  refine gf_X12_210 S hE hw 0 rfl rfl dX12_keepText_10 ?_
  obtain ⟨u_T_2, eu_T_2⟩ : ∃ z : S32, z = up2 u_T_1 0 13 (u_T_1 0 17) := ⟨_, rfl⟩
  replace hf := tx_let_e hf eu_T_2
  refine pf_X12_225 (ws' := cl_X12 g a_T u_T_2 v_T ++ X) S hE hw rfl rfl 0 rfl (Nat.le_of_ble_eq_true rfl) (by rw [eu_T_2]; rfl) dX12_keepText_13 (fun H locs hw => ?_)
  refine lv_aload_n hx hb dX12_keepText_16 rfl (lv_at hl 0 rfl) ?_
  refine lv_aload_n hx hb dX12_keepText_17 rfl (lv_at hl 0 rfl) ?_
  refine gf_X12_213 S hE hw 0 rfl rfl dX12_keepText_18 ?_
  obtain ⟨u_T_3, eu_T_3⟩ : ∃ z : S32, z = up2 u_T_2 0 14 (u_T_2 0 18) := ⟨_, rfl⟩
  replace hf := tx_let_e hf eu_T_3
  refine pf_X12_228 (ws' := cl_X12 g a_T u_T_3 v_T ++ X) S hE hw rfl rfl 0 rfl (Nat.le_of_ble_eq_true rfl) (by rw [eu_T_3]; rfl) dX12_keepText_21 (fun H locs hw => ?_)
  refine lv_aload_n hx hb dX12_keepText_24 rfl (lv_at hl 0 rfl) ?_
  refine lv_aload_n hx hb dX12_keepText_25 rfl (lv_at hl 0 rfl) ?_
  refine gf_X12_216 S hE hw 0 rfl rfl dX12_keepText_26 ?_
  obtain ⟨u_T_4, eu_T_4⟩ : ∃ z : S32, z = up2 u_T_3 0 15 (u_T_3 0 19) := ⟨_, rfl⟩
  replace hf := tx_let_e hf eu_T_4
  refine pf_X12_231 (ws' := cl_X12 g a_T u_T_4 v_T ++ X) S hE hw rfl rfl 0 rfl (Nat.le_of_ble_eq_true rfl) (by rw [eu_T_4]; rfl) dX12_keepText_29 (fun H locs hw => ?_)
  refine lv_aload_n hx hb dX12_keepText_32 rfl (lv_at hl 0 rfl) ?_
  refine gf_X12_24 S hE hw 0 rfl rfl dX12_keepText_33 ?_
  refine lv_iconst (v := 3) hx hb dX12_keepText_36 (by decide) ?_
  obtain ⟨u_T_6, h_5, hf⟩ := tx_b1_e hf
  refine tx_cv hw (tx_runS S hE hw (c_X12_copies_oX12r22 h_5) lk_X12_234 rfl hl.1 (rest := []) rfl (Nat.le_of_ble_eq_true rfl) ⟨by decide, by decide⟩ dX12_keepText_37 ⟨Nat.zero_le _, Nat.zero_le _⟩) (fun H locs hw => ?_)
  refine lv_aload_n hx hb dX12_keepText_40 rfl (lv_at hl 0 rfl) ?_
  refine gf_X12_27 S hE hw 0 rfl rfl dX12_keepText_41 ?_
  refine lv_bipush (v := 6) hx hb dX12_keepText_44 (by decide) ?_
  obtain ⟨u_T_8, h_7, hf⟩ := tx_b1_e hf
  refine tx_cv hw (tx_runS S hE hw (c_X12_copies_oX12r23 h_7) lk_X12_234 rfl hl.1 (rest := []) rfl (Nat.le_of_ble_eq_true rfl) ⟨by decide, by decide⟩ dX12_keepText_46 ⟨Nat.zero_le _, Nat.zero_le _⟩) (fun H locs hw => ?_)
  refine lv_aload_n hx hb dX12_keepText_49 rfl (lv_at hl 0 rfl) ?_
  refine gf_X12_30 S hE hw 0 rfl rfl dX12_keepText_50 ?_
  refine lv_bipush (v := 6) hx hb dX12_keepText_53 (by decide) ?_
  obtain ⟨u_T_10, h_9, hf⟩ := tx_b1_e hf
  refine tx_cv hw (tx_runS S hE hw (c_X12_copies_oX12r24 h_9) lk_X12_234 rfl hl.1 (rest := []) rfl (Nat.le_of_ble_eq_true rfl) ⟨by decide, by decide⟩ dX12_keepText_55 ⟨Nat.zero_le _, Nat.zero_le _⟩) (fun H locs hw => ?_)
  refine lv_aload_n hx hb dX12_keepText_58 rfl (lv_at hl 0 rfl) ?_
  refine gf_X12_33 S hE hw 0 rfl rfl dX12_keepText_59 ?_
  refine lv_bipush (v := 6) hx hb dX12_keepText_62 (by decide) ?_
  obtain ⟨u_T_12, h_11, hf⟩ := tx_b1_e hf
  refine tx_cv hw (tx_runS S hE hw (c_X12_copies_oX12r25 h_11) lk_X12_234 rfl hl.1 (rest := []) rfl (Nat.le_of_ble_eq_true rfl) ⟨by decide, by decide⟩ dX12_keepText_64 ⟨Nat.zero_le _, Nat.zero_le _⟩) (fun H locs hw => ?_)
  refine lv_aload_n hx hb dX12_keepText_67 rfl (lv_at hl 0 rfl) ?_
  refine gf_X12_36 S hE hw 0 rfl rfl dX12_keepText_68 ?_
  refine lv_bipush (v := 12) hx hb dX12_keepText_71 (by decide) ?_
  obtain ⟨u_T_14, h_13, hf⟩ := tx_b1_e hf
  refine tx_cv hw (tx_runS S hE hw (c_X12_copies_oX12r26 h_13) lk_X12_234 rfl hl.1 (rest := []) rfl (Nat.le_of_ble_eq_true rfl) ⟨by decide, by decide⟩ dX12_keepText_73 ⟨Nat.zero_le _, Nat.zero_le _⟩) (fun H locs hw => ?_)
  refine lv_aload_n hx hb dX12_keepText_76 rfl (lv_at hl 0 rfl) ?_
  refine gf_X12_39 S hE hw 0 rfl rfl dX12_keepText_77 ?_
  refine lv_bipush (v := 12) hx hb dX12_keepText_80 (by decide) ?_
  obtain ⟨u_T_16, h_15, hf⟩ := tx_b1_e hf
  refine tx_cv hw (tx_runS S hE hw (c_X12_copies_oX12r27 h_15) lk_X12_234 rfl hl.1 (rest := []) rfl (Nat.le_of_ble_eq_true rfl) ⟨by decide, by decide⟩ dX12_keepText_82 ⟨Nat.zero_le _, Nat.zero_le _⟩) (fun H locs hw => ?_)
  refine lv_aload_n hx hb dX12_keepText_85 rfl (lv_at hl 0 rfl) ?_
  refine gf_X12_42 S hE hw 0 rfl rfl dX12_keepText_86 ?_
  refine lv_bipush (v := 12) hx hb dX12_keepText_89 (by decide) ?_
  obtain ⟨u_T_18, h_17, hf⟩ := tx_b1_e hf
  refine tx_cv hw (tx_runS S hE hw (c_X12_copies_oX12r28 h_17) lk_X12_234 rfl hl.1 (rest := []) rfl (Nat.le_of_ble_eq_true rfl) ⟨by decide, by decide⟩ dX12_keepText_91 ⟨Nat.zero_le _, Nat.zero_le _⟩) (fun H locs hw => ?_)
  refine lv_aload_n hx hb dX12_keepText_94 rfl (lv_at hl 0 rfl) ?_
  refine gf_X12_45 S hE hw 0 rfl rfl dX12_keepText_95 ?_
  refine lv_bipush (v := 12) hx hb dX12_keepText_98 (by decide) ?_
  obtain ⟨u_T_20, h_19, hf⟩ := tx_b1_e hf
  refine tx_cv hw (tx_runS S hE hw (c_X12_copies_oX12r29 h_19) lk_X12_234 rfl hl.1 (rest := []) rfl (Nat.le_of_ble_eq_true rfl) ⟨by decide, by decide⟩ dX12_keepText_100 ⟨Nat.zero_le _, Nat.zero_le _⟩) (fun H locs hw => ?_)
  refine lv_aload_n hx hb dX12_keepText_103 rfl (lv_at hl 0 rfl) ?_
  refine gf_X12_48 S hE hw 0 rfl rfl dX12_keepText_104 ?_
  refine lv_iconst (v := 4) hx hb dX12_keepText_107 (by decide) ?_
  obtain ⟨u_T_22, h_21, hf⟩ := tx_b1_e hf
  refine tx_cv hw (tx_runS S hE hw (c_X12_copies_oX12r30 h_21) lk_X12_234 rfl hl.1 (rest := []) rfl (Nat.le_of_ble_eq_true rfl) ⟨by decide, by decide⟩ dX12_keepText_108 ⟨Nat.zero_le _, Nat.zero_le _⟩) (fun H locs hw => ?_)
  refine lv_aload_n hx hb dX12_keepText_111 rfl (lv_at hl 0 rfl) ?_
  refine gf_X12_51 S hE hw 0 rfl rfl dX12_keepText_112 ?_
  refine lv_iconst (v := 4) hx hb dX12_keepText_115 (by decide) ?_
  obtain ⟨u_T_24, h_23, hf⟩ := tx_b1_e hf
  refine tx_cv hw (tx_runS S hE hw (c_X12_copies_oX12r31 h_23) lk_X12_234 rfl hl.1 (rest := []) rfl (Nat.le_of_ble_eq_true rfl) ⟨by decide, by decide⟩ dX12_keepText_116 ⟨Nat.zero_le _, Nat.zero_le _⟩) (fun H locs hw => ?_)
  refine lv_aload_n hx hb dX12_keepText_119 rfl (lv_at hl 0 rfl) ?_
  refine gf_X12_54 S hE hw 0 rfl rfl dX12_keepText_120 ?_
  refine lv_iconst (v := 4) hx hb dX12_keepText_123 (by decide) ?_
  obtain ⟨u_T_26, h_25, hf⟩ := tx_b1_e hf
  refine tx_cv hw (tx_runS S hE hw (c_X12_copies_oX12r32 h_25) lk_X12_234 rfl hl.1 (rest := []) rfl (Nat.le_of_ble_eq_true rfl) ⟨by decide, by decide⟩ dX12_keepText_124 ⟨Nat.zero_le _, Nat.zero_le _⟩) (fun H locs hw => ?_)
  refine lv_iconst (v := 0) hx hb dX12_keepText_127 (by decide) ?_
  refine lv_istore_n (lv' := [(1, .int (0 : Int32)), (0, .ref (a_T 0))]) hx hb dX12_keepText_128 rfl hl (by decide) rfl (fun ls hl => ?_)
  exact L129 fu hf hw (lv_sub hl [1, 0] rfl)
def f_X12_seek_oX12r23_J3 (fu : Nat) (u_M : S32) (v_M : S64) (K3 : Int32 → Int32 → Int32 → Int32 → Option (Int32)) (w1 : Int32) (w2 : Int32) (w3 : Int32) (w4 : Int32) : Option (Int32) := if w2 ≤ w4 then (some (-1 : Int32)) else (tx_ck (w1 + w4) 12 <| if (u_M 23 (w1 + w4).toNatClampNeg) = w3 then (some w4) else (tx_let (w4 + (1 : Int32)) fun (y_4 : Int32) => K3 w1 w2 w3 y_4))
def f_X12_seek_oX12r23_L3 (fu : Nat) (u_M : S32) (v_M : S64) : Nat → Int32 → Int32 → Int32 → Int32 → Option (Int32)
  | 0 => fun _ _ _ _ => none
  | n + 1 => f_X12_seek_oX12r23_J3 fu u_M v_M (f_X12_seek_oX12r23_L3 fu u_M v_M n)
def f_X12_seek_oX12r23 (fu : Nat) (u_M : S32) (v_M : S64) (x1 : Int32) (x2 : Int32) (x3 : Int32) : Option (Int32) := f_X12_seek_oX12r23_L3 fu u_M v_M fu x1 x2 x3 (0 : Int32)
set_option maxHeartbeats 4000000 in
set_option maxRecDepth 100000 in
theorem c_X12_seek_oX12r23 {l : Launch} {g : GG} {A : Nat → Prop} {X : va_W} {fu : Nat} {a_M : Nat → Nat} {u_M : S32} {v_M : S64} {x1 : Int32} {x2 : Int32} {x3 : Int32} {r : Int32} (hf : f_X12_seek_oX12r23 fu u_M v_M x1 x2 x3 = some r) : MI l yX12_seek cX12_seek 5 (some .int) 0 g A (cl_X12 g a_M u_M v_M ++ X) [.ref (a_M 23), .int x1, .int x2, .int x3] r (cl_X12 g a_M u_M v_M ++ X) := by
  refine tx_start (av := [.ref (a_M 23), .int x1, .int x2, .int x3]) (by decide) (Nat.le_of_ble_eq_true rfl) ?_
  intro p e s m below meth c ls S hr hlk hE hw hl
  have S : CallFix p m c cX12_seek 5 s (List.toArray [.ref (a_M 23), .int x1, .int x2, .int x3]) (Cond.code yX12_seek cX12_seek 5 (some .int) :: allW) RX12 := S
  have hx := S.1
  have hb := S.2.1
  have hown := S.2.2.2.1
  have hts : ∀ w ∈ allW, w.before (List.toArray [.ref (a_M 23), .int x1, .int x2, .int x3]) s = true := fun w h => S.2.2.2.2 w (List.mem_cons_of_mem _ h)
  have hl : lv_has ls 5 [(0, .ref (a_M 23)), (1, .int x1), (2, .int x2), (3, .int x3)] := hl
  have J3 : ∀ {K3 : Int32 → Int32 → Int32 → Int32 → Option (Int32)} (hK3 : ∀ {w1 : Int32} {w2 : Int32} {w3 : Int32} {w4 : Int32} {H : Heap} {locs : List Loc} {ls : Array Slot}, K3 w1 w2 w3 w4 = some r → WD g A s.heap (cl_X12 g a_M u_M v_M ++ X) H locs → lv_has ls 5 [(0, .ref (a_M 23)), (1, .int w1), (2, .int w2), (3, .int w3), (4, .int w4)] → W p l e (rmH 0) s m (List.toArray [.ref (a_M 23), .int x1, .int x2, .int x3]) below meth c H locs 0 0 (MQ below (va_Qi (fun r2 (_ : Unit) => r2 = r) (fun _ t => POST g A (cl_X12 g a_M u_M v_M ++ X) t) A) (List.toArray [.ref (a_M 23), .int x1, .int x2, .int x3]) s 0 0 A) (F0 m 3 ls [])), ∀ {w1 : Int32} {w2 : Int32} {w3 : Int32} {w4 : Int32} {H : Heap} {locs : List Loc} {ls : Array Slot}, f_X12_seek_oX12r23_J3 fu u_M v_M K3 w1 w2 w3 w4 = some r → WD g A s.heap (cl_X12 g a_M u_M v_M ++ X) H locs → lv_has ls 5 [(0, .ref (a_M 23)), (1, .int w1), (2, .int w2), (3, .int w3), (4, .int w4)] → W p l e (rmH 0) s m (List.toArray [.ref (a_M 23), .int x1, .int x2, .int x3]) below meth c H locs 0 0 (MQ below (va_Qi (fun r2 (_ : Unit) => r2 = r) (fun _ t => POST g A (cl_X12 g a_M u_M v_M ++ X) t) A) (List.toArray [.ref (a_M 23), .int x1, .int x2, .int x3]) s 0 0 A) (F0 m 3 ls []) := by
    intro K3 hK3 w1 w2 w3 w4 H locs ls hf hw hl
    unfold f_X12_seek_oX12r23_J3 at hf
    refine lv_iload hx hb dX12_seek_3 (lv_at hl 4 rfl) ?_
    refine lv_iload_n hx hb dX12_seek_5 rfl (lv_at hl 2 rfl) ?_
    refine lv_icmp_ge (tgt := 28) hx hb dX12_seek_6 (by decide) (fun h_1 => ?_) (fun h_1 => ?_)
    · replace hf := tx_pos hf h_1
      refine lv_iconst (v := -1) hx hb dX12_seek_28 (by decide) ?_
      obtain e0 := tx_in1 hf
      rw [← e0]
      exact tx_iret S hr hlk hw dX12_seek_29
    · replace hf := tx_neg hf h_1
      refine lv_aload_n hx hb dX12_seek_9 rfl (lv_at hl 0 rfl) ?_
      refine lv_iload_n hx hb dX12_seek_10 rfl (lv_at hl 1 rfl) ?_
      refine lv_iload hx hb dX12_seek_11 (lv_at hl 4 rfl) ?_
      refine lv_iadd hx hb dX12_seek_13 ?_
      obtain ⟨h_2, hf⟩ := tx_ck_e hf
      refine tx_iald S hE hw 5 rfl h_2 dX12_seek_14 ?_
      refine lv_iload_n hx hb dX12_seek_15 rfl (lv_at hl 3 rfl) ?_
      refine lv_icmp_ne (tgt := 22) hx hb dX12_seek_16 (by decide) (fun h_3 => ?_) (fun h_3 => ?_)
      · replace hf := tx_neg hf h_3
        obtain ⟨y_4, ey_4⟩ : ∃ y : Int32, y = w4 + (1 : Int32) := ⟨_, rfl⟩
        replace hf := tx_let_e hf ey_4
        refine lv_iinc (v := y_4) (lv' := [(4, .int y_4), (0, .ref (a_M 23)), (1, .int w1), (2, .int w2), (3, .int w3)]) hx hb dX12_seek_22 hl (k := 4) rfl (by rw [ey_4]; rfl) (by decide) rfl (fun ls hl => ?_)
        refine lv_goto (tgt := 3) hx hb dX12_seek_25 (by decide) ?_
        exact hK3 hf hw (lv_sub hl [1, 2, 3, 4, 0] rfl)
      · replace hf := tx_pos hf h_3
        refine lv_iload hx hb dX12_seek_19 (lv_at hl 4 rfl) ?_
        obtain e0 := tx_in1 hf
        rw [← e0]
        exact tx_iret S hr hlk hw dX12_seek_21
  have L3 : ∀ (n : Nat), ∀ {w1 : Int32} {w2 : Int32} {w3 : Int32} {w4 : Int32} {H : Heap} {locs : List Loc} {ls : Array Slot}, f_X12_seek_oX12r23_L3 fu u_M v_M n w1 w2 w3 w4 = some r → WD g A s.heap (cl_X12 g a_M u_M v_M ++ X) H locs → lv_has ls 5 [(0, .ref (a_M 23)), (1, .int w1), (2, .int w2), (3, .int w3), (4, .int w4)] → W p l e (rmH 0) s m (List.toArray [.ref (a_M 23), .int x1, .int x2, .int x3]) below meth c H locs 0 0 (MQ below (va_Qi (fun r2 (_ : Unit) => r2 = r) (fun _ t => POST g A (cl_X12 g a_M u_M v_M ++ X) t) A) (List.toArray [.ref (a_M 23), .int x1, .int x2, .int x3]) s 0 0 A) (F0 m 3 ls []) := by
    intro  n
    induction n with
    | zero => intro w1 w2 w3 w4 H locs ls hf; exact absurd hf (by intro q; cases q)
    | succ n ih => exact fun hf hw hl => J3 ih hf hw hl
  unfold f_X12_seek_oX12r23 at hf
  refine lv_iconst (v := 0) hx hb dX12_seek_0 (by decide) ?_
  refine lv_istore (lv' := [(4, .int (0 : Int32)), (0, .ref (a_M 23)), (1, .int x1), (2, .int x2), (3, .int x3)]) hx hb dX12_seek_1 hl (by decide) rfl (fun ls hl => ?_)
  exact L3 fu hf hw (lv_sub hl [1, 2, 3, 4, 0] rfl)
def f_X12_newName_tX12r23 (fu : Nat) (v_T : S64) (u_T : S32) (x2 : Int32) (x3 : Int32) : Option (Int32 × S32) := if (u_T 0 8) = (2 : Int32) then (tx_b1 (f_X12_seek_oX12r23 fu u_T v_T x2 x3 (u_T 0 9)) fun (r_3 : Int32) => if r_3 < (0 : Int32) then (tx_ck (x2 + x3) 12 <| tx_let (up2 u_T 23 (x2 + x3).toNatClampNeg (u_T 0 9)) fun (u_T_6 : S32) => tx_b1 (f_X12_token fu v_T u_T_6) fun (u_T_8 : S32) => some ((1 : Int32), u_T_8)) else (tx_b2 (f_X12_wrong fu v_T u_T (3 : Int32)) fun (r_10 : Int32) (u_T_11 : S32) => tx_bz r_10 <| some (r_10, u_T_11))) else (tx_b2 (f_X12_wrong fu v_T u_T (1 : Int32)) fun (r_14 : Int32) (u_T_15 : S32) => tx_bz r_14 <| some (r_14, u_T_15))
set_option maxHeartbeats 4000000 in
set_option maxRecDepth 100000 in
theorem c_X12_newName_tX12r23 {l : Launch} {g : GG} {A : Nat → Prop} {X : va_W} {fu : Nat} {a_T : Nat → Nat} {u_T : S32} {v_T : S64} {x2 : Int32} {x3 : Int32} {r : Int32} {zu_T : S32} (hf : f_X12_newName_tX12r23 fu v_T u_T x2 x3 = some (r, zu_T)) : MI l yX12_newName cX12_newName 4 (some .boolean) 2 g A (cl_X12 g a_T u_T v_T ++ X) [.ref (a_T 0), .ref (a_T 23), .int x2, .int x3] r (cl_X12 g a_T zu_T v_T ++ X) := by
  refine tx_start (av := [.ref (a_T 0), .ref (a_T 23), .int x2, .int x3]) (by decide) (Nat.le_of_ble_eq_true rfl) ?_
  intro p e s m below meth c ls S hr hlk hE hw hl
  have S : CallFix p m c cX12_newName 4 s (List.toArray [.ref (a_T 0), .ref (a_T 23), .int x2, .int x3]) (Cond.code yX12_newName cX12_newName 4 (some .boolean) :: allW) RX12 := S
  have hx := S.1
  have hb := S.2.1
  have hown := S.2.2.2.1
  have hts : ∀ w ∈ allW, w.before (List.toArray [.ref (a_T 0), .ref (a_T 23), .int x2, .int x3]) s = true := fun w h => S.2.2.2.2 w (List.mem_cons_of_mem _ h)
  have hl : lv_has ls 4 [(0, .ref (a_T 0)), (1, .ref (a_T 23)), (2, .int x2), (3, .int x3)] := hl
  unfold f_X12_newName_tX12r23 at hf
  refine lv_aload_n hx hb dX12_newName_0 rfl (lv_at hl 0 rfl) ?_
  refine gf_X12_163 S hE hw 0 rfl rfl dX12_newName_1 ?_
  refine lv_iconst (v := 2) hx hb dX12_newName_4 (by decide) ?_
  refine lv_icmp_eq (tgt := 14) hx hb dX12_newName_5 (by decide) (fun h_1 => ?_) (fun h_1 => ?_)
  · replace hf := tx_pos hf h_1
    refine lv_aload_n hx hb dX12_newName_14 rfl (lv_at hl 1 rfl) ?_
    refine lv_iload_n hx hb dX12_newName_15 rfl (lv_at hl 2 rfl) ?_
    refine lv_iload_n hx hb dX12_newName_16 rfl (lv_at hl 3 rfl) ?_
    refine lv_aload_n hx hb dX12_newName_17 rfl (lv_at hl 0 rfl) ?_
    refine gf_X12_174 S hE hw 0 rfl rfl dX12_newName_18 ?_
    obtain ⟨r_3, h_2, hf⟩ := tx_b1_e hf
    refine tx_ci hw (tx_runS S hE hw (c_X12_seek_oX12r23 h_2) lk_X12_241 rfl hl.1 (rest := []) rfl (Nat.le_of_ble_eq_true rfl) ⟨by decide, by decide⟩ dX12_newName_21 ⟨Nat.zero_le _, Nat.zero_le _⟩) (fun H locs hw => ?_)
    refine lv_if_lt (tgt := 33) hx hb dX12_newName_24 (by decide) (fun h_4 => ?_) (fun h_4 => ?_)
    · replace hf := tx_pos hf h_4
      refine lv_aload_n hx hb dX12_newName_33 rfl (lv_at hl 1 rfl) ?_
      refine lv_iload_n hx hb dX12_newName_34 rfl (lv_at hl 2 rfl) ?_
      refine lv_iload_n hx hb dX12_newName_35 rfl (lv_at hl 3 rfl) ?_
      refine lv_iadd hx hb dX12_newName_36 ?_
      refine lv_aload_n hx hb dX12_newName_37 rfl (lv_at hl 0 rfl) ?_
      refine gf_X12_174 S hE hw 0 rfl rfl dX12_newName_38 ?_
      obtain ⟨h_5, hf⟩ := tx_ck_e hf
      obtain ⟨u_T_6, eu_T_6⟩ : ∃ z : S32, z = up2 u_T 23 (x2 + x3).toNatClampNeg (u_T 0 9) := ⟨_, rfl⟩
      replace hf := tx_let_e hf eu_T_6
      refine tx_iast (ws' := cl_X12 g a_T u_T_6 v_T ++ X) S hE hw 5 rfl h_5 (by rw [eu_T_6]; rfl) dX12_newName_41 (fun H locs hw => ?_)
      refine lv_aload_n hx hb dX12_newName_42 rfl (lv_at hl 0 rfl) ?_
      obtain ⟨u_T_8, h_7, hf⟩ := tx_b1_e hf
      refine tx_cv hw (tx_runV S hE hw (c_X12_token h_7) lk_X12_197 (q0 := 0) rfl rfl rfl hl.1 (rest := []) rfl (Nat.le_of_ble_eq_true rfl) ⟨by decide, by decide⟩ dX12_newName_43 ⟨Nat.zero_le _, Nat.zero_le _⟩) (fun H locs hw => ?_)
      refine lv_iconst (v := 1) hx hb dX12_newName_46 (by decide) ?_
      obtain ⟨e0, e1⟩ := tx_in2 hf
      rw [← e0, ← e1]
      exact tx_zret S hr hlk (by decide) hw dX12_newName_47
    · replace hf := tx_neg hf h_4
      refine lv_aload_n hx hb dX12_newName_27 rfl (lv_at hl 0 rfl) ?_
      refine lv_iconst (v := 3) hx hb dX12_newName_28 (by decide) ?_
      obtain ⟨r_10, u_T_11, h_9, hf⟩ := tx_b2_e hf
      refine tx_ci hw (tx_runV S hE hw (c_X12_wrong h_9) lk_X12_187 (q0 := 0) rfl rfl rfl hl.1 (rest := []) rfl (Nat.le_of_ble_eq_true rfl) ⟨by decide, by decide⟩ dX12_newName_29 ⟨Nat.zero_le _, Nat.zero_le _⟩) (fun H locs hw => ?_)
      obtain ⟨h_12, hf⟩ := tx_bz_e hf
      obtain ⟨e0, e1⟩ := tx_in2 hf
      rw [← e0, ← e1]
      exact tx_zret S hr hlk h_12 hw dX12_newName_32
  · replace hf := tx_neg hf h_1
    refine lv_aload_n hx hb dX12_newName_8 rfl (lv_at hl 0 rfl) ?_
    refine lv_iconst (v := 1) hx hb dX12_newName_9 (by decide) ?_
    obtain ⟨r_14, u_T_15, h_13, hf⟩ := tx_b2_e hf
    refine tx_ci hw (tx_runV S hE hw (c_X12_wrong h_13) lk_X12_187 (q0 := 0) rfl rfl rfl hl.1 (rest := []) rfl (Nat.le_of_ble_eq_true rfl) ⟨by decide, by decide⟩ dX12_newName_10 ⟨Nat.zero_le _, Nat.zero_le _⟩) (fun H locs hw => ?_)
    obtain ⟨h_16, hf⟩ := tx_bz_e hf
    obtain ⟨e0, e1⟩ := tx_in2 hf
    rw [← e0, ← e1]
    exact tx_zret S hr hlk h_16 hw dX12_newName_13
def f_X12_manLine (fu : Nat) (v_T : S64) (u_T : S32) : Option (Int32 × S32) := if (u_T 0 16) = (6 : Int32) then (tx_b2 (f_X12_wrong fu v_T u_T (2 : Int32)) fun (r_22 : Int32) (u_T_23 : S32) => tx_bz r_22 <| some (r_22, u_T_23)) else (tx_b1 (f_X12_token fu v_T u_T) fun (u_T_3 : S32) => tx_b2 (f_X12_newName_tX12r23 fu v_T u_T_3 (6 : Int32) (u_T_3 0 16)) fun (r_5 : Int32) (u_T_6 : S32) => if r_5 = (0 : Int32) then (some ((0 : Int32), u_T_6)) else (tx_b2 (f_X12_number fu v_T u_T_6 (0 : Int32) (999 : Int32)) fun (r_9 : Int32) (u_T_10 : S32) => if r_9 = (0 : Int32) then (some ((0 : Int32), u_T_10)) else (tx_ck ((6 : Int32) + (u_T_10 0 16)) 12 <| tx_let (up2 u_T_10 24 ((6 : Int32) + (u_T_10 0 16)).toNatClampNeg (u_T_10 0 11)) fun (u_T_13 : S32) => tx_b2 (f_X12_number fu v_T u_T_13 (0 : Int32) (9 : Int32)) fun (r_15 : Int32) (u_T_16 : S32) => if r_15 = (0 : Int32) then (some ((0 : Int32), u_T_16)) else (tx_ck ((6 : Int32) + (u_T_16 0 16)) 12 <| tx_let (up2 u_T_16 25 ((6 : Int32) + (u_T_16 0 16)).toNatClampNeg (u_T_16 0 11)) fun (u_T_19 : S32) => tx_let (up2 u_T_19 0 16 ((u_T_19 0 16) + (1 : Int32))) fun (u_T_20 : S32) => some ((1 : Int32), u_T_20)))))
set_option maxHeartbeats 4000000 in
set_option maxRecDepth 100000 in
theorem c_X12_manLine {l : Launch} {g : GG} {A : Nat → Prop} {X : va_W} {fu : Nat} {a_T : Nat → Nat} {u_T : S32} {v_T : S64} {r : Int32} {zu_T : S32} (hf : f_X12_manLine fu v_T u_T = some (r, zu_T)) : MI l yX12_manLine cX12_manLine 1 (some .boolean) 3 g A (cl_X12 g a_T u_T v_T ++ X) [.ref (a_T 0)] r (cl_X12 g a_T zu_T v_T ++ X) := by
  refine tx_start (av := [.ref (a_T 0)]) (by decide) (Nat.le_of_ble_eq_true rfl) ?_
  intro p e s m below meth c ls S hr hlk hE hw hl
  have S : CallFix p m c cX12_manLine 1 s (List.toArray [.ref (a_T 0)]) (Cond.code yX12_manLine cX12_manLine 1 (some .boolean) :: allW) RX12 := S
  have hx := S.1
  have hb := S.2.1
  have hown := S.2.2.2.1
  have hts : ∀ w ∈ allW, w.before (List.toArray [.ref (a_T 0)]) s = true := fun w h => S.2.2.2.2 w (List.mem_cons_of_mem _ h)
  have hl : lv_has ls 1 [(0, .ref (a_T 0))] := hl
  unfold f_X12_manLine at hf
  refine lv_aload_n hx hb dX12_manLine_0 rfl (lv_at hl 0 rfl) ?_
  refine gf_X12_207 S hE hw 0 rfl rfl dX12_manLine_1 ?_
  refine lv_bipush (v := 6) hx hb dX12_manLine_4 (by decide) ?_
  refine lv_icmp_ne (tgt := 15) hx hb dX12_manLine_6 (by decide) (fun h_1 => ?_) (fun h_1 => ?_)
  · replace hf := tx_neg hf h_1
    refine lv_aload_n hx hb dX12_manLine_15 rfl (lv_at hl 0 rfl) ?_
    obtain ⟨u_T_3, h_2, hf⟩ := tx_b1_e hf
    refine tx_cv hw (tx_runV S hE hw (c_X12_token h_2) lk_X12_197 (q0 := 0) rfl rfl rfl hl.1 (rest := []) rfl (Nat.le_of_ble_eq_true rfl) ⟨by decide, by decide⟩ dX12_manLine_16 ⟨Nat.zero_le _, Nat.zero_le _⟩) (fun H locs hw => ?_)
    refine lv_aload_n hx hb dX12_manLine_19 rfl (lv_at hl 0 rfl) ?_
    refine lv_aload_n hx hb dX12_manLine_20 rfl (lv_at hl 0 rfl) ?_
    refine gf_X12_27 S hE hw 0 rfl rfl dX12_manLine_21 ?_
    refine lv_bipush (v := 6) hx hb dX12_manLine_24 (by decide) ?_
    refine lv_aload_n hx hb dX12_manLine_26 rfl (lv_at hl 0 rfl) ?_
    refine gf_X12_207 S hE hw 0 rfl rfl dX12_manLine_27 ?_
    obtain ⟨r_5, u_T_6, h_4, hf⟩ := tx_b2_e hf
    refine tx_ci hw (tx_runV S hE hw (c_X12_newName_tX12r23 h_4) lk_X12_245 (q0 := 0) rfl rfl rfl hl.1 (rest := []) rfl (Nat.le_of_ble_eq_true rfl) ⟨by decide, by decide⟩ dX12_manLine_30 ⟨Nat.zero_le _, Nat.zero_le _⟩) (fun H locs hw => ?_)
    refine lv_if_ne (tgt := 38) hx hb dX12_manLine_33 (by decide) (fun h_7 => ?_) (fun h_7 => ?_)
    · replace hf := tx_neg hf h_7
      refine lv_aload_n hx hb dX12_manLine_38 rfl (lv_at hl 0 rfl) ?_
      refine lv_iconst (v := 0) hx hb dX12_manLine_39 (by decide) ?_
      refine lv_sipush (v := 999) hx hb dX12_manLine_40 (by decide) ?_
      obtain ⟨r_9, u_T_10, h_8, hf⟩ := tx_b2_e hf
      refine tx_ci hw (tx_runV S hE hw (c_X12_number h_8) lk_X12_203 (q0 := 0) rfl rfl rfl hl.1 (rest := []) rfl (Nat.le_of_ble_eq_true rfl) ⟨by decide, by decide⟩ dX12_manLine_43 ⟨Nat.zero_le _, Nat.zero_le _⟩) (fun H locs hw => ?_)
      refine lv_if_ne (tgt := 51) hx hb dX12_manLine_46 (by decide) (fun h_11 => ?_) (fun h_11 => ?_)
      · replace hf := tx_neg hf h_11
        refine lv_aload_n hx hb dX12_manLine_51 rfl (lv_at hl 0 rfl) ?_
        refine gf_X12_30 S hE hw 0 rfl rfl dX12_manLine_52 ?_
        refine lv_bipush (v := 6) hx hb dX12_manLine_55 (by decide) ?_
        refine lv_aload_n hx hb dX12_manLine_57 rfl (lv_at hl 0 rfl) ?_
        refine gf_X12_207 S hE hw 0 rfl rfl dX12_manLine_58 ?_
        refine lv_iadd hx hb dX12_manLine_61 ?_
        refine lv_aload_n hx hb dX12_manLine_62 rfl (lv_at hl 0 rfl) ?_
        refine gf_X12_194 S hE hw 0 rfl rfl dX12_manLine_63 ?_
        obtain ⟨h_12, hf⟩ := tx_ck_e hf
        obtain ⟨u_T_13, eu_T_13⟩ : ∃ z : S32, z = up2 u_T_10 24 ((6 : Int32) + (u_T_10 0 16)).toNatClampNeg (u_T_10 0 11) := ⟨_, rfl⟩
        replace hf := tx_let_e hf eu_T_13
        refine tx_iast (ws' := cl_X12 g a_T u_T_13 v_T ++ X) S hE hw 6 rfl h_12 (by rw [eu_T_13]; rfl) dX12_manLine_66 (fun H locs hw => ?_)
        refine lv_aload_n hx hb dX12_manLine_67 rfl (lv_at hl 0 rfl) ?_
        refine lv_iconst (v := 0) hx hb dX12_manLine_68 (by decide) ?_
        refine lv_bipush (v := 9) hx hb dX12_manLine_69 (by decide) ?_
        obtain ⟨r_15, u_T_16, h_14, hf⟩ := tx_b2_e hf
        refine tx_ci hw (tx_runV S hE hw (c_X12_number h_14) lk_X12_203 (q0 := 0) rfl rfl rfl hl.1 (rest := []) rfl (Nat.le_of_ble_eq_true rfl) ⟨by decide, by decide⟩ dX12_manLine_71 ⟨Nat.zero_le _, Nat.zero_le _⟩) (fun H locs hw => ?_)
        refine lv_if_ne (tgt := 79) hx hb dX12_manLine_74 (by decide) (fun h_17 => ?_) (fun h_17 => ?_)
        · replace hf := tx_neg hf h_17
          refine lv_aload_n hx hb dX12_manLine_79 rfl (lv_at hl 0 rfl) ?_
          refine gf_X12_33 S hE hw 0 rfl rfl dX12_manLine_80 ?_
          refine lv_bipush (v := 6) hx hb dX12_manLine_83 (by decide) ?_
          refine lv_aload_n hx hb dX12_manLine_85 rfl (lv_at hl 0 rfl) ?_
          refine gf_X12_207 S hE hw 0 rfl rfl dX12_manLine_86 ?_
          refine lv_iadd hx hb dX12_manLine_89 ?_
          refine lv_aload_n hx hb dX12_manLine_90 rfl (lv_at hl 0 rfl) ?_
          refine gf_X12_194 S hE hw 0 rfl rfl dX12_manLine_91 ?_
          obtain ⟨h_18, hf⟩ := tx_ck_e hf
          obtain ⟨u_T_19, eu_T_19⟩ : ∃ z : S32, z = up2 u_T_16 25 ((6 : Int32) + (u_T_16 0 16)).toNatClampNeg (u_T_16 0 11) := ⟨_, rfl⟩
          replace hf := tx_let_e hf eu_T_19
          refine tx_iast (ws' := cl_X12 g a_T u_T_19 v_T ++ X) S hE hw 7 rfl h_18 (by rw [eu_T_19]; rfl) dX12_manLine_94 (fun H locs hw => ?_)
          refine lv_aload_n hx hb dX12_manLine_95 rfl (lv_at hl 0 rfl) ?_
          refine lv_dup hx hb dX12_manLine_96 rfl ?_
          refine gf_X12_207 S hE hw 0 rfl rfl dX12_manLine_97 ?_
          refine lv_iconst (v := 1) hx hb dX12_manLine_100 (by decide) ?_
          refine lv_iadd hx hb dX12_manLine_101 ?_
          obtain ⟨u_T_20, eu_T_20⟩ : ∃ z : S32, z = up2 u_T_19 0 16 ((u_T_19 0 16) + (1 : Int32)) := ⟨_, rfl⟩
          replace hf := tx_let_e hf eu_T_20
          refine pf_X12_207 (ws' := cl_X12 g a_T u_T_20 v_T ++ X) S hE hw rfl rfl 0 rfl (Nat.le_of_ble_eq_true rfl) (by rw [eu_T_20]; rfl) dX12_manLine_102 (fun H locs hw => ?_)
          refine lv_iconst (v := 1) hx hb dX12_manLine_105 (by decide) ?_
          obtain ⟨e0, e1⟩ := tx_in2 hf
          rw [← e0, ← e1]
          exact tx_zret S hr hlk (by decide) hw dX12_manLine_106
        · replace hf := tx_pos hf h_17
          refine lv_iconst (v := 0) hx hb dX12_manLine_77 (by decide) ?_
          obtain ⟨e0, e1⟩ := tx_in2 hf
          rw [← e0, ← e1]
          exact tx_zret S hr hlk (by decide) hw dX12_manLine_78
      · replace hf := tx_pos hf h_11
        refine lv_iconst (v := 0) hx hb dX12_manLine_49 (by decide) ?_
        obtain ⟨e0, e1⟩ := tx_in2 hf
        rw [← e0, ← e1]
        exact tx_zret S hr hlk (by decide) hw dX12_manLine_50
    · replace hf := tx_pos hf h_7
      refine lv_iconst (v := 0) hx hb dX12_manLine_36 (by decide) ?_
      obtain ⟨e0, e1⟩ := tx_in2 hf
      rw [← e0, ← e1]
      exact tx_zret S hr hlk (by decide) hw dX12_manLine_37
  · replace hf := tx_pos hf h_1
    refine lv_aload_n hx hb dX12_manLine_9 rfl (lv_at hl 0 rfl) ?_
    refine lv_iconst (v := 2) hx hb dX12_manLine_10 (by decide) ?_
    obtain ⟨r_22, u_T_23, h_21, hf⟩ := tx_b2_e hf
    refine tx_ci hw (tx_runV S hE hw (c_X12_wrong h_21) lk_X12_187 (q0 := 0) rfl rfl rfl hl.1 (rest := []) rfl (Nat.le_of_ble_eq_true rfl) ⟨by decide, by decide⟩ dX12_manLine_11 ⟨Nat.zero_le _, Nat.zero_le _⟩) (fun H locs hw => ?_)
    obtain ⟨h_24, hf⟩ := tx_bz_e hf
    obtain ⟨e0, e1⟩ := tx_in2 hf
    rw [← e0, ← e1]
    exact tx_zret S hr hlk h_24 hw dX12_manLine_14
def f_X12_thoughtLine (fu : Nat) (v_T : S64) (u_T : S32) : Option (Int32 × S32) := if (u_T 0 17) = (12 : Int32) then (tx_b2 (f_X12_wrong fu v_T u_T (2 : Int32)) fun (r_41 : Int32) (u_T_42 : S32) => tx_bz r_41 <| some (r_41, u_T_42)) else (tx_b1 (f_X12_token fu v_T u_T) fun (u_T_3 : S32) => if (u_T_3 0 8) = (2 : Int32) then (tx_b1 (f_X12_seek_oX12r23 fu u_T_3 v_T (6 : Int32) (u_T_3 0 16) (u_T_3 0 9)) fun (r_6 : Int32) => if (0 : Int32) ≤ r_6 then (tx_b1 (f_X12_token fu v_T u_T_3) fun (u_T_9 : S32) => tx_let ((12 : Int32) + (u_T_9 0 17)) fun (y_10 : Int32) => tx_ck y_10 24 <| tx_let (up2 u_T_9 26 y_10.toNatClampNeg r_6) fun (u_T_12 : S32) => tx_b2 (f_X12_number fu v_T u_T_12 (1 : Int32) (99 : Int32)) fun (r_14 : Int32) (u_T_15 : S32) => if r_14 = (0 : Int32) then (some ((0 : Int32), u_T_15)) else (tx_ck y_10 24 <| tx_let (up2 u_T_15 27 y_10.toNatClampNeg (u_T_15 0 11)) fun (u_T_18 : S32) => tx_b2 (f_X12_number fu v_T u_T_18 (0 : Int32) (99 : Int32)) fun (r_20 : Int32) (u_T_21 : S32) => if r_20 = (0 : Int32) then (some ((0 : Int32), u_T_21)) else (tx_ck y_10 24 <| tx_let (up2 u_T_21 28 y_10.toNatClampNeg (u_T_21 0 11)) fun (u_T_24 : S32) => tx_b2 (f_X12_number fu v_T u_T_24 (0 : Int32) (3 : Int32)) fun (r_26 : Int32) (u_T_27 : S32) => if r_26 = (0 : Int32) then (some ((0 : Int32), u_T_27)) else (tx_ck y_10 24 <| tx_let (up2 u_T_27 29 y_10.toNatClampNeg (u_T_27 0 11)) fun (u_T_30 : S32) => tx_let (up2 u_T_30 0 17 ((u_T_30 0 17) + (1 : Int32))) fun (u_T_31 : S32) => some ((1 : Int32), u_T_31))))) else (tx_b2 (f_X12_wrong fu v_T u_T_3 (4 : Int32)) fun (r_33 : Int32) (u_T_34 : S32) => tx_bz r_33 <| some (r_33, u_T_34))) else (tx_b2 (f_X12_wrong fu v_T u_T_3 (1 : Int32)) fun (r_37 : Int32) (u_T_38 : S32) => tx_bz r_37 <| some (r_37, u_T_38)))
set_option maxHeartbeats 4000000 in
set_option maxRecDepth 100000 in
theorem c_X12_thoughtLine {l : Launch} {g : GG} {A : Nat → Prop} {X : va_W} {fu : Nat} {a_T : Nat → Nat} {u_T : S32} {v_T : S64} {r : Int32} {zu_T : S32} (hf : f_X12_thoughtLine fu v_T u_T = some (r, zu_T)) : MI l yX12_thoughtLine cX12_thoughtLine 3 (some .boolean) 3 g A (cl_X12 g a_T u_T v_T ++ X) [.ref (a_T 0)] r (cl_X12 g a_T zu_T v_T ++ X) := by
  refine tx_start (av := [.ref (a_T 0)]) (by decide) (Nat.le_of_ble_eq_true rfl) ?_
  intro p e s m below meth c ls S hr hlk hE hw hl
  have S : CallFix p m c cX12_thoughtLine 3 s (List.toArray [.ref (a_T 0)]) (Cond.code yX12_thoughtLine cX12_thoughtLine 3 (some .boolean) :: allW) RX12 := S
  have hx := S.1
  have hb := S.2.1
  have hown := S.2.2.2.1
  have hts : ∀ w ∈ allW, w.before (List.toArray [.ref (a_T 0)]) s = true := fun w h => S.2.2.2.2 w (List.mem_cons_of_mem _ h)
  have hl : lv_has ls 3 [(0, .ref (a_T 0))] := hl
  unfold f_X12_thoughtLine at hf
  refine lv_aload_n hx hb dX12_thoughtLine_0 rfl (lv_at hl 0 rfl) ?_
  refine gf_X12_210 S hE hw 0 rfl rfl dX12_thoughtLine_1 ?_
  refine lv_bipush (v := 12) hx hb dX12_thoughtLine_4 (by decide) ?_
  refine lv_icmp_ne (tgt := 15) hx hb dX12_thoughtLine_6 (by decide) (fun h_1 => ?_) (fun h_1 => ?_)
  · replace hf := tx_neg hf h_1
    refine lv_aload_n hx hb dX12_thoughtLine_15 rfl (lv_at hl 0 rfl) ?_
    obtain ⟨u_T_3, h_2, hf⟩ := tx_b1_e hf
    refine tx_cv hw (tx_runV S hE hw (c_X12_token h_2) lk_X12_197 (q0 := 0) rfl rfl rfl hl.1 (rest := []) rfl (Nat.le_of_ble_eq_true rfl) ⟨by decide, by decide⟩ dX12_thoughtLine_16 ⟨Nat.zero_le _, Nat.zero_le _⟩) (fun H locs hw => ?_)
    refine lv_aload_n hx hb dX12_thoughtLine_19 rfl (lv_at hl 0 rfl) ?_
    refine gf_X12_163 S hE hw 0 rfl rfl dX12_thoughtLine_20 ?_
    refine lv_iconst (v := 2) hx hb dX12_thoughtLine_23 (by decide) ?_
    refine lv_icmp_eq (tgt := 33) hx hb dX12_thoughtLine_24 (by decide) (fun h_4 => ?_) (fun h_4 => ?_)
    · replace hf := tx_pos hf h_4
      refine lv_aload_n hx hb dX12_thoughtLine_33 rfl (lv_at hl 0 rfl) ?_
      refine gf_X12_27 S hE hw 0 rfl rfl dX12_thoughtLine_34 ?_
      refine lv_bipush (v := 6) hx hb dX12_thoughtLine_37 (by decide) ?_
      refine lv_aload_n hx hb dX12_thoughtLine_39 rfl (lv_at hl 0 rfl) ?_
      refine gf_X12_207 S hE hw 0 rfl rfl dX12_thoughtLine_40 ?_
      refine lv_aload_n hx hb dX12_thoughtLine_43 rfl (lv_at hl 0 rfl) ?_
      refine gf_X12_174 S hE hw 0 rfl rfl dX12_thoughtLine_44 ?_
      obtain ⟨r_6, h_5, hf⟩ := tx_b1_e hf
      refine tx_ci hw (tx_runS S hE hw (c_X12_seek_oX12r23 h_5) lk_X12_241 rfl hl.1 (rest := []) rfl (Nat.le_of_ble_eq_true rfl) ⟨by decide, by decide⟩ dX12_thoughtLine_47 ⟨Nat.zero_le _, Nat.zero_le _⟩) (fun H locs hw => ?_)
      refine lv_istore_n (lv' := [(1, .int r_6), (0, .ref (a_T 0))]) hx hb dX12_thoughtLine_50 rfl hl (by decide) rfl (fun ls hl => ?_)
      refine lv_iload_n hx hb dX12_thoughtLine_51 rfl (lv_at hl 0 rfl) ?_
      refine lv_if_ge (tgt := 61) hx hb dX12_thoughtLine_52 (by decide) (fun h_7 => ?_) (fun h_7 => ?_)
      · replace hf := tx_pos hf h_7
        refine lv_aload_n hx hb dX12_thoughtLine_61 rfl (lv_at hl 1 rfl) ?_
        obtain ⟨u_T_9, h_8, hf⟩ := tx_b1_e hf
        refine tx_cv hw (tx_runV S hE hw (c_X12_token h_8) lk_X12_197 (q0 := 0) rfl rfl rfl hl.1 (rest := []) rfl (Nat.le_of_ble_eq_true rfl) ⟨by decide, by decide⟩ dX12_thoughtLine_62 ⟨Nat.zero_le _, Nat.zero_le _⟩) (fun H locs hw => ?_)
        refine lv_bipush (v := 12) hx hb dX12_thoughtLine_65 (by decide) ?_
        refine lv_aload_n hx hb dX12_thoughtLine_67 rfl (lv_at hl 1 rfl) ?_
        refine gf_X12_210 S hE hw 0 rfl rfl dX12_thoughtLine_68 ?_
        refine lv_iadd hx hb dX12_thoughtLine_71 ?_
        refine lv_topi (fun y_10 ey_10 => ?_)
        replace hf := tx_let_e hf ey_10
        refine lv_istore_n (lv' := [(2, .int y_10), (1, .int r_6), (0, .ref (a_T 0))]) hx hb dX12_thoughtLine_72 rfl hl (by decide) rfl (fun ls hl => ?_)
        refine lv_aload_n hx hb dX12_thoughtLine_73 rfl (lv_at hl 2 rfl) ?_
        refine gf_X12_36 S hE hw 0 rfl rfl dX12_thoughtLine_74 ?_
        refine lv_iload_n hx hb dX12_thoughtLine_77 rfl (lv_at hl 0 rfl) ?_
        refine lv_iload_n hx hb dX12_thoughtLine_78 rfl (lv_at hl 1 rfl) ?_
        obtain ⟨h_11, hf⟩ := tx_ck_e hf
        obtain ⟨u_T_12, eu_T_12⟩ : ∃ z : S32, z = up2 u_T_9 26 y_10.toNatClampNeg r_6 := ⟨_, rfl⟩
        replace hf := tx_let_e hf eu_T_12
        refine tx_iast (ws' := cl_X12 g a_T u_T_12 v_T ++ X) S hE hw 8 rfl h_11 (by rw [eu_T_12]; rfl) dX12_thoughtLine_79 (fun H locs hw => ?_)
        refine lv_aload_n hx hb dX12_thoughtLine_80 rfl (lv_at hl 2 rfl) ?_
        refine lv_iconst (v := 1) hx hb dX12_thoughtLine_81 (by decide) ?_
        refine lv_bipush (v := 99) hx hb dX12_thoughtLine_82 (by decide) ?_
        obtain ⟨r_14, u_T_15, h_13, hf⟩ := tx_b2_e hf
        refine tx_ci hw (tx_runV S hE hw (c_X12_number h_13) lk_X12_203 (q0 := 0) rfl rfl rfl hl.1 (rest := []) rfl (Nat.le_of_ble_eq_true rfl) ⟨by decide, by decide⟩ dX12_thoughtLine_84 ⟨Nat.zero_le _, Nat.zero_le _⟩) (fun H locs hw => ?_)
        refine lv_if_ne (tgt := 92) hx hb dX12_thoughtLine_87 (by decide) (fun h_16 => ?_) (fun h_16 => ?_)
        · replace hf := tx_neg hf h_16
          refine lv_aload_n hx hb dX12_thoughtLine_92 rfl (lv_at hl 2 rfl) ?_
          refine gf_X12_39 S hE hw 0 rfl rfl dX12_thoughtLine_93 ?_
          refine lv_iload_n hx hb dX12_thoughtLine_96 rfl (lv_at hl 0 rfl) ?_
          refine lv_aload_n hx hb dX12_thoughtLine_97 rfl (lv_at hl 2 rfl) ?_
          refine gf_X12_194 S hE hw 0 rfl rfl dX12_thoughtLine_98 ?_
          obtain ⟨h_17, hf⟩ := tx_ck_e hf
          obtain ⟨u_T_18, eu_T_18⟩ : ∃ z : S32, z = up2 u_T_15 27 y_10.toNatClampNeg (u_T_15 0 11) := ⟨_, rfl⟩
          replace hf := tx_let_e hf eu_T_18
          refine tx_iast (ws' := cl_X12 g a_T u_T_18 v_T ++ X) S hE hw 9 rfl h_17 (by rw [eu_T_18]; rfl) dX12_thoughtLine_101 (fun H locs hw => ?_)
          refine lv_aload_n hx hb dX12_thoughtLine_102 rfl (lv_at hl 2 rfl) ?_
          refine lv_iconst (v := 0) hx hb dX12_thoughtLine_103 (by decide) ?_
          refine lv_bipush (v := 99) hx hb dX12_thoughtLine_104 (by decide) ?_
          obtain ⟨r_20, u_T_21, h_19, hf⟩ := tx_b2_e hf
          refine tx_ci hw (tx_runV S hE hw (c_X12_number h_19) lk_X12_203 (q0 := 0) rfl rfl rfl hl.1 (rest := []) rfl (Nat.le_of_ble_eq_true rfl) ⟨by decide, by decide⟩ dX12_thoughtLine_106 ⟨Nat.zero_le _, Nat.zero_le _⟩) (fun H locs hw => ?_)
          refine lv_if_ne (tgt := 114) hx hb dX12_thoughtLine_109 (by decide) (fun h_22 => ?_) (fun h_22 => ?_)
          · replace hf := tx_neg hf h_22
            refine lv_aload_n hx hb dX12_thoughtLine_114 rfl (lv_at hl 2 rfl) ?_
            refine gf_X12_42 S hE hw 0 rfl rfl dX12_thoughtLine_115 ?_
            refine lv_iload_n hx hb dX12_thoughtLine_118 rfl (lv_at hl 0 rfl) ?_
            refine lv_aload_n hx hb dX12_thoughtLine_119 rfl (lv_at hl 2 rfl) ?_
            refine gf_X12_194 S hE hw 0 rfl rfl dX12_thoughtLine_120 ?_
            obtain ⟨h_23, hf⟩ := tx_ck_e hf
            obtain ⟨u_T_24, eu_T_24⟩ : ∃ z : S32, z = up2 u_T_21 28 y_10.toNatClampNeg (u_T_21 0 11) := ⟨_, rfl⟩
            replace hf := tx_let_e hf eu_T_24
            refine tx_iast (ws' := cl_X12 g a_T u_T_24 v_T ++ X) S hE hw 10 rfl h_23 (by rw [eu_T_24]; rfl) dX12_thoughtLine_123 (fun H locs hw => ?_)
            refine lv_aload_n hx hb dX12_thoughtLine_124 rfl (lv_at hl 2 rfl) ?_
            refine lv_iconst (v := 0) hx hb dX12_thoughtLine_125 (by decide) ?_
            refine lv_iconst (v := 3) hx hb dX12_thoughtLine_126 (by decide) ?_
            obtain ⟨r_26, u_T_27, h_25, hf⟩ := tx_b2_e hf
            refine tx_ci hw (tx_runV S hE hw (c_X12_number h_25) lk_X12_203 (q0 := 0) rfl rfl rfl hl.1 (rest := []) rfl (Nat.le_of_ble_eq_true rfl) ⟨by decide, by decide⟩ dX12_thoughtLine_127 ⟨Nat.zero_le _, Nat.zero_le _⟩) (fun H locs hw => ?_)
            refine lv_if_ne (tgt := 135) hx hb dX12_thoughtLine_130 (by decide) (fun h_28 => ?_) (fun h_28 => ?_)
            · replace hf := tx_neg hf h_28
              refine lv_aload_n hx hb dX12_thoughtLine_135 rfl (lv_at hl 2 rfl) ?_
              refine gf_X12_45 S hE hw 0 rfl rfl dX12_thoughtLine_136 ?_
              refine lv_iload_n hx hb dX12_thoughtLine_139 rfl (lv_at hl 0 rfl) ?_
              refine lv_aload_n hx hb dX12_thoughtLine_140 rfl (lv_at hl 2 rfl) ?_
              refine gf_X12_194 S hE hw 0 rfl rfl dX12_thoughtLine_141 ?_
              obtain ⟨h_29, hf⟩ := tx_ck_e hf
              obtain ⟨u_T_30, eu_T_30⟩ : ∃ z : S32, z = up2 u_T_27 29 y_10.toNatClampNeg (u_T_27 0 11) := ⟨_, rfl⟩
              replace hf := tx_let_e hf eu_T_30
              refine tx_iast (ws' := cl_X12 g a_T u_T_30 v_T ++ X) S hE hw 11 rfl h_29 (by rw [eu_T_30]; rfl) dX12_thoughtLine_144 (fun H locs hw => ?_)
              refine lv_aload_n hx hb dX12_thoughtLine_145 rfl (lv_at hl 2 rfl) ?_
              refine lv_dup hx hb dX12_thoughtLine_146 rfl ?_
              refine gf_X12_210 S hE hw 0 rfl rfl dX12_thoughtLine_147 ?_
              refine lv_iconst (v := 1) hx hb dX12_thoughtLine_150 (by decide) ?_
              refine lv_iadd hx hb dX12_thoughtLine_151 ?_
              obtain ⟨u_T_31, eu_T_31⟩ : ∃ z : S32, z = up2 u_T_30 0 17 ((u_T_30 0 17) + (1 : Int32)) := ⟨_, rfl⟩
              replace hf := tx_let_e hf eu_T_31
              refine pf_X12_210 (ws' := cl_X12 g a_T u_T_31 v_T ++ X) S hE hw rfl rfl 0 rfl (Nat.le_of_ble_eq_true rfl) (by rw [eu_T_31]; rfl) dX12_thoughtLine_152 (fun H locs hw => ?_)
              refine lv_iconst (v := 1) hx hb dX12_thoughtLine_155 (by decide) ?_
              obtain ⟨e0, e1⟩ := tx_in2 hf
              rw [← e0, ← e1]
              exact tx_zret S hr hlk (by decide) hw dX12_thoughtLine_156
            · replace hf := tx_pos hf h_28
              refine lv_iconst (v := 0) hx hb dX12_thoughtLine_133 (by decide) ?_
              obtain ⟨e0, e1⟩ := tx_in2 hf
              rw [← e0, ← e1]
              exact tx_zret S hr hlk (by decide) hw dX12_thoughtLine_134
          · replace hf := tx_pos hf h_22
            refine lv_iconst (v := 0) hx hb dX12_thoughtLine_112 (by decide) ?_
            obtain ⟨e0, e1⟩ := tx_in2 hf
            rw [← e0, ← e1]
            exact tx_zret S hr hlk (by decide) hw dX12_thoughtLine_113
        · replace hf := tx_pos hf h_16
          refine lv_iconst (v := 0) hx hb dX12_thoughtLine_90 (by decide) ?_
          obtain ⟨e0, e1⟩ := tx_in2 hf
          rw [← e0, ← e1]
          exact tx_zret S hr hlk (by decide) hw dX12_thoughtLine_91
      · replace hf := tx_neg hf h_7
        refine lv_aload_n hx hb dX12_thoughtLine_55 rfl (lv_at hl 1 rfl) ?_
        refine lv_iconst (v := 4) hx hb dX12_thoughtLine_56 (by decide) ?_
        obtain ⟨r_33, u_T_34, h_32, hf⟩ := tx_b2_e hf
        refine tx_ci hw (tx_runV S hE hw (c_X12_wrong h_32) lk_X12_187 (q0 := 0) rfl rfl rfl hl.1 (rest := []) rfl (Nat.le_of_ble_eq_true rfl) ⟨by decide, by decide⟩ dX12_thoughtLine_57 ⟨Nat.zero_le _, Nat.zero_le _⟩) (fun H locs hw => ?_)
        obtain ⟨h_35, hf⟩ := tx_bz_e hf
        obtain ⟨e0, e1⟩ := tx_in2 hf
        rw [← e0, ← e1]
        exact tx_zret S hr hlk h_35 hw dX12_thoughtLine_60
    · replace hf := tx_neg hf h_4
      refine lv_aload_n hx hb dX12_thoughtLine_27 rfl (lv_at hl 0 rfl) ?_
      refine lv_iconst (v := 1) hx hb dX12_thoughtLine_28 (by decide) ?_
      obtain ⟨r_37, u_T_38, h_36, hf⟩ := tx_b2_e hf
      refine tx_ci hw (tx_runV S hE hw (c_X12_wrong h_36) lk_X12_187 (q0 := 0) rfl rfl rfl hl.1 (rest := []) rfl (Nat.le_of_ble_eq_true rfl) ⟨by decide, by decide⟩ dX12_thoughtLine_29 ⟨Nat.zero_le _, Nat.zero_le _⟩) (fun H locs hw => ?_)
      obtain ⟨h_39, hf⟩ := tx_bz_e hf
      obtain ⟨e0, e1⟩ := tx_in2 hf
      rw [← e0, ← e1]
      exact tx_zret S hr hlk h_39 hw dX12_thoughtLine_32
  · replace hf := tx_pos hf h_1
    refine lv_aload_n hx hb dX12_thoughtLine_9 rfl (lv_at hl 0 rfl) ?_
    refine lv_iconst (v := 2) hx hb dX12_thoughtLine_10 (by decide) ?_
    obtain ⟨r_41, u_T_42, h_40, hf⟩ := tx_b2_e hf
    refine tx_ci hw (tx_runV S hE hw (c_X12_wrong h_40) lk_X12_187 (q0 := 0) rfl rfl rfl hl.1 (rest := []) rfl (Nat.le_of_ble_eq_true rfl) ⟨by decide, by decide⟩ dX12_thoughtLine_11 ⟨Nat.zero_le _, Nat.zero_le _⟩) (fun H locs hw => ?_)
    obtain ⟨h_43, hf⟩ := tx_bz_e hf
    obtain ⟨e0, e1⟩ := tx_in2 hf
    rw [← e0, ← e1]
    exact tx_zret S hr hlk h_43 hw dX12_thoughtLine_14
def f_X12_seek_oX12r30_J3 (fu : Nat) (u_M : S32) (v_M : S64) (K3 : Int32 → Int32 → Int32 → Int32 → Option (Int32)) (w1 : Int32) (w2 : Int32) (w3 : Int32) (w4 : Int32) : Option (Int32) := if w2 ≤ w4 then (some (-1 : Int32)) else (tx_ck (w1 + w4) 8 <| if (u_M 30 (w1 + w4).toNatClampNeg) = w3 then (some w4) else (tx_let (w4 + (1 : Int32)) fun (y_4 : Int32) => K3 w1 w2 w3 y_4))
def f_X12_seek_oX12r30_L3 (fu : Nat) (u_M : S32) (v_M : S64) : Nat → Int32 → Int32 → Int32 → Int32 → Option (Int32)
  | 0 => fun _ _ _ _ => none
  | n + 1 => f_X12_seek_oX12r30_J3 fu u_M v_M (f_X12_seek_oX12r30_L3 fu u_M v_M n)
def f_X12_seek_oX12r30 (fu : Nat) (u_M : S32) (v_M : S64) (x1 : Int32) (x2 : Int32) (x3 : Int32) : Option (Int32) := f_X12_seek_oX12r30_L3 fu u_M v_M fu x1 x2 x3 (0 : Int32)
set_option maxHeartbeats 4000000 in
set_option maxRecDepth 100000 in
theorem c_X12_seek_oX12r30 {l : Launch} {g : GG} {A : Nat → Prop} {X : va_W} {fu : Nat} {a_M : Nat → Nat} {u_M : S32} {v_M : S64} {x1 : Int32} {x2 : Int32} {x3 : Int32} {r : Int32} (hf : f_X12_seek_oX12r30 fu u_M v_M x1 x2 x3 = some r) : MI l yX12_seek cX12_seek 5 (some .int) 0 g A (cl_X12 g a_M u_M v_M ++ X) [.ref (a_M 30), .int x1, .int x2, .int x3] r (cl_X12 g a_M u_M v_M ++ X) := by
  refine tx_start (av := [.ref (a_M 30), .int x1, .int x2, .int x3]) (by decide) (Nat.le_of_ble_eq_true rfl) ?_
  intro p e s m below meth c ls S hr hlk hE hw hl
  have S : CallFix p m c cX12_seek 5 s (List.toArray [.ref (a_M 30), .int x1, .int x2, .int x3]) (Cond.code yX12_seek cX12_seek 5 (some .int) :: allW) RX12 := S
  have hx := S.1
  have hb := S.2.1
  have hown := S.2.2.2.1
  have hts : ∀ w ∈ allW, w.before (List.toArray [.ref (a_M 30), .int x1, .int x2, .int x3]) s = true := fun w h => S.2.2.2.2 w (List.mem_cons_of_mem _ h)
  have hl : lv_has ls 5 [(0, .ref (a_M 30)), (1, .int x1), (2, .int x2), (3, .int x3)] := hl
  have J3 : ∀ {K3 : Int32 → Int32 → Int32 → Int32 → Option (Int32)} (hK3 : ∀ {w1 : Int32} {w2 : Int32} {w3 : Int32} {w4 : Int32} {H : Heap} {locs : List Loc} {ls : Array Slot}, K3 w1 w2 w3 w4 = some r → WD g A s.heap (cl_X12 g a_M u_M v_M ++ X) H locs → lv_has ls 5 [(0, .ref (a_M 30)), (1, .int w1), (2, .int w2), (3, .int w3), (4, .int w4)] → W p l e (rmH 0) s m (List.toArray [.ref (a_M 30), .int x1, .int x2, .int x3]) below meth c H locs 0 0 (MQ below (va_Qi (fun r2 (_ : Unit) => r2 = r) (fun _ t => POST g A (cl_X12 g a_M u_M v_M ++ X) t) A) (List.toArray [.ref (a_M 30), .int x1, .int x2, .int x3]) s 0 0 A) (F0 m 3 ls [])), ∀ {w1 : Int32} {w2 : Int32} {w3 : Int32} {w4 : Int32} {H : Heap} {locs : List Loc} {ls : Array Slot}, f_X12_seek_oX12r30_J3 fu u_M v_M K3 w1 w2 w3 w4 = some r → WD g A s.heap (cl_X12 g a_M u_M v_M ++ X) H locs → lv_has ls 5 [(0, .ref (a_M 30)), (1, .int w1), (2, .int w2), (3, .int w3), (4, .int w4)] → W p l e (rmH 0) s m (List.toArray [.ref (a_M 30), .int x1, .int x2, .int x3]) below meth c H locs 0 0 (MQ below (va_Qi (fun r2 (_ : Unit) => r2 = r) (fun _ t => POST g A (cl_X12 g a_M u_M v_M ++ X) t) A) (List.toArray [.ref (a_M 30), .int x1, .int x2, .int x3]) s 0 0 A) (F0 m 3 ls []) := by
    intro K3 hK3 w1 w2 w3 w4 H locs ls hf hw hl
    unfold f_X12_seek_oX12r30_J3 at hf
    refine lv_iload hx hb dX12_seek_3 (lv_at hl 4 rfl) ?_
    refine lv_iload_n hx hb dX12_seek_5 rfl (lv_at hl 2 rfl) ?_
    refine lv_icmp_ge (tgt := 28) hx hb dX12_seek_6 (by decide) (fun h_1 => ?_) (fun h_1 => ?_)
    · replace hf := tx_pos hf h_1
      refine lv_iconst (v := -1) hx hb dX12_seek_28 (by decide) ?_
      obtain e0 := tx_in1 hf
      rw [← e0]
      exact tx_iret S hr hlk hw dX12_seek_29
    · replace hf := tx_neg hf h_1
      refine lv_aload_n hx hb dX12_seek_9 rfl (lv_at hl 0 rfl) ?_
      refine lv_iload_n hx hb dX12_seek_10 rfl (lv_at hl 1 rfl) ?_
      refine lv_iload hx hb dX12_seek_11 (lv_at hl 4 rfl) ?_
      refine lv_iadd hx hb dX12_seek_13 ?_
      obtain ⟨h_2, hf⟩ := tx_ck_e hf
      refine tx_iald S hE hw 12 rfl h_2 dX12_seek_14 ?_
      refine lv_iload_n hx hb dX12_seek_15 rfl (lv_at hl 3 rfl) ?_
      refine lv_icmp_ne (tgt := 22) hx hb dX12_seek_16 (by decide) (fun h_3 => ?_) (fun h_3 => ?_)
      · replace hf := tx_neg hf h_3
        obtain ⟨y_4, ey_4⟩ : ∃ y : Int32, y = w4 + (1 : Int32) := ⟨_, rfl⟩
        replace hf := tx_let_e hf ey_4
        refine lv_iinc (v := y_4) (lv' := [(4, .int y_4), (0, .ref (a_M 30)), (1, .int w1), (2, .int w2), (3, .int w3)]) hx hb dX12_seek_22 hl (k := 4) rfl (by rw [ey_4]; rfl) (by decide) rfl (fun ls hl => ?_)
        refine lv_goto (tgt := 3) hx hb dX12_seek_25 (by decide) ?_
        exact hK3 hf hw (lv_sub hl [1, 2, 3, 4, 0] rfl)
      · replace hf := tx_pos hf h_3
        refine lv_iload hx hb dX12_seek_19 (lv_at hl 4 rfl) ?_
        obtain e0 := tx_in1 hf
        rw [← e0]
        exact tx_iret S hr hlk hw dX12_seek_21
  have L3 : ∀ (n : Nat), ∀ {w1 : Int32} {w2 : Int32} {w3 : Int32} {w4 : Int32} {H : Heap} {locs : List Loc} {ls : Array Slot}, f_X12_seek_oX12r30_L3 fu u_M v_M n w1 w2 w3 w4 = some r → WD g A s.heap (cl_X12 g a_M u_M v_M ++ X) H locs → lv_has ls 5 [(0, .ref (a_M 30)), (1, .int w1), (2, .int w2), (3, .int w3), (4, .int w4)] → W p l e (rmH 0) s m (List.toArray [.ref (a_M 30), .int x1, .int x2, .int x3]) below meth c H locs 0 0 (MQ below (va_Qi (fun r2 (_ : Unit) => r2 = r) (fun _ t => POST g A (cl_X12 g a_M u_M v_M ++ X) t) A) (List.toArray [.ref (a_M 30), .int x1, .int x2, .int x3]) s 0 0 A) (F0 m 3 ls []) := by
    intro  n
    induction n with
    | zero => intro w1 w2 w3 w4 H locs ls hf; exact absurd hf (by intro q; cases q)
    | succ n ih => exact fun hf hw hl => J3 ih hf hw hl
  unfold f_X12_seek_oX12r30 at hf
  refine lv_iconst (v := 0) hx hb dX12_seek_0 (by decide) ?_
  refine lv_istore (lv' := [(4, .int (0 : Int32)), (0, .ref (a_M 30)), (1, .int x1), (2, .int x2), (3, .int x3)]) hx hb dX12_seek_1 hl (by decide) rfl (fun ls hl => ?_)
  exact L3 fu hf hw (lv_sub hl [1, 2, 3, 4, 0] rfl)
def f_X12_newName_tX12r30 (fu : Nat) (v_T : S64) (u_T : S32) (x2 : Int32) (x3 : Int32) : Option (Int32 × S32) := if (u_T 0 8) = (2 : Int32) then (tx_b1 (f_X12_seek_oX12r30 fu u_T v_T x2 x3 (u_T 0 9)) fun (r_3 : Int32) => if r_3 < (0 : Int32) then (tx_ck (x2 + x3) 8 <| tx_let (up2 u_T 30 (x2 + x3).toNatClampNeg (u_T 0 9)) fun (u_T_6 : S32) => tx_b1 (f_X12_token fu v_T u_T_6) fun (u_T_8 : S32) => some ((1 : Int32), u_T_8)) else (tx_b2 (f_X12_wrong fu v_T u_T (3 : Int32)) fun (r_10 : Int32) (u_T_11 : S32) => tx_bz r_10 <| some (r_10, u_T_11))) else (tx_b2 (f_X12_wrong fu v_T u_T (1 : Int32)) fun (r_14 : Int32) (u_T_15 : S32) => tx_bz r_14 <| some (r_14, u_T_15))
set_option maxHeartbeats 4000000 in
set_option maxRecDepth 100000 in
theorem c_X12_newName_tX12r30 {l : Launch} {g : GG} {A : Nat → Prop} {X : va_W} {fu : Nat} {a_T : Nat → Nat} {u_T : S32} {v_T : S64} {x2 : Int32} {x3 : Int32} {r : Int32} {zu_T : S32} (hf : f_X12_newName_tX12r30 fu v_T u_T x2 x3 = some (r, zu_T)) : MI l yX12_newName cX12_newName 4 (some .boolean) 2 g A (cl_X12 g a_T u_T v_T ++ X) [.ref (a_T 0), .ref (a_T 30), .int x2, .int x3] r (cl_X12 g a_T zu_T v_T ++ X) := by
  refine tx_start (av := [.ref (a_T 0), .ref (a_T 30), .int x2, .int x3]) (by decide) (Nat.le_of_ble_eq_true rfl) ?_
  intro p e s m below meth c ls S hr hlk hE hw hl
  have S : CallFix p m c cX12_newName 4 s (List.toArray [.ref (a_T 0), .ref (a_T 30), .int x2, .int x3]) (Cond.code yX12_newName cX12_newName 4 (some .boolean) :: allW) RX12 := S
  have hx := S.1
  have hb := S.2.1
  have hown := S.2.2.2.1
  have hts : ∀ w ∈ allW, w.before (List.toArray [.ref (a_T 0), .ref (a_T 30), .int x2, .int x3]) s = true := fun w h => S.2.2.2.2 w (List.mem_cons_of_mem _ h)
  have hl : lv_has ls 4 [(0, .ref (a_T 0)), (1, .ref (a_T 30)), (2, .int x2), (3, .int x3)] := hl
  unfold f_X12_newName_tX12r30 at hf
  refine lv_aload_n hx hb dX12_newName_0 rfl (lv_at hl 0 rfl) ?_
  refine gf_X12_163 S hE hw 0 rfl rfl dX12_newName_1 ?_
  refine lv_iconst (v := 2) hx hb dX12_newName_4 (by decide) ?_
  refine lv_icmp_eq (tgt := 14) hx hb dX12_newName_5 (by decide) (fun h_1 => ?_) (fun h_1 => ?_)
  · replace hf := tx_pos hf h_1
    refine lv_aload_n hx hb dX12_newName_14 rfl (lv_at hl 1 rfl) ?_
    refine lv_iload_n hx hb dX12_newName_15 rfl (lv_at hl 2 rfl) ?_
    refine lv_iload_n hx hb dX12_newName_16 rfl (lv_at hl 3 rfl) ?_
    refine lv_aload_n hx hb dX12_newName_17 rfl (lv_at hl 0 rfl) ?_
    refine gf_X12_174 S hE hw 0 rfl rfl dX12_newName_18 ?_
    obtain ⟨r_3, h_2, hf⟩ := tx_b1_e hf
    refine tx_ci hw (tx_runS S hE hw (c_X12_seek_oX12r30 h_2) lk_X12_241 rfl hl.1 (rest := []) rfl (Nat.le_of_ble_eq_true rfl) ⟨by decide, by decide⟩ dX12_newName_21 ⟨Nat.zero_le _, Nat.zero_le _⟩) (fun H locs hw => ?_)
    refine lv_if_lt (tgt := 33) hx hb dX12_newName_24 (by decide) (fun h_4 => ?_) (fun h_4 => ?_)
    · replace hf := tx_pos hf h_4
      refine lv_aload_n hx hb dX12_newName_33 rfl (lv_at hl 1 rfl) ?_
      refine lv_iload_n hx hb dX12_newName_34 rfl (lv_at hl 2 rfl) ?_
      refine lv_iload_n hx hb dX12_newName_35 rfl (lv_at hl 3 rfl) ?_
      refine lv_iadd hx hb dX12_newName_36 ?_
      refine lv_aload_n hx hb dX12_newName_37 rfl (lv_at hl 0 rfl) ?_
      refine gf_X12_174 S hE hw 0 rfl rfl dX12_newName_38 ?_
      obtain ⟨h_5, hf⟩ := tx_ck_e hf
      obtain ⟨u_T_6, eu_T_6⟩ : ∃ z : S32, z = up2 u_T 30 (x2 + x3).toNatClampNeg (u_T 0 9) := ⟨_, rfl⟩
      replace hf := tx_let_e hf eu_T_6
      refine tx_iast (ws' := cl_X12 g a_T u_T_6 v_T ++ X) S hE hw 12 rfl h_5 (by rw [eu_T_6]; rfl) dX12_newName_41 (fun H locs hw => ?_)
      refine lv_aload_n hx hb dX12_newName_42 rfl (lv_at hl 0 rfl) ?_
      obtain ⟨u_T_8, h_7, hf⟩ := tx_b1_e hf
      refine tx_cv hw (tx_runV S hE hw (c_X12_token h_7) lk_X12_197 (q0 := 0) rfl rfl rfl hl.1 (rest := []) rfl (Nat.le_of_ble_eq_true rfl) ⟨by decide, by decide⟩ dX12_newName_43 ⟨Nat.zero_le _, Nat.zero_le _⟩) (fun H locs hw => ?_)
      refine lv_iconst (v := 1) hx hb dX12_newName_46 (by decide) ?_
      obtain ⟨e0, e1⟩ := tx_in2 hf
      rw [← e0, ← e1]
      exact tx_zret S hr hlk (by decide) hw dX12_newName_47
    · replace hf := tx_neg hf h_4
      refine lv_aload_n hx hb dX12_newName_27 rfl (lv_at hl 0 rfl) ?_
      refine lv_iconst (v := 3) hx hb dX12_newName_28 (by decide) ?_
      obtain ⟨r_10, u_T_11, h_9, hf⟩ := tx_b2_e hf
      refine tx_ci hw (tx_runV S hE hw (c_X12_wrong h_9) lk_X12_187 (q0 := 0) rfl rfl rfl hl.1 (rest := []) rfl (Nat.le_of_ble_eq_true rfl) ⟨by decide, by decide⟩ dX12_newName_29 ⟨Nat.zero_le _, Nat.zero_le _⟩) (fun H locs hw => ?_)
      obtain ⟨h_12, hf⟩ := tx_bz_e hf
      obtain ⟨e0, e1⟩ := tx_in2 hf
      rw [← e0, ← e1]
      exact tx_zret S hr hlk h_12 hw dX12_newName_32
  · replace hf := tx_neg hf h_1
    refine lv_aload_n hx hb dX12_newName_8 rfl (lv_at hl 0 rfl) ?_
    refine lv_iconst (v := 1) hx hb dX12_newName_9 (by decide) ?_
    obtain ⟨r_14, u_T_15, h_13, hf⟩ := tx_b2_e hf
    refine tx_ci hw (tx_runV S hE hw (c_X12_wrong h_13) lk_X12_187 (q0 := 0) rfl rfl rfl hl.1 (rest := []) rfl (Nat.le_of_ble_eq_true rfl) ⟨by decide, by decide⟩ dX12_newName_10 ⟨Nat.zero_le _, Nat.zero_le _⟩) (fun H locs hw => ?_)
    obtain ⟨h_16, hf⟩ := tx_bz_e hf
    obtain ⟨e0, e1⟩ := tx_in2 hf
    rw [← e0, ← e1]
    exact tx_zret S hr hlk h_16 hw dX12_newName_13
def f_X12_readerLine (fu : Nat) (v_T : S64) (u_T : S32) : Option (Int32 × S32) := if (u_T 0 18) = (4 : Int32) then (tx_b2 (f_X12_wrong fu v_T u_T (2 : Int32)) fun (r_22 : Int32) (u_T_23 : S32) => tx_bz r_22 <| some (r_22, u_T_23)) else (tx_b1 (f_X12_token fu v_T u_T) fun (u_T_3 : S32) => tx_b2 (f_X12_newName_tX12r30 fu v_T u_T_3 (4 : Int32) (u_T_3 0 18)) fun (r_5 : Int32) (u_T_6 : S32) => if r_5 = (0 : Int32) then (some ((0 : Int32), u_T_6)) else (tx_b2 (f_X12_number fu v_T u_T_6 (0 : Int32) (9 : Int32)) fun (r_9 : Int32) (u_T_10 : S32) => if r_9 = (0 : Int32) then (some ((0 : Int32), u_T_10)) else (tx_ck ((4 : Int32) + (u_T_10 0 18)) 8 <| tx_let (up2 u_T_10 31 ((4 : Int32) + (u_T_10 0 18)).toNatClampNeg (u_T_10 0 11)) fun (u_T_13 : S32) => tx_b2 (f_X12_number fu v_T u_T_13 (0 : Int32) (15 : Int32)) fun (r_15 : Int32) (u_T_16 : S32) => if r_15 = (0 : Int32) then (some ((0 : Int32), u_T_16)) else (tx_ck ((4 : Int32) + (u_T_16 0 18)) 8 <| tx_let (up2 u_T_16 32 ((4 : Int32) + (u_T_16 0 18)).toNatClampNeg (u_T_16 0 11)) fun (u_T_19 : S32) => tx_let (up2 u_T_19 0 18 ((u_T_19 0 18) + (1 : Int32))) fun (u_T_20 : S32) => some ((1 : Int32), u_T_20)))))
set_option maxHeartbeats 4000000 in
set_option maxRecDepth 100000 in
theorem c_X12_readerLine {l : Launch} {g : GG} {A : Nat → Prop} {X : va_W} {fu : Nat} {a_T : Nat → Nat} {u_T : S32} {v_T : S64} {r : Int32} {zu_T : S32} (hf : f_X12_readerLine fu v_T u_T = some (r, zu_T)) : MI l yX12_readerLine cX12_readerLine 1 (some .boolean) 3 g A (cl_X12 g a_T u_T v_T ++ X) [.ref (a_T 0)] r (cl_X12 g a_T zu_T v_T ++ X) := by
  refine tx_start (av := [.ref (a_T 0)]) (by decide) (Nat.le_of_ble_eq_true rfl) ?_
  intro p e s m below meth c ls S hr hlk hE hw hl
  have S : CallFix p m c cX12_readerLine 1 s (List.toArray [.ref (a_T 0)]) (Cond.code yX12_readerLine cX12_readerLine 1 (some .boolean) :: allW) RX12 := S
  have hx := S.1
  have hb := S.2.1
  have hown := S.2.2.2.1
  have hts : ∀ w ∈ allW, w.before (List.toArray [.ref (a_T 0)]) s = true := fun w h => S.2.2.2.2 w (List.mem_cons_of_mem _ h)
  have hl : lv_has ls 1 [(0, .ref (a_T 0))] := hl
  unfold f_X12_readerLine at hf
  refine lv_aload_n hx hb dX12_readerLine_0 rfl (lv_at hl 0 rfl) ?_
  refine gf_X12_213 S hE hw 0 rfl rfl dX12_readerLine_1 ?_
  refine lv_iconst (v := 4) hx hb dX12_readerLine_4 (by decide) ?_
  refine lv_icmp_ne (tgt := 14) hx hb dX12_readerLine_5 (by decide) (fun h_1 => ?_) (fun h_1 => ?_)
  · replace hf := tx_neg hf h_1
    refine lv_aload_n hx hb dX12_readerLine_14 rfl (lv_at hl 0 rfl) ?_
    obtain ⟨u_T_3, h_2, hf⟩ := tx_b1_e hf
    refine tx_cv hw (tx_runV S hE hw (c_X12_token h_2) lk_X12_197 (q0 := 0) rfl rfl rfl hl.1 (rest := []) rfl (Nat.le_of_ble_eq_true rfl) ⟨by decide, by decide⟩ dX12_readerLine_15 ⟨Nat.zero_le _, Nat.zero_le _⟩) (fun H locs hw => ?_)
    refine lv_aload_n hx hb dX12_readerLine_18 rfl (lv_at hl 0 rfl) ?_
    refine lv_aload_n hx hb dX12_readerLine_19 rfl (lv_at hl 0 rfl) ?_
    refine gf_X12_48 S hE hw 0 rfl rfl dX12_readerLine_20 ?_
    refine lv_iconst (v := 4) hx hb dX12_readerLine_23 (by decide) ?_
    refine lv_aload_n hx hb dX12_readerLine_24 rfl (lv_at hl 0 rfl) ?_
    refine gf_X12_213 S hE hw 0 rfl rfl dX12_readerLine_25 ?_
    obtain ⟨r_5, u_T_6, h_4, hf⟩ := tx_b2_e hf
    refine tx_ci hw (tx_runV S hE hw (c_X12_newName_tX12r30 h_4) lk_X12_245 (q0 := 0) rfl rfl rfl hl.1 (rest := []) rfl (Nat.le_of_ble_eq_true rfl) ⟨by decide, by decide⟩ dX12_readerLine_28 ⟨Nat.zero_le _, Nat.zero_le _⟩) (fun H locs hw => ?_)
    refine lv_if_ne (tgt := 36) hx hb dX12_readerLine_31 (by decide) (fun h_7 => ?_) (fun h_7 => ?_)
    · replace hf := tx_neg hf h_7
      refine lv_aload_n hx hb dX12_readerLine_36 rfl (lv_at hl 0 rfl) ?_
      refine lv_iconst (v := 0) hx hb dX12_readerLine_37 (by decide) ?_
      refine lv_bipush (v := 9) hx hb dX12_readerLine_38 (by decide) ?_
      obtain ⟨r_9, u_T_10, h_8, hf⟩ := tx_b2_e hf
      refine tx_ci hw (tx_runV S hE hw (c_X12_number h_8) lk_X12_203 (q0 := 0) rfl rfl rfl hl.1 (rest := []) rfl (Nat.le_of_ble_eq_true rfl) ⟨by decide, by decide⟩ dX12_readerLine_40 ⟨Nat.zero_le _, Nat.zero_le _⟩) (fun H locs hw => ?_)
      refine lv_if_ne (tgt := 48) hx hb dX12_readerLine_43 (by decide) (fun h_11 => ?_) (fun h_11 => ?_)
      · replace hf := tx_neg hf h_11
        refine lv_aload_n hx hb dX12_readerLine_48 rfl (lv_at hl 0 rfl) ?_
        refine gf_X12_51 S hE hw 0 rfl rfl dX12_readerLine_49 ?_
        refine lv_iconst (v := 4) hx hb dX12_readerLine_52 (by decide) ?_
        refine lv_aload_n hx hb dX12_readerLine_53 rfl (lv_at hl 0 rfl) ?_
        refine gf_X12_213 S hE hw 0 rfl rfl dX12_readerLine_54 ?_
        refine lv_iadd hx hb dX12_readerLine_57 ?_
        refine lv_aload_n hx hb dX12_readerLine_58 rfl (lv_at hl 0 rfl) ?_
        refine gf_X12_194 S hE hw 0 rfl rfl dX12_readerLine_59 ?_
        obtain ⟨h_12, hf⟩ := tx_ck_e hf
        obtain ⟨u_T_13, eu_T_13⟩ : ∃ z : S32, z = up2 u_T_10 31 ((4 : Int32) + (u_T_10 0 18)).toNatClampNeg (u_T_10 0 11) := ⟨_, rfl⟩
        replace hf := tx_let_e hf eu_T_13
        refine tx_iast (ws' := cl_X12 g a_T u_T_13 v_T ++ X) S hE hw 13 rfl h_12 (by rw [eu_T_13]; rfl) dX12_readerLine_62 (fun H locs hw => ?_)
        refine lv_aload_n hx hb dX12_readerLine_63 rfl (lv_at hl 0 rfl) ?_
        refine lv_iconst (v := 0) hx hb dX12_readerLine_64 (by decide) ?_
        refine lv_bipush (v := 15) hx hb dX12_readerLine_65 (by decide) ?_
        obtain ⟨r_15, u_T_16, h_14, hf⟩ := tx_b2_e hf
        refine tx_ci hw (tx_runV S hE hw (c_X12_number h_14) lk_X12_203 (q0 := 0) rfl rfl rfl hl.1 (rest := []) rfl (Nat.le_of_ble_eq_true rfl) ⟨by decide, by decide⟩ dX12_readerLine_67 ⟨Nat.zero_le _, Nat.zero_le _⟩) (fun H locs hw => ?_)
        refine lv_if_ne (tgt := 75) hx hb dX12_readerLine_70 (by decide) (fun h_17 => ?_) (fun h_17 => ?_)
        · replace hf := tx_neg hf h_17
          refine lv_aload_n hx hb dX12_readerLine_75 rfl (lv_at hl 0 rfl) ?_
          refine gf_X12_54 S hE hw 0 rfl rfl dX12_readerLine_76 ?_
          refine lv_iconst (v := 4) hx hb dX12_readerLine_79 (by decide) ?_
          refine lv_aload_n hx hb dX12_readerLine_80 rfl (lv_at hl 0 rfl) ?_
          refine gf_X12_213 S hE hw 0 rfl rfl dX12_readerLine_81 ?_
          refine lv_iadd hx hb dX12_readerLine_84 ?_
          refine lv_aload_n hx hb dX12_readerLine_85 rfl (lv_at hl 0 rfl) ?_
          refine gf_X12_194 S hE hw 0 rfl rfl dX12_readerLine_86 ?_
          obtain ⟨h_18, hf⟩ := tx_ck_e hf
          obtain ⟨u_T_19, eu_T_19⟩ : ∃ z : S32, z = up2 u_T_16 32 ((4 : Int32) + (u_T_16 0 18)).toNatClampNeg (u_T_16 0 11) := ⟨_, rfl⟩
          replace hf := tx_let_e hf eu_T_19
          refine tx_iast (ws' := cl_X12 g a_T u_T_19 v_T ++ X) S hE hw 14 rfl h_18 (by rw [eu_T_19]; rfl) dX12_readerLine_89 (fun H locs hw => ?_)
          refine lv_aload_n hx hb dX12_readerLine_90 rfl (lv_at hl 0 rfl) ?_
          refine lv_dup hx hb dX12_readerLine_91 rfl ?_
          refine gf_X12_213 S hE hw 0 rfl rfl dX12_readerLine_92 ?_
          refine lv_iconst (v := 1) hx hb dX12_readerLine_95 (by decide) ?_
          refine lv_iadd hx hb dX12_readerLine_96 ?_
          obtain ⟨u_T_20, eu_T_20⟩ : ∃ z : S32, z = up2 u_T_19 0 18 ((u_T_19 0 18) + (1 : Int32)) := ⟨_, rfl⟩
          replace hf := tx_let_e hf eu_T_20
          refine pf_X12_213 (ws' := cl_X12 g a_T u_T_20 v_T ++ X) S hE hw rfl rfl 0 rfl (Nat.le_of_ble_eq_true rfl) (by rw [eu_T_20]; rfl) dX12_readerLine_97 (fun H locs hw => ?_)
          refine lv_iconst (v := 1) hx hb dX12_readerLine_100 (by decide) ?_
          obtain ⟨e0, e1⟩ := tx_in2 hf
          rw [← e0, ← e1]
          exact tx_zret S hr hlk (by decide) hw dX12_readerLine_101
        · replace hf := tx_pos hf h_17
          refine lv_iconst (v := 0) hx hb dX12_readerLine_73 (by decide) ?_
          obtain ⟨e0, e1⟩ := tx_in2 hf
          rw [← e0, ← e1]
          exact tx_zret S hr hlk (by decide) hw dX12_readerLine_74
      · replace hf := tx_pos hf h_11
        refine lv_iconst (v := 0) hx hb dX12_readerLine_46 (by decide) ?_
        obtain ⟨e0, e1⟩ := tx_in2 hf
        rw [← e0, ← e1]
        exact tx_zret S hr hlk (by decide) hw dX12_readerLine_47
    · replace hf := tx_pos hf h_7
      refine lv_iconst (v := 0) hx hb dX12_readerLine_34 (by decide) ?_
      obtain ⟨e0, e1⟩ := tx_in2 hf
      rw [← e0, ← e1]
      exact tx_zret S hr hlk (by decide) hw dX12_readerLine_35
  · replace hf := tx_pos hf h_1
    refine lv_aload_n hx hb dX12_readerLine_8 rfl (lv_at hl 0 rfl) ?_
    refine lv_iconst (v := 2) hx hb dX12_readerLine_9 (by decide) ?_
    obtain ⟨r_22, u_T_23, h_21, hf⟩ := tx_b2_e hf
    refine tx_ci hw (tx_runV S hE hw (c_X12_wrong h_21) lk_X12_187 (q0 := 0) rfl rfl rfl hl.1 (rest := []) rfl (Nat.le_of_ble_eq_true rfl) ⟨by decide, by decide⟩ dX12_readerLine_10 ⟨Nat.zero_le _, Nat.zero_le _⟩) (fun H locs hw => ?_)
    obtain ⟨h_24, hf⟩ := tx_bz_e hf
    obtain ⟨e0, e1⟩ := tx_in2 hf
    rw [← e0, ← e1]
    exact tx_zret S hr hlk h_24 hw dX12_readerLine_13
def f_X12_onceLine (fu : Nat) (v_T : S64) (u_T : S32) (x1 : Int32) (x2 : Int32) (x3 : Int32) : Option (Int32 × S32) := tx_ck x1 3 <| if (u_T 21 x1.toNatClampNeg) = (0 : Int32) then (tx_ck x1 3 <| tx_let (up2 u_T 21 x1.toNatClampNeg ((1 : Int32) &&& 1)) fun (u_T_4 : S32) => tx_b1 (f_X12_token fu v_T u_T_4) fun (u_T_6 : S32) => tx_b2 (f_X12_number fu v_T u_T_6 x2 x3) fun (r_8 : Int32) (u_T_9 : S32) => if r_8 = (0 : Int32) then (some ((0 : Int32), u_T_9)) else (tx_ck ((3 : Int32) + x1) 6 <| tx_let (up2 u_T_9 22 ((3 : Int32) + x1).toNatClampNeg (u_T_9 0 11)) fun (u_T_12 : S32) => some ((1 : Int32), u_T_12))) else (tx_b2 (f_X12_wrong fu v_T u_T (3 : Int32)) fun (r_14 : Int32) (u_T_15 : S32) => tx_bz r_14 <| some (r_14, u_T_15))
set_option maxHeartbeats 4000000 in
set_option maxRecDepth 100000 in
theorem c_X12_onceLine {l : Launch} {g : GG} {A : Nat → Prop} {X : va_W} {fu : Nat} {a_T : Nat → Nat} {u_T : S32} {v_T : S64} {x1 : Int32} {x2 : Int32} {x3 : Int32} {r : Int32} {zu_T : S32} (hf : f_X12_onceLine fu v_T u_T x1 x2 x3 = some (r, zu_T)) : MI l yX12_onceLine cX12_onceLine 4 (some .boolean) 3 g A (cl_X12 g a_T u_T v_T ++ X) [.ref (a_T 0), .int x1, .int x2, .int x3] r (cl_X12 g a_T zu_T v_T ++ X) := by
  refine tx_start (av := [.ref (a_T 0), .int x1, .int x2, .int x3]) (by decide) (Nat.le_of_ble_eq_true rfl) ?_
  intro p e s m below meth c ls S hr hlk hE hw hl
  have S : CallFix p m c cX12_onceLine 4 s (List.toArray [.ref (a_T 0), .int x1, .int x2, .int x3]) (Cond.code yX12_onceLine cX12_onceLine 4 (some .boolean) :: allW) RX12 := S
  have hx := S.1
  have hb := S.2.1
  have hown := S.2.2.2.1
  have hts : ∀ w ∈ allW, w.before (List.toArray [.ref (a_T 0), .int x1, .int x2, .int x3]) s = true := fun w h => S.2.2.2.2 w (List.mem_cons_of_mem _ h)
  have hl : lv_has ls 4 [(0, .ref (a_T 0)), (1, .int x1), (2, .int x2), (3, .int x3)] := hl
  unfold f_X12_onceLine at hf
  refine lv_aload_n hx hb dX12_onceLine_0 rfl (lv_at hl 0 rfl) ?_
  refine gf_X12_20 S hE hw 0 rfl rfl dX12_onceLine_1 ?_
  refine lv_iload_n hx hb dX12_onceLine_4 rfl (lv_at hl 1 rfl) ?_
  obtain ⟨h_1, hf⟩ := tx_ck_e hf
  refine tx_zald S hE hw 3 rfl h_1 dX12_onceLine_5 ?_
  refine lv_if_eq (tgt := 15) hx hb dX12_onceLine_6 (by decide) (fun h_2 => ?_) (fun h_2 => ?_)
  · replace hf := tx_pos hf h_2
    refine lv_aload_n hx hb dX12_onceLine_15 rfl (lv_at hl 0 rfl) ?_
    refine gf_X12_20 S hE hw 0 rfl rfl dX12_onceLine_16 ?_
    refine lv_iload_n hx hb dX12_onceLine_19 rfl (lv_at hl 1 rfl) ?_
    refine lv_iconst (v := 1) hx hb dX12_onceLine_20 (by decide) ?_
    obtain ⟨h_3, hf⟩ := tx_ck_e hf
    obtain ⟨u_T_4, eu_T_4⟩ : ∃ z : S32, z = up2 u_T 21 x1.toNatClampNeg ((1 : Int32) &&& 1) := ⟨_, rfl⟩
    replace hf := tx_let_e hf eu_T_4
    refine tx_zast (ws' := cl_X12 g a_T u_T_4 v_T ++ X) S hE hw 3 rfl h_3 (by rw [eu_T_4]; rfl) dX12_onceLine_21 (fun H locs hw => ?_)
    refine lv_aload_n hx hb dX12_onceLine_22 rfl (lv_at hl 0 rfl) ?_
    obtain ⟨u_T_6, h_5, hf⟩ := tx_b1_e hf
    refine tx_cv hw (tx_runV S hE hw (c_X12_token h_5) lk_X12_197 (q0 := 0) rfl rfl rfl hl.1 (rest := []) rfl (Nat.le_of_ble_eq_true rfl) ⟨by decide, by decide⟩ dX12_onceLine_23 ⟨Nat.zero_le _, Nat.zero_le _⟩) (fun H locs hw => ?_)
    refine lv_aload_n hx hb dX12_onceLine_26 rfl (lv_at hl 0 rfl) ?_
    refine lv_iload_n hx hb dX12_onceLine_27 rfl (lv_at hl 2 rfl) ?_
    refine lv_iload_n hx hb dX12_onceLine_28 rfl (lv_at hl 3 rfl) ?_
    obtain ⟨r_8, u_T_9, h_7, hf⟩ := tx_b2_e hf
    refine tx_ci hw (tx_runV S hE hw (c_X12_number h_7) lk_X12_203 (q0 := 0) rfl rfl rfl hl.1 (rest := []) rfl (Nat.le_of_ble_eq_true rfl) ⟨by decide, by decide⟩ dX12_onceLine_29 ⟨Nat.zero_le _, Nat.zero_le _⟩) (fun H locs hw => ?_)
    refine lv_if_ne (tgt := 37) hx hb dX12_onceLine_32 (by decide) (fun h_10 => ?_) (fun h_10 => ?_)
    · replace hf := tx_neg hf h_10
      refine lv_aload_n hx hb dX12_onceLine_37 rfl (lv_at hl 0 rfl) ?_
      refine gf_X12_24 S hE hw 0 rfl rfl dX12_onceLine_38 ?_
      refine lv_iconst (v := 3) hx hb dX12_onceLine_41 (by decide) ?_
      refine lv_iload_n hx hb dX12_onceLine_42 rfl (lv_at hl 1 rfl) ?_
      refine lv_iadd hx hb dX12_onceLine_43 ?_
      refine lv_aload_n hx hb dX12_onceLine_44 rfl (lv_at hl 0 rfl) ?_
      refine gf_X12_194 S hE hw 0 rfl rfl dX12_onceLine_45 ?_
      obtain ⟨h_11, hf⟩ := tx_ck_e hf
      obtain ⟨u_T_12, eu_T_12⟩ : ∃ z : S32, z = up2 u_T_9 22 ((3 : Int32) + x1).toNatClampNeg (u_T_9 0 11) := ⟨_, rfl⟩
      replace hf := tx_let_e hf eu_T_12
      refine tx_iast (ws' := cl_X12 g a_T u_T_12 v_T ++ X) S hE hw 4 rfl h_11 (by rw [eu_T_12]; rfl) dX12_onceLine_48 (fun H locs hw => ?_)
      refine lv_iconst (v := 1) hx hb dX12_onceLine_49 (by decide) ?_
      obtain ⟨e0, e1⟩ := tx_in2 hf
      rw [← e0, ← e1]
      exact tx_zret S hr hlk (by decide) hw dX12_onceLine_50
    · replace hf := tx_pos hf h_10
      refine lv_iconst (v := 0) hx hb dX12_onceLine_35 (by decide) ?_
      obtain ⟨e0, e1⟩ := tx_in2 hf
      rw [← e0, ← e1]
      exact tx_zret S hr hlk (by decide) hw dX12_onceLine_36
  · replace hf := tx_neg hf h_2
    refine lv_aload_n hx hb dX12_onceLine_9 rfl (lv_at hl 0 rfl) ?_
    refine lv_iconst (v := 3) hx hb dX12_onceLine_10 (by decide) ?_
    obtain ⟨r_14, u_T_15, h_13, hf⟩ := tx_b2_e hf
    refine tx_ci hw (tx_runV S hE hw (c_X12_wrong h_13) lk_X12_187 (q0 := 0) rfl rfl rfl hl.1 (rest := []) rfl (Nat.le_of_ble_eq_true rfl) ⟨by decide, by decide⟩ dX12_onceLine_11 ⟨Nat.zero_le _, Nat.zero_le _⟩) (fun H locs hw => ?_)
    obtain ⟨h_16, hf⟩ := tx_bz_e hf
    obtain ⟨e0, e1⟩ := tx_in2 hf
    rw [← e0, ← e1]
    exact tx_zret S hr hlk h_16 hw dX12_onceLine_14
def f_X12_rank (fu : Nat) (x0 : Int32) : Option (Int32) := if x0 < (13 : Int32) then (if x0 < (11 : Int32) then (if x0 < (5 : Int32) then (if x0 = (2 : Int32) then (some (3 : Int32)) else (if x0 = (3 : Int32) then (some (2 : Int32)) else (if x0 = (4 : Int32) then (some (1 : Int32)) else (some (0 : Int32))))) else (some (4 : Int32))) else (some (5 : Int32))) else (some (6 : Int32))
set_option maxHeartbeats 4000000 in
set_option maxRecDepth 100000 in
theorem c_X12_rank {l : Launch} {g : GG} {A : Nat → Prop} {X : va_W} {fu : Nat} {x0 : Int32} {r : Int32} (hf : f_X12_rank fu  x0 = some r) : MI l yX12_rank cX12_rank 1 (some .int) 0 g A (X) [.int x0] r (X) := by
  refine tx_start (av := [.int x0]) (by decide) (Nat.le_of_ble_eq_true rfl) ?_
  intro p e s m below meth c ls S hr hlk hE hw hl
  have S : CallFix p m c cX12_rank 1 s (List.toArray [.int x0]) (Cond.code yX12_rank cX12_rank 1 (some .int) :: allW) RX12 := S
  have hx := S.1
  have hb := S.2.1
  have hown := S.2.2.2.1
  have hts : ∀ w ∈ allW, w.before (List.toArray [.int x0]) s = true := fun w h => S.2.2.2.2 w (List.mem_cons_of_mem _ h)
  have hl : lv_has ls 1 [(0, .int x0)] := hl
  unfold f_X12_rank at hf
  refine lv_iload_n hx hb dX12_rank_0 rfl (lv_at hl 0 rfl) ?_
  refine lv_bipush (v := 13) hx hb dX12_rank_1 (by decide) ?_
  refine lv_icmp_lt (tgt := 11) hx hb dX12_rank_3 (by decide) (fun h_1 => ?_) (fun h_1 => ?_)
  · replace hf := tx_pos hf h_1
    refine lv_iload_n hx hb dX12_rank_11 rfl (lv_at hl 0 rfl) ?_
    refine lv_bipush (v := 11) hx hb dX12_rank_12 (by decide) ?_
    refine lv_icmp_lt (tgt := 21) hx hb dX12_rank_14 (by decide) (fun h_2 => ?_) (fun h_2 => ?_)
    · replace hf := tx_pos hf h_2
      refine lv_iload_n hx hb dX12_rank_21 rfl (lv_at hl 0 rfl) ?_
      refine lv_iconst (v := 5) hx hb dX12_rank_22 (by decide) ?_
      refine lv_icmp_lt (tgt := 30) hx hb dX12_rank_23 (by decide) (fun h_3 => ?_) (fun h_3 => ?_)
      · replace hf := tx_pos hf h_3
        refine lv_iload_n hx hb dX12_rank_30 rfl (lv_at hl 0 rfl) ?_
        refine lv_iconst (v := 2) hx hb dX12_rank_31 (by decide) ?_
        refine lv_icmp_ne (tgt := 39) hx hb dX12_rank_32 (by decide) (fun h_4 => ?_) (fun h_4 => ?_)
        · replace hf := tx_neg hf h_4
          refine lv_iload_n hx hb dX12_rank_39 rfl (lv_at hl 0 rfl) ?_
          refine lv_iconst (v := 3) hx hb dX12_rank_40 (by decide) ?_
          refine lv_icmp_ne (tgt := 48) hx hb dX12_rank_41 (by decide) (fun h_5 => ?_) (fun h_5 => ?_)
          · replace hf := tx_neg hf h_5
            refine lv_iload_n hx hb dX12_rank_48 rfl (lv_at hl 0 rfl) ?_
            refine lv_iconst (v := 4) hx hb dX12_rank_49 (by decide) ?_
            refine lv_icmp_ne (tgt := 57) hx hb dX12_rank_50 (by decide) (fun h_6 => ?_) (fun h_6 => ?_)
            · replace hf := tx_neg hf h_6
              refine lv_iconst (v := 0) hx hb dX12_rank_57 (by decide) ?_
              obtain e0 := tx_in1 hf
              rw [← e0]
              exact tx_iret S hr hlk hw dX12_rank_58
            · replace hf := tx_pos hf h_6
              refine lv_iconst (v := 1) hx hb dX12_rank_53 (by decide) ?_
              refine lv_goto (tgt := 58) hx hb dX12_rank_54 (by decide) ?_
              obtain e0 := tx_in1 hf
              rw [← e0]
              exact tx_iret S hr hlk hw dX12_rank_58
          · replace hf := tx_pos hf h_5
            refine lv_iconst (v := 2) hx hb dX12_rank_44 (by decide) ?_
            refine lv_goto (tgt := 58) hx hb dX12_rank_45 (by decide) ?_
            obtain e0 := tx_in1 hf
            rw [← e0]
            exact tx_iret S hr hlk hw dX12_rank_58
        · replace hf := tx_pos hf h_4
          refine lv_iconst (v := 3) hx hb dX12_rank_35 (by decide) ?_
          refine lv_goto (tgt := 58) hx hb dX12_rank_36 (by decide) ?_
          obtain e0 := tx_in1 hf
          rw [← e0]
          exact tx_iret S hr hlk hw dX12_rank_58
      · replace hf := tx_neg hf h_3
        refine lv_iconst (v := 4) hx hb dX12_rank_26 (by decide) ?_
        refine lv_goto (tgt := 58) hx hb dX12_rank_27 (by decide) ?_
        obtain e0 := tx_in1 hf
        rw [← e0]
        exact tx_iret S hr hlk hw dX12_rank_58
    · replace hf := tx_neg hf h_2
      refine lv_iconst (v := 5) hx hb dX12_rank_17 (by decide) ?_
      refine lv_goto (tgt := 58) hx hb dX12_rank_18 (by decide) ?_
      obtain e0 := tx_in1 hf
      rw [← e0]
      exact tx_iret S hr hlk hw dX12_rank_58
  · replace hf := tx_neg hf h_1
    refine lv_bipush (v := 6) hx hb dX12_rank_6 (by decide) ?_
    refine lv_goto (tgt := 58) hx hb dX12_rank_8 (by decide) ?_
    obtain e0 := tx_in1 hf
    rw [← e0]
    exact tx_iret S hr hlk hw dX12_rank_58
def f_X12_dropHeld (fu : Nat) (v_T : S64) (u_T : S32) : Option (Int32 × S32) := tx_let (up2 u_T 0 41 ((u_T 0 41) - (1 : Int32))) fun (u_T_1 : S32) => tx_ck (u_T_1 0 41) 96 <| some (u_T_1 40 (u_T_1 0 41).toNatClampNeg, u_T_1)
set_option maxHeartbeats 4000000 in
set_option maxRecDepth 100000 in
theorem c_X12_dropHeld {l : Launch} {g : GG} {A : Nat → Prop} {X : va_W} {fu : Nat} {a_T : Nat → Nat} {u_T : S32} {v_T : S64} {r : Int32} {zu_T : S32} (hf : f_X12_dropHeld fu v_T u_T = some (r, zu_T)) : MI l yX12_dropHeld cX12_dropHeld 1 (some .int) 0 g A (cl_X12 g a_T u_T v_T ++ X) [.ref (a_T 0)] r (cl_X12 g a_T zu_T v_T ++ X) := by
  refine tx_start (av := [.ref (a_T 0)]) (by decide) (Nat.le_of_ble_eq_true rfl) ?_
  intro p e s m below meth c ls S hr hlk hE hw hl
  have S : CallFix p m c cX12_dropHeld 1 s (List.toArray [.ref (a_T 0)]) (Cond.code yX12_dropHeld cX12_dropHeld 1 (some .int) :: allW) RX12 := S
  have hx := S.1
  have hb := S.2.1
  have hown := S.2.2.2.1
  have hts : ∀ w ∈ allW, w.before (List.toArray [.ref (a_T 0)]) s = true := fun w h => S.2.2.2.2 w (List.mem_cons_of_mem _ h)
  have hl : lv_has ls 1 [(0, .ref (a_T 0))] := hl
  unfold f_X12_dropHeld at hf
  refine lv_aload_n hx hb dX12_dropHeld_0 rfl (lv_at hl 0 rfl) ?_
  refine lv_dup hx hb dX12_dropHeld_1 rfl ?_
  refine gf_X12_268 S hE hw 0 rfl rfl dX12_dropHeld_2 ?_
  refine lv_iconst (v := 1) hx hb dX12_dropHeld_5 (by decide) ?_
  refine lv_isub hx hb dX12_dropHeld_6 ?_
  obtain ⟨u_T_1, eu_T_1⟩ : ∃ z : S32, z = up2 u_T 0 41 ((u_T 0 41) - (1 : Int32)) := ⟨_, rfl⟩
  replace hf := tx_let_e hf eu_T_1
  refine pf_X12_268 (ws' := cl_X12 g a_T u_T_1 v_T ++ X) S hE hw rfl rfl 0 rfl (Nat.le_of_ble_eq_true rfl) (by rw [eu_T_1]; rfl) dX12_dropHeld_7 (fun H locs hw => ?_)
  refine lv_aload_n hx hb dX12_dropHeld_10 rfl (lv_at hl 0 rfl) ?_
  refine gf_X12_78 S hE hw 0 rfl rfl dX12_dropHeld_11 ?_
  refine lv_aload_n hx hb dX12_dropHeld_14 rfl (lv_at hl 0 rfl) ?_
  refine gf_X12_268 S hE hw 0 rfl rfl dX12_dropHeld_15 ?_
  obtain ⟨h_2, hf⟩ := tx_ck_e hf
  refine tx_iald S hE hw 22 rfl h_2 dX12_dropHeld_18 ?_
  obtain ⟨e0, e1⟩ := tx_in2 hf
  rw [← e0, ← e1]
  exact tx_iret S hr hlk hw dX12_dropHeld_19
def f_X12_grown (fu : Nat) (v_T : S64) (u_T : S32) (x1 : Int32) (x2 : Int32) (x3 : Int32) : Option (S32) := tx_ck ((64 : Int32) + (u_T 0 19)) 128 <| tx_let (up2 u_T 36 ((64 : Int32) + (u_T 0 19)).toNatClampNeg x1) fun (u_T_2 : S32) => tx_ck ((64 : Int32) + (u_T_2 0 19)) 128 <| tx_let (up2 u_T_2 37 ((64 : Int32) + (u_T_2 0 19)).toNatClampNeg x2) fun (u_T_4 : S32) => tx_ck ((64 : Int32) + (u_T_4 0 19)) 128 <| tx_let (up2 u_T_4 38 ((64 : Int32) + (u_T_4 0 19)).toNatClampNeg x3) fun (u_T_6 : S32) => tx_ck (u_T_6 0 41) 96 <| tx_let (up2 u_T_6 40 (u_T_6 0 41).toNatClampNeg (u_T_6 0 19)) fun (u_T_8 : S32) => tx_let (up2 u_T_8 0 41 ((u_T_8 0 41) + (1 : Int32))) fun (u_T_9 : S32) => tx_let (up2 u_T_9 0 19 ((u_T_9 0 19) + (1 : Int32))) fun (u_T_10 : S32) => some u_T_10
set_option maxHeartbeats 4000000 in
set_option maxRecDepth 100000 in
theorem c_X12_grown {l : Launch} {g : GG} {A : Nat → Prop} {X : va_W} {fu : Nat} {a_T : Nat → Nat} {u_T : S32} {v_T : S64} {x1 : Int32} {x2 : Int32} {x3 : Int32} {zu_T : S32} (hf : f_X12_grown fu v_T u_T x1 x2 x3 = some zu_T) : MV l yX12_grown cX12_grown 4 none 0 g A (cl_X12 g a_T u_T v_T ++ X) [.ref (a_T 0), .int x1, .int x2, .int x3] (cl_X12 g a_T zu_T v_T ++ X) := by
  refine tx_start (av := [.ref (a_T 0), .int x1, .int x2, .int x3]) (by decide) (Nat.le_of_ble_eq_true rfl) ?_
  intro p e s m below meth c ls S hr hlk hE hw hl
  have S : CallFix p m c cX12_grown 4 s (List.toArray [.ref (a_T 0), .int x1, .int x2, .int x3]) (Cond.code yX12_grown cX12_grown 4 none :: allW) RX12 := S
  have hx := S.1
  have hb := S.2.1
  have hown := S.2.2.2.1
  have hts : ∀ w ∈ allW, w.before (List.toArray [.ref (a_T 0), .int x1, .int x2, .int x3]) s = true := fun w h => S.2.2.2.2 w (List.mem_cons_of_mem _ h)
  have hl : lv_has ls 4 [(0, .ref (a_T 0)), (1, .int x1), (2, .int x2), (3, .int x3)] := hl
  unfold f_X12_grown at hf
  refine lv_aload_n hx hb dX12_grown_0 rfl (lv_at hl 0 rfl) ?_
  refine gf_X12_66 S hE hw 0 rfl rfl dX12_grown_1 ?_
  refine lv_bipush (v := 64) hx hb dX12_grown_4 (by decide) ?_
  refine lv_aload_n hx hb dX12_grown_6 rfl (lv_at hl 0 rfl) ?_
  refine gf_X12_216 S hE hw 0 rfl rfl dX12_grown_7 ?_
  refine lv_iadd hx hb dX12_grown_10 ?_
  refine lv_iload_n hx hb dX12_grown_11 rfl (lv_at hl 1 rfl) ?_
  obtain ⟨h_1, hf⟩ := tx_ck_e hf
  obtain ⟨u_T_2, eu_T_2⟩ : ∃ z : S32, z = up2 u_T 36 ((64 : Int32) + (u_T 0 19)).toNatClampNeg x1 := ⟨_, rfl⟩
  replace hf := tx_let_e hf eu_T_2
  refine tx_iast (ws' := cl_X12 g a_T u_T_2 v_T ++ X) S hE hw 18 rfl h_1 (by rw [eu_T_2]; rfl) dX12_grown_12 (fun H locs hw => ?_)
  refine lv_aload_n hx hb dX12_grown_13 rfl (lv_at hl 0 rfl) ?_
  refine gf_X12_69 S hE hw 0 rfl rfl dX12_grown_14 ?_
  refine lv_bipush (v := 64) hx hb dX12_grown_17 (by decide) ?_
  refine lv_aload_n hx hb dX12_grown_19 rfl (lv_at hl 0 rfl) ?_
  refine gf_X12_216 S hE hw 0 rfl rfl dX12_grown_20 ?_
  refine lv_iadd hx hb dX12_grown_23 ?_
  refine lv_iload_n hx hb dX12_grown_24 rfl (lv_at hl 2 rfl) ?_
  obtain ⟨h_3, hf⟩ := tx_ck_e hf
  obtain ⟨u_T_4, eu_T_4⟩ : ∃ z : S32, z = up2 u_T_2 37 ((64 : Int32) + (u_T_2 0 19)).toNatClampNeg x2 := ⟨_, rfl⟩
  replace hf := tx_let_e hf eu_T_4
  refine tx_iast (ws' := cl_X12 g a_T u_T_4 v_T ++ X) S hE hw 19 rfl h_3 (by rw [eu_T_4]; rfl) dX12_grown_25 (fun H locs hw => ?_)
  refine lv_aload_n hx hb dX12_grown_26 rfl (lv_at hl 0 rfl) ?_
  refine gf_X12_72 S hE hw 0 rfl rfl dX12_grown_27 ?_
  refine lv_bipush (v := 64) hx hb dX12_grown_30 (by decide) ?_
  refine lv_aload_n hx hb dX12_grown_32 rfl (lv_at hl 0 rfl) ?_
  refine gf_X12_216 S hE hw 0 rfl rfl dX12_grown_33 ?_
  refine lv_iadd hx hb dX12_grown_36 ?_
  refine lv_iload_n hx hb dX12_grown_37 rfl (lv_at hl 3 rfl) ?_
  obtain ⟨h_5, hf⟩ := tx_ck_e hf
  obtain ⟨u_T_6, eu_T_6⟩ : ∃ z : S32, z = up2 u_T_4 38 ((64 : Int32) + (u_T_4 0 19)).toNatClampNeg x3 := ⟨_, rfl⟩
  replace hf := tx_let_e hf eu_T_6
  refine tx_iast (ws' := cl_X12 g a_T u_T_6 v_T ++ X) S hE hw 20 rfl h_5 (by rw [eu_T_6]; rfl) dX12_grown_38 (fun H locs hw => ?_)
  refine lv_aload_n hx hb dX12_grown_39 rfl (lv_at hl 0 rfl) ?_
  refine gf_X12_78 S hE hw 0 rfl rfl dX12_grown_40 ?_
  refine lv_aload_n hx hb dX12_grown_43 rfl (lv_at hl 0 rfl) ?_
  refine gf_X12_268 S hE hw 0 rfl rfl dX12_grown_44 ?_
  refine lv_aload_n hx hb dX12_grown_47 rfl (lv_at hl 0 rfl) ?_
  refine gf_X12_216 S hE hw 0 rfl rfl dX12_grown_48 ?_
  obtain ⟨h_7, hf⟩ := tx_ck_e hf
  obtain ⟨u_T_8, eu_T_8⟩ : ∃ z : S32, z = up2 u_T_6 40 (u_T_6 0 41).toNatClampNeg (u_T_6 0 19) := ⟨_, rfl⟩
  replace hf := tx_let_e hf eu_T_8
  refine tx_iast (ws' := cl_X12 g a_T u_T_8 v_T ++ X) S hE hw 22 rfl h_7 (by rw [eu_T_8]; rfl) dX12_grown_51 (fun H locs hw => ?_)
  refine lv_aload_n hx hb dX12_grown_52 rfl (lv_at hl 0 rfl) ?_
  refine lv_dup hx hb dX12_grown_53 rfl ?_
  refine gf_X12_268 S hE hw 0 rfl rfl dX12_grown_54 ?_
  refine lv_iconst (v := 1) hx hb dX12_grown_57 (by decide) ?_
  refine lv_iadd hx hb dX12_grown_58 ?_
  obtain ⟨u_T_9, eu_T_9⟩ : ∃ z : S32, z = up2 u_T_8 0 41 ((u_T_8 0 41) + (1 : Int32)) := ⟨_, rfl⟩
  replace hf := tx_let_e hf eu_T_9
  refine pf_X12_268 (ws' := cl_X12 g a_T u_T_9 v_T ++ X) S hE hw rfl rfl 0 rfl (Nat.le_of_ble_eq_true rfl) (by rw [eu_T_9]; rfl) dX12_grown_59 (fun H locs hw => ?_)
  refine lv_aload_n hx hb dX12_grown_62 rfl (lv_at hl 0 rfl) ?_
  refine lv_dup hx hb dX12_grown_63 rfl ?_
  refine gf_X12_216 S hE hw 0 rfl rfl dX12_grown_64 ?_
  refine lv_iconst (v := 1) hx hb dX12_grown_67 (by decide) ?_
  refine lv_iadd hx hb dX12_grown_68 ?_
  obtain ⟨u_T_10, eu_T_10⟩ : ∃ z : S32, z = up2 u_T_9 0 19 ((u_T_9 0 19) + (1 : Int32)) := ⟨_, rfl⟩
  replace hf := tx_let_e hf eu_T_10
  refine pf_X12_216 (ws' := cl_X12 g a_T u_T_10 v_T ++ X) S hE hw rfl rfl 0 rfl (Nat.le_of_ble_eq_true rfl) (by rw [eu_T_10]; rfl) dX12_grown_69 (fun H locs hw => ?_)
  obtain e0 := tx_in1 hf
  rw [← e0]
  exact tx_vret S hr hlk hw dX12_grown_72
def f_X12_bind_J58 (fu : Nat) (v_T : S64) (K0 : S32 → Int32 → Option (S32)) (u_T : S32) (w1 : Int32) (w2 : Int32) (t0 : Int32) : Option (S32) := tx_b2 (f_X12_dropHeld fu v_T u_T) fun (r_14 : Int32) (u_T_15 : S32) => tx_b1 (f_X12_grown fu v_T u_T_15 w2 r_14 t0) fun (u_T_17 : S32) => K0 u_T_17 w1
def f_X12_bind_J0 (fu : Nat) (v_T : S64) (K0 : S32 → Int32 → Option (S32)) (u_T : S32) (w1 : Int32) : Option (S32) := if (u_T 0 40) ≤ (0 : Int32) then (some u_T) else (tx_ck ((u_T 0 40) - (1 : Int32)) 96 <| tx_b1 (f_X12_rank fu (u_T 39 ((u_T 0 40) - (1 : Int32)).toNatClampNeg)) fun (r_4 : Int32) => if r_4 < w1 then (some u_T) else (tx_let (up2 u_T 0 40 ((u_T 0 40) - (1 : Int32))) fun (u_T_6 : S32) => tx_ck (u_T_6 0 40) 96 <| tx_let (u_T_6 39 (u_T_6 0 40).toNatClampNeg) fun (y_8 : Int32) => if y_8 = (2 : Int32) then (f_X12_bind_J58 fu v_T K0 u_T_6 w1 y_8 (-1 : Int32)) else (tx_b2 (f_X12_dropHeld fu v_T u_T_6) fun (r_11 : Int32) (u_T_12 : S32) => f_X12_bind_J58 fu v_T K0 u_T_12 w1 y_8 r_11)))
def f_X12_bind_L0 (fu : Nat) (v_T : S64) : Nat → S32 → Int32 → Option (S32)
  | 0 => fun _ _ => none
  | n + 1 => f_X12_bind_J0 fu v_T (f_X12_bind_L0 fu v_T n)
def f_X12_bind (fu : Nat) (v_T : S64) (u_T : S32) (x1 : Int32) : Option (S32) := f_X12_bind_L0 fu v_T fu u_T x1
set_option maxHeartbeats 4000000 in
set_option maxRecDepth 100000 in
theorem c_X12_bind {l : Launch} {g : GG} {A : Nat → Prop} {X : va_W} {fu : Nat} {a_T : Nat → Nat} {u_T : S32} {v_T : S64} {x1 : Int32} {zu_T : S32} (hf : f_X12_bind fu v_T u_T x1 = some zu_T) : MV l yX12_bind cX12_bind 5 none 1 g A (cl_X12 g a_T u_T v_T ++ X) [.ref (a_T 0), .int x1] (cl_X12 g a_T zu_T v_T ++ X) := by
  refine tx_start (av := [.ref (a_T 0), .int x1]) (by decide) (Nat.le_of_ble_eq_true rfl) ?_
  intro p e s m below meth c ls S hr hlk hE hw hl
  have S : CallFix p m c cX12_bind 5 s (List.toArray [.ref (a_T 0), .int x1]) (Cond.code yX12_bind cX12_bind 5 none :: allW) RX12 := S
  have hx := S.1
  have hb := S.2.1
  have hown := S.2.2.2.1
  have hts : ∀ w ∈ allW, w.before (List.toArray [.ref (a_T 0), .int x1]) s = true := fun w h => S.2.2.2.2 w (List.mem_cons_of_mem _ h)
  have hl : lv_has ls 5 [(0, .ref (a_T 0)), (1, .int x1)] := hl
  have J58 : ∀ {K0 : S32 → Int32 → Option (S32)} (hK0 : ∀ {u_T : S32} {w1 : Int32} {H : Heap} {locs : List Loc} {ls : Array Slot}, K0 u_T w1 = some zu_T → WD g A s.heap (cl_X12 g a_T u_T v_T ++ X) H locs → lv_has ls 5 [(0, .ref (a_T 0)), (1, .int w1)] → W p l e (rmH 1) s m (List.toArray [.ref (a_T 0), .int x1]) below meth c H locs 0 0 (MQ below (va_Qv (fun (_ : Unit) => True) (fun _ t => POST g A (cl_X12 g a_T zu_T v_T ++ X) t) A) (List.toArray [.ref (a_T 0), .int x1]) s 0 0 A) (F0 m 0 ls [])), ∀ {u_T : S32} {w1 : Int32} {w2 : Int32} {t0 : Int32} {H : Heap} {locs : List Loc} {ls : Array Slot}, f_X12_bind_J58 fu v_T K0 u_T w1 w2 t0 = some zu_T → WD g A s.heap (cl_X12 g a_T u_T v_T ++ X) H locs → lv_has ls 5 [(0, .ref (a_T 0)), (1, .int w1), (2, .int w2)] → W p l e (rmH 1) s m (List.toArray [.ref (a_T 0), .int x1]) below meth c H locs 0 0 (MQ below (va_Qv (fun (_ : Unit) => True) (fun _ t => POST g A (cl_X12 g a_T zu_T v_T ++ X) t) A) (List.toArray [.ref (a_T 0), .int x1]) s 0 0 A) (F0 m 58 ls [.int t0]) := by
    intro K0 hK0 u_T w1 w2 t0 H locs ls hf hw hl
    unfold f_X12_bind_J58 at hf
    refine lv_istore_n (lv' := [(3, .int t0), (0, .ref (a_T 0)), (1, .int w1), (2, .int w2)]) hx hb dX12_bind_58 rfl hl (by decide) rfl (fun ls hl => ?_)
    refine lv_aload_n hx hb dX12_bind_59 rfl (lv_at hl 1 rfl) ?_
    obtain ⟨r_14, u_T_15, h_13, hf⟩ := tx_b2_e hf
    refine tx_ci hw (tx_runV S hE hw (c_X12_dropHeld h_13) lk_X12_278 (q0 := 0) rfl rfl rfl hl.1 (rest := []) rfl (Nat.le_of_ble_eq_true rfl) ⟨by decide, by decide⟩ dX12_bind_60 ⟨Nat.zero_le _, Nat.zero_le _⟩) (fun H locs hw => ?_)
    refine lv_istore (lv' := [(4, .int r_14), (3, .int t0), (0, .ref (a_T 0)), (1, .int w1), (2, .int w2)]) hx hb dX12_bind_63 hl (by decide) rfl (fun ls hl => ?_)
    refine lv_aload_n hx hb dX12_bind_65 rfl (lv_at hl 2 rfl) ?_
    refine lv_iload_n hx hb dX12_bind_66 rfl (lv_at hl 4 rfl) ?_
    refine lv_iload hx hb dX12_bind_67 (lv_at hl 0 rfl) ?_
    refine lv_iload_n hx hb dX12_bind_69 rfl (lv_at hl 1 rfl) ?_
    obtain ⟨u_T_17, h_16, hf⟩ := tx_b1_e hf
    refine tx_cv hw (tx_runV S hE hw (c_X12_grown h_16) lk_X12_282 (q0 := 0) rfl rfl rfl hl.1 (rest := []) rfl (Nat.le_of_ble_eq_true rfl) ⟨by decide, by decide⟩ dX12_bind_70 ⟨Nat.zero_le _, Nat.zero_le _⟩) (fun H locs hw => ?_)
    refine lv_goto (tgt := 0) hx hb dX12_bind_73 (by decide) ?_
    exact hK0 hf hw (lv_sub hl [2, 3] rfl)
  have J0 : ∀ {K0 : S32 → Int32 → Option (S32)} (hK0 : ∀ {u_T : S32} {w1 : Int32} {H : Heap} {locs : List Loc} {ls : Array Slot}, K0 u_T w1 = some zu_T → WD g A s.heap (cl_X12 g a_T u_T v_T ++ X) H locs → lv_has ls 5 [(0, .ref (a_T 0)), (1, .int w1)] → W p l e (rmH 1) s m (List.toArray [.ref (a_T 0), .int x1]) below meth c H locs 0 0 (MQ below (va_Qv (fun (_ : Unit) => True) (fun _ t => POST g A (cl_X12 g a_T zu_T v_T ++ X) t) A) (List.toArray [.ref (a_T 0), .int x1]) s 0 0 A) (F0 m 0 ls [])), ∀ {u_T : S32} {w1 : Int32} {H : Heap} {locs : List Loc} {ls : Array Slot}, f_X12_bind_J0 fu v_T K0 u_T w1 = some zu_T → WD g A s.heap (cl_X12 g a_T u_T v_T ++ X) H locs → lv_has ls 5 [(0, .ref (a_T 0)), (1, .int w1)] → W p l e (rmH 1) s m (List.toArray [.ref (a_T 0), .int x1]) below meth c H locs 0 0 (MQ below (va_Qv (fun (_ : Unit) => True) (fun _ t => POST g A (cl_X12 g a_T zu_T v_T ++ X) t) A) (List.toArray [.ref (a_T 0), .int x1]) s 0 0 A) (F0 m 0 ls []) := by
    intro K0 hK0 u_T w1 H locs ls hf hw hl
    unfold f_X12_bind_J0 at hf
    refine lv_aload_n hx hb dX12_bind_0 rfl (lv_at hl 0 rfl) ?_
    refine gf_X12_271 S hE hw 0 rfl rfl dX12_bind_1 ?_
    refine lv_if_le (tgt := 76) hx hb dX12_bind_4 (by decide) (fun h_1 => ?_) (fun h_1 => ?_)
    · replace hf := tx_pos hf h_1
      obtain e0 := tx_in1 hf
      rw [← e0]
      exact tx_vret S hr hlk hw dX12_bind_76
    · replace hf := tx_neg hf h_1
      refine lv_aload_n hx hb dX12_bind_7 rfl (lv_at hl 0 rfl) ?_
      refine gf_X12_75 S hE hw 0 rfl rfl dX12_bind_8 ?_
      refine lv_aload_n hx hb dX12_bind_11 rfl (lv_at hl 0 rfl) ?_
      refine gf_X12_271 S hE hw 0 rfl rfl dX12_bind_12 ?_
      refine lv_iconst (v := 1) hx hb dX12_bind_15 (by decide) ?_
      refine lv_isub hx hb dX12_bind_16 ?_
      obtain ⟨h_2, hf⟩ := tx_ck_e hf
      refine tx_iald S hE hw 21 rfl h_2 dX12_bind_17 ?_
      obtain ⟨r_4, h_3, hf⟩ := tx_b1_e hf
      refine tx_ci hw (tx_runS S hE hw (c_X12_rank h_3) lk_X12_274 rfl hl.1 (rest := []) rfl (Nat.le_of_ble_eq_true rfl) ⟨by decide, by decide⟩ dX12_bind_18 ⟨Nat.zero_le _, Nat.zero_le _⟩) (fun H locs hw => ?_)
      refine lv_iload_n hx hb dX12_bind_21 rfl (lv_at hl 1 rfl) ?_
      refine lv_icmp_lt (tgt := 76) hx hb dX12_bind_22 (by decide) (fun h_5 => ?_) (fun h_5 => ?_)
      · replace hf := tx_pos hf h_5
        obtain e0 := tx_in1 hf
        rw [← e0]
        exact tx_vret S hr hlk hw dX12_bind_76
      · replace hf := tx_neg hf h_5
        refine lv_aload_n hx hb dX12_bind_25 rfl (lv_at hl 0 rfl) ?_
        refine lv_dup hx hb dX12_bind_26 rfl ?_
        refine gf_X12_271 S hE hw 0 rfl rfl dX12_bind_27 ?_
        refine lv_iconst (v := 1) hx hb dX12_bind_30 (by decide) ?_
        refine lv_isub hx hb dX12_bind_31 ?_
        obtain ⟨u_T_6, eu_T_6⟩ : ∃ z : S32, z = up2 u_T 0 40 ((u_T 0 40) - (1 : Int32)) := ⟨_, rfl⟩
        replace hf := tx_let_e hf eu_T_6
        refine pf_X12_271 (ws' := cl_X12 g a_T u_T_6 v_T ++ X) S hE hw rfl rfl 0 rfl (Nat.le_of_ble_eq_true rfl) (by rw [eu_T_6]; rfl) dX12_bind_32 (fun H locs hw => ?_)
        refine lv_aload_n hx hb dX12_bind_35 rfl (lv_at hl 0 rfl) ?_
        refine gf_X12_75 S hE hw 0 rfl rfl dX12_bind_36 ?_
        refine lv_aload_n hx hb dX12_bind_39 rfl (lv_at hl 0 rfl) ?_
        refine gf_X12_271 S hE hw 0 rfl rfl dX12_bind_40 ?_
        obtain ⟨h_7, hf⟩ := tx_ck_e hf
        refine tx_iald S hE hw 21 rfl h_7 dX12_bind_43 ?_
        refine lv_topi (fun y_8 ey_8 => ?_)
        replace hf := tx_let_e hf ey_8
        refine lv_istore_n (lv' := [(2, .int y_8), (0, .ref (a_T 0)), (1, .int w1)]) hx hb dX12_bind_44 rfl hl (by decide) rfl (fun ls hl => ?_)
        refine lv_iload_n hx hb dX12_bind_45 rfl (lv_at hl 0 rfl) ?_
        refine lv_iconst (v := 2) hx hb dX12_bind_46 (by decide) ?_
        refine lv_icmp_ne (tgt := 54) hx hb dX12_bind_47 (by decide) (fun h_9 => ?_) (fun h_9 => ?_)
        · replace hf := tx_neg hf h_9
          refine lv_aload_n hx hb dX12_bind_54 rfl (lv_at hl 1 rfl) ?_
          obtain ⟨r_11, u_T_12, h_10, hf⟩ := tx_b2_e hf
          refine tx_ci hw (tx_runV S hE hw (c_X12_dropHeld h_10) lk_X12_278 (q0 := 0) rfl rfl rfl hl.1 (rest := []) rfl (Nat.le_of_ble_eq_true rfl) ⟨by decide, by decide⟩ dX12_bind_55 ⟨Nat.zero_le _, Nat.zero_le _⟩) (fun H locs hw => ?_)
          exact J58 hK0 hf hw (lv_sub hl [1, 2, 0] rfl)
        · replace hf := tx_pos hf h_9
          refine lv_iconst (v := -1) hx hb dX12_bind_50 (by decide) ?_
          refine lv_goto (tgt := 58) hx hb dX12_bind_51 (by decide) ?_
          exact J58 hK0 hf hw (lv_sub hl [1, 2, 0] rfl)
  have L0 : ∀ (n : Nat), ∀ {u_T : S32} {w1 : Int32} {H : Heap} {locs : List Loc} {ls : Array Slot}, f_X12_bind_L0 fu v_T n u_T w1 = some zu_T → WD g A s.heap (cl_X12 g a_T u_T v_T ++ X) H locs → lv_has ls 5 [(0, .ref (a_T 0)), (1, .int w1)] → W p l e (rmH 1) s m (List.toArray [.ref (a_T 0), .int x1]) below meth c H locs 0 0 (MQ below (va_Qv (fun (_ : Unit) => True) (fun _ t => POST g A (cl_X12 g a_T zu_T v_T ++ X) t) A) (List.toArray [.ref (a_T 0), .int x1]) s 0 0 A) (F0 m 0 ls []) := by
    intro  n
    induction n with
    | zero => intro u_T w1 H locs ls hf; exact absurd hf (by intro q; cases q)
    | succ n ih => exact fun hf hw hl => J0 ih hf hw hl
  unfold f_X12_bind at hf
  exact L0 fu hf hw (lv_sub hl [0, 1] rfl)
def f_X12_isCounted (fu : Nat) (v_T : S64) (u_T : S32) : Option (Int32 × S32) := if (u_T 0 43) = (64 : Int32) then (tx_b2 (f_X12_wrong fu v_T u_T (2 : Int32)) fun (r_4 : Int32) (u_T_5 : S32) => tx_bz r_4 <| some (r_4, u_T_5)) else (tx_let (up2 u_T 0 43 ((u_T 0 43) + (1 : Int32))) fun (u_T_2 : S32) => some ((1 : Int32), u_T_2))
set_option maxHeartbeats 4000000 in
set_option maxRecDepth 100000 in
theorem c_X12_isCounted {l : Launch} {g : GG} {A : Nat → Prop} {X : va_W} {fu : Nat} {a_T : Nat → Nat} {u_T : S32} {v_T : S64} {r : Int32} {zu_T : S32} (hf : f_X12_isCounted fu v_T u_T = some (r, zu_T)) : MI l yX12_isCounted cX12_isCounted 1 (some .boolean) 1 g A (cl_X12 g a_T u_T v_T ++ X) [.ref (a_T 0)] r (cl_X12 g a_T zu_T v_T ++ X) := by
  refine tx_start (av := [.ref (a_T 0)]) (by decide) (Nat.le_of_ble_eq_true rfl) ?_
  intro p e s m below meth c ls S hr hlk hE hw hl
  have S : CallFix p m c cX12_isCounted 1 s (List.toArray [.ref (a_T 0)]) (Cond.code yX12_isCounted cX12_isCounted 1 (some .boolean) :: allW) RX12 := S
  have hx := S.1
  have hb := S.2.1
  have hown := S.2.2.2.1
  have hts : ∀ w ∈ allW, w.before (List.toArray [.ref (a_T 0)]) s = true := fun w h => S.2.2.2.2 w (List.mem_cons_of_mem _ h)
  have hl : lv_has ls 1 [(0, .ref (a_T 0))] := hl
  unfold f_X12_isCounted at hf
  refine lv_aload_n hx hb dX12_isCounted_0 rfl (lv_at hl 0 rfl) ?_
  refine gf_X12_219 S hE hw 0 rfl rfl dX12_isCounted_1 ?_
  refine lv_bipush (v := 64) hx hb dX12_isCounted_4 (by decide) ?_
  refine lv_icmp_ne (tgt := 15) hx hb dX12_isCounted_6 (by decide) (fun h_1 => ?_) (fun h_1 => ?_)
  · replace hf := tx_neg hf h_1
    refine lv_aload_n hx hb dX12_isCounted_15 rfl (lv_at hl 0 rfl) ?_
    refine lv_dup hx hb dX12_isCounted_16 rfl ?_
    refine gf_X12_219 S hE hw 0 rfl rfl dX12_isCounted_17 ?_
    refine lv_iconst (v := 1) hx hb dX12_isCounted_20 (by decide) ?_
    refine lv_iadd hx hb dX12_isCounted_21 ?_
    obtain ⟨u_T_2, eu_T_2⟩ : ∃ z : S32, z = up2 u_T 0 43 ((u_T 0 43) + (1 : Int32)) := ⟨_, rfl⟩
    replace hf := tx_let_e hf eu_T_2
    refine pf_X12_219 (ws' := cl_X12 g a_T u_T_2 v_T ++ X) S hE hw rfl rfl 0 rfl (Nat.le_of_ble_eq_true rfl) (by rw [eu_T_2]; rfl) dX12_isCounted_22 (fun H locs hw => ?_)
    refine lv_iconst (v := 1) hx hb dX12_isCounted_25 (by decide) ?_
    obtain ⟨e0, e1⟩ := tx_in2 hf
    rw [← e0, ← e1]
    exact tx_zret S hr hlk (by decide) hw dX12_isCounted_26
  · replace hf := tx_pos hf h_1
    refine lv_aload_n hx hb dX12_isCounted_9 rfl (lv_at hl 0 rfl) ?_
    refine lv_iconst (v := 2) hx hb dX12_isCounted_10 (by decide) ?_
    obtain ⟨r_4, u_T_5, h_3, hf⟩ := tx_b2_e hf
    refine tx_ci hw (tx_runV S hE hw (c_X12_wrong h_3) lk_X12_187 (q0 := 0) rfl rfl rfl hl.1 (rest := []) rfl (Nat.le_of_ble_eq_true rfl) ⟨by decide, by decide⟩ dX12_isCounted_11 ⟨Nat.zero_le _, Nat.zero_le _⟩) (fun H locs hw => ?_)
    obtain ⟨h_6, hf⟩ := tx_bz_e hf
    obtain ⟨e0, e1⟩ := tx_in2 hf
    rw [← e0, ← e1]
    exact tx_zret S hr hlk h_6 hw dX12_isCounted_14
