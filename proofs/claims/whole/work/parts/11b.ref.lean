def f_X12_isKey (fu : Nat) (u_T : S32) (v_T : S64) (x1 : Int32) : Option (Int32) := if (u_T 0 8) = (1 : Int32) then (if (u_T 0 9) = x1 then (some (1 : Int32)) else (some (0 : Int32))) else (some (0 : Int32))
set_option maxHeartbeats 4000000 in
set_option maxRecDepth 100000 in
theorem c_X12_isKey {l : Launch} {g : GG} {A : Nat → Prop} {X : va_W} {fu : Nat} {a_T : Nat → Nat} {u_T : S32} {v_T : S64} {x1 : Int32} {r : Int32} (hf : f_X12_isKey fu u_T v_T x1 = some r) : MI l yX12_isKey cX12_isKey 2 (some .boolean) 0 g A (cl_X12 g a_T u_T v_T ++ X) [.ref (a_T 0), .int x1] r (cl_X12 g a_T u_T v_T ++ X) := by
  refine tx_start (av := [.ref (a_T 0), .int x1]) (by decide) (Nat.le_of_ble_eq_true rfl) ?_
  intro p e s m below meth c ls S hr hlk hE hw hl
  have S : CallFix p m c cX12_isKey 2 s (List.toArray [.ref (a_T 0), .int x1]) (Cond.code yX12_isKey cX12_isKey 2 (some .boolean) :: allW) RX12 := S
  have hx := S.1
  have hb := S.2.1
  have hown := S.2.2.2.1
  have hts : ∀ w ∈ allW, w.before (List.toArray [.ref (a_T 0), .int x1]) s = true := fun w h => S.2.2.2.2 w (List.mem_cons_of_mem _ h)
  have hl : lv_has ls 2 [(0, .ref (a_T 0)), (1, .int x1)] := hl
  unfold f_X12_isKey at hf
  refine lv_aload_n hx hb dX12_isKey_0 rfl (lv_at hl 0 rfl) ?_
  refine gf_X12_163 S hE hw 0 rfl rfl dX12_isKey_1 ?_
  refine lv_iconst (v := 1) hx hb dX12_isKey_4 (by decide) ?_
  refine lv_icmp_ne (tgt := 20) hx hb dX12_isKey_5 (by decide) (fun h_1 => ?_) (fun h_1 => ?_)
  · replace hf := tx_neg hf h_1
    refine lv_iconst (v := 0) hx hb dX12_isKey_20 (by decide) ?_
    obtain e0 := tx_in1 hf
    rw [← e0]
    exact tx_zret S hr hlk (by decide) hw dX12_isKey_21
  · replace hf := tx_pos hf h_1
    refine lv_aload_n hx hb dX12_isKey_8 rfl (lv_at hl 0 rfl) ?_
    refine gf_X12_174 S hE hw 0 rfl rfl dX12_isKey_9 ?_
    refine lv_iload_n hx hb dX12_isKey_12 rfl (lv_at hl 1 rfl) ?_
    refine lv_icmp_ne (tgt := 20) hx hb dX12_isKey_13 (by decide) (fun h_2 => ?_) (fun h_2 => ?_)
    · replace hf := tx_neg hf h_2
      refine lv_iconst (v := 0) hx hb dX12_isKey_20 (by decide) ?_
      obtain e0 := tx_in1 hf
      rw [← e0]
      exact tx_zret S hr hlk (by decide) hw dX12_isKey_21
    · replace hf := tx_pos hf h_2
      refine lv_iconst (v := 1) hx hb dX12_isKey_16 (by decide) ?_
      refine lv_goto (tgt := 21) hx hb dX12_isKey_17 (by decide) ?_
      obtain e0 := tx_in1 hf
      rw [← e0]
      exact tx_zret S hr hlk (by decide) hw dX12_isKey_21
def f_X12_isSign (fu : Nat) (u_T : S32) (v_T : S64) (x1 : Int32) : Option (Int32) := if (u_T 0 8) = (4 : Int32) then (if (u_T 0 9) = x1 then (some (1 : Int32)) else (some (0 : Int32))) else (some (0 : Int32))
set_option maxHeartbeats 4000000 in
set_option maxRecDepth 100000 in
theorem c_X12_isSign {l : Launch} {g : GG} {A : Nat → Prop} {X : va_W} {fu : Nat} {a_T : Nat → Nat} {u_T : S32} {v_T : S64} {x1 : Int32} {r : Int32} (hf : f_X12_isSign fu u_T v_T x1 = some r) : MI l yX12_isSign cX12_isSign 2 (some .boolean) 0 g A (cl_X12 g a_T u_T v_T ++ X) [.ref (a_T 0), .int x1] r (cl_X12 g a_T u_T v_T ++ X) := by
  refine tx_start (av := [.ref (a_T 0), .int x1]) (by decide) (Nat.le_of_ble_eq_true rfl) ?_
  intro p e s m below meth c ls S hr hlk hE hw hl
  have S : CallFix p m c cX12_isSign 2 s (List.toArray [.ref (a_T 0), .int x1]) (Cond.code yX12_isSign cX12_isSign 2 (some .boolean) :: allW) RX12 := S
  have hx := S.1
  have hb := S.2.1
  have hown := S.2.2.2.1
  have hts : ∀ w ∈ allW, w.before (List.toArray [.ref (a_T 0), .int x1]) s = true := fun w h => S.2.2.2.2 w (List.mem_cons_of_mem _ h)
  have hl : lv_has ls 2 [(0, .ref (a_T 0)), (1, .int x1)] := hl
  unfold f_X12_isSign at hf
  refine lv_aload_n hx hb dX12_isSign_0 rfl (lv_at hl 0 rfl) ?_
  refine gf_X12_163 S hE hw 0 rfl rfl dX12_isSign_1 ?_
  refine lv_iconst (v := 4) hx hb dX12_isSign_4 (by decide) ?_
  refine lv_icmp_ne (tgt := 20) hx hb dX12_isSign_5 (by decide) (fun h_1 => ?_) (fun h_1 => ?_)
  · replace hf := tx_neg hf h_1
    refine lv_iconst (v := 0) hx hb dX12_isSign_20 (by decide) ?_
    obtain e0 := tx_in1 hf
    rw [← e0]
    exact tx_zret S hr hlk (by decide) hw dX12_isSign_21
  · replace hf := tx_pos hf h_1
    refine lv_aload_n hx hb dX12_isSign_8 rfl (lv_at hl 0 rfl) ?_
    refine gf_X12_174 S hE hw 0 rfl rfl dX12_isSign_9 ?_
    refine lv_iload_n hx hb dX12_isSign_12 rfl (lv_at hl 1 rfl) ?_
    refine lv_icmp_ne (tgt := 20) hx hb dX12_isSign_13 (by decide) (fun h_2 => ?_) (fun h_2 => ?_)
    · replace hf := tx_neg hf h_2
      refine lv_iconst (v := 0) hx hb dX12_isSign_20 (by decide) ?_
      obtain e0 := tx_in1 hf
      rw [← e0]
      exact tx_zret S hr hlk (by decide) hw dX12_isSign_21
    · replace hf := tx_pos hf h_2
      refine lv_iconst (v := 1) hx hb dX12_isSign_16 (by decide) ?_
      refine lv_goto (tgt := 21) hx hb dX12_isSign_17 (by decide) ?_
      obtain e0 := tx_in1 hf
      rw [← e0]
      exact tx_zret S hr hlk (by decide) hw dX12_isSign_21
def f_X12_number (fu : Nat) (v_T : S64) (u_T : S32) (x1 : Int32) (x2 : Int32) : Option (Int32 × S32) := if (u_T 0 8) = (3 : Int32) then (tx_b1 (f_X12_isIn fu (u_T 0 9) x1 x2) fun (r_3 : Int32) => if r_3 = (0 : Int32) then (tx_b2 (f_X12_wrong fu v_T u_T (2 : Int32)) fun (r_9 : Int32) (u_T_10 : S32) => tx_bz r_9 <| some (r_9, u_T_10)) else (tx_let (up2 u_T 0 11 (u_T 0 9)) fun (u_T_5 : S32) => tx_b1 (f_X12_token fu v_T u_T_5) fun (u_T_7 : S32) => some ((1 : Int32), u_T_7))) else (tx_b2 (f_X12_wrong fu v_T u_T (1 : Int32)) fun (r_13 : Int32) (u_T_14 : S32) => tx_bz r_13 <| some (r_13, u_T_14))
set_option maxHeartbeats 4000000 in
set_option maxRecDepth 100000 in
theorem c_X12_number {l : Launch} {g : GG} {A : Nat → Prop} {X : va_W} {fu : Nat} {a_T : Nat → Nat} {u_T : S32} {v_T : S64} {x1 : Int32} {x2 : Int32} {r : Int32} {zu_T : S32} (hf : f_X12_number fu v_T u_T x1 x2 = some (r, zu_T)) : MI l yX12_number cX12_number 3 (some .boolean) 2 g A (cl_X12 g a_T u_T v_T ++ X) [.ref (a_T 0), .int x1, .int x2] r (cl_X12 g a_T zu_T v_T ++ X) := by
  refine tx_start (av := [.ref (a_T 0), .int x1, .int x2]) (by decide) (Nat.le_of_ble_eq_true rfl) ?_
  intro p e s m below meth c ls S hr hlk hE hw hl
  have S : CallFix p m c cX12_number 3 s (List.toArray [.ref (a_T 0), .int x1, .int x2]) (Cond.code yX12_number cX12_number 3 (some .boolean) :: allW) RX12 := S
  have hx := S.1
  have hb := S.2.1
  have hown := S.2.2.2.1
  have hts : ∀ w ∈ allW, w.before (List.toArray [.ref (a_T 0), .int x1, .int x2]) s = true := fun w h => S.2.2.2.2 w (List.mem_cons_of_mem _ h)
  have hl : lv_has ls 3 [(0, .ref (a_T 0)), (1, .int x1), (2, .int x2)] := hl
  unfold f_X12_number at hf
  refine lv_aload_n hx hb dX12_number_0 rfl (lv_at hl 0 rfl) ?_
  refine gf_X12_163 S hE hw 0 rfl rfl dX12_number_1 ?_
  refine lv_iconst (v := 3) hx hb dX12_number_4 (by decide) ?_
  refine lv_icmp_eq (tgt := 14) hx hb dX12_number_5 (by decide) (fun h_1 => ?_) (fun h_1 => ?_)
  · replace hf := tx_pos hf h_1
    refine lv_aload_n hx hb dX12_number_14 rfl (lv_at hl 0 rfl) ?_
    refine gf_X12_174 S hE hw 0 rfl rfl dX12_number_15 ?_
    refine lv_iload_n hx hb dX12_number_18 rfl (lv_at hl 1 rfl) ?_
    refine lv_iload_n hx hb dX12_number_19 rfl (lv_at hl 2 rfl) ?_
    obtain ⟨r_3, h_2, hf⟩ := tx_b1_e hf
    refine tx_ci hw (tx_runS S hE hw (c_X12_isIn h_2) lk_X12_190 rfl hl.1 (rest := []) rfl (Nat.le_of_ble_eq_true rfl) ⟨by decide, by decide⟩ dX12_number_20 ⟨Nat.zero_le _, Nat.zero_le _⟩) (fun H locs hw => ?_)
    refine lv_if_ne (tgt := 32) hx hb dX12_number_23 (by decide) (fun h_4 => ?_) (fun h_4 => ?_)
    · replace hf := tx_neg hf h_4
      refine lv_aload_n hx hb dX12_number_32 rfl (lv_at hl 0 rfl) ?_
      refine lv_aload_n hx hb dX12_number_33 rfl (lv_at hl 0 rfl) ?_
      refine gf_X12_174 S hE hw 0 rfl rfl dX12_number_34 ?_
      obtain ⟨u_T_5, eu_T_5⟩ : ∃ z : S32, z = up2 u_T 0 11 (u_T 0 9) := ⟨_, rfl⟩
      replace hf := tx_let_e hf eu_T_5
      refine pf_X12_194 (ws' := cl_X12 g a_T u_T_5 v_T ++ X) S hE hw rfl rfl 0 rfl (Nat.le_of_ble_eq_true rfl) (by rw [eu_T_5]; rfl) dX12_number_37 (fun H locs hw => ?_)
      refine lv_aload_n hx hb dX12_number_40 rfl (lv_at hl 0 rfl) ?_
      obtain ⟨u_T_7, h_6, hf⟩ := tx_b1_e hf
      refine tx_cv hw (tx_runV S hE hw (c_X12_token h_6) lk_X12_197 (q0 := 0) rfl rfl rfl hl.1 (rest := []) rfl (Nat.le_of_ble_eq_true rfl) ⟨by decide, by decide⟩ dX12_number_41 ⟨Nat.zero_le _, Nat.zero_le _⟩) (fun H locs hw => ?_)
      refine lv_iconst (v := 1) hx hb dX12_number_44 (by decide) ?_
      obtain ⟨e0, e1⟩ := tx_in2 hf
      rw [← e0, ← e1]
      exact tx_zret S hr hlk (by decide) hw dX12_number_45
    · replace hf := tx_pos hf h_4
      refine lv_aload_n hx hb dX12_number_26 rfl (lv_at hl 0 rfl) ?_
      refine lv_iconst (v := 2) hx hb dX12_number_27 (by decide) ?_
      obtain ⟨r_9, u_T_10, h_8, hf⟩ := tx_b2_e hf
      refine tx_ci hw (tx_runV S hE hw (c_X12_wrong h_8) lk_X12_187 (q0 := 0) rfl rfl rfl hl.1 (rest := []) rfl (Nat.le_of_ble_eq_true rfl) ⟨by decide, by decide⟩ dX12_number_28 ⟨Nat.zero_le _, Nat.zero_le _⟩) (fun H locs hw => ?_)
      obtain ⟨h_11, hf⟩ := tx_bz_e hf
      obtain ⟨e0, e1⟩ := tx_in2 hf
      rw [← e0, ← e1]
      exact tx_zret S hr hlk h_11 hw dX12_number_31
  · replace hf := tx_neg hf h_1
    refine lv_aload_n hx hb dX12_number_8 rfl (lv_at hl 0 rfl) ?_
    refine lv_iconst (v := 1) hx hb dX12_number_9 (by decide) ?_
    obtain ⟨r_13, u_T_14, h_12, hf⟩ := tx_b2_e hf
    refine tx_ci hw (tx_runV S hE hw (c_X12_wrong h_12) lk_X12_187 (q0 := 0) rfl rfl rfl hl.1 (rest := []) rfl (Nat.le_of_ble_eq_true rfl) ⟨by decide, by decide⟩ dX12_number_10 ⟨Nat.zero_le _, Nat.zero_le _⟩) (fun H locs hw => ?_)
    obtain ⟨h_15, hf⟩ := tx_bz_e hf
    obtain ⟨e0, e1⟩ := tx_in2 hf
    rw [← e0, ← e1]
    exact tx_zret S hr hlk h_15 hw dX12_number_13
def f_X12_plain_J27 (fu : Nat) (v_T : S64) (K27 : S32 → Int32 → Option (S32)) (u_T : S32) (w1 : Int32) : Option (S32) := if (3 : Int32) ≤ w1 then (tx_let (up2 u_T 22 (3 : Int32).toNatClampNeg (20 : Int32)) fun (u_T_7 : S32) => tx_let (up2 u_T_7 22 (4 : Int32).toNatClampNeg (5 : Int32)) fun (u_T_8 : S32) => tx_let (up2 u_T_8 22 (5 : Int32).toNatClampNeg (0 : Int32)) fun (u_T_9 : S32) => some u_T_9) else (tx_ck w1 3 <| tx_let (up2 u_T 21 w1.toNatClampNeg ((0 : Int32) &&& 1)) fun (u_T_11 : S32) => tx_ck ((3 : Int32) + w1) 6 <| tx_let (up2 u_T_11 33 ((3 : Int32) + w1).toNatClampNeg ((0 : Int32) &&& 1)) fun (u_T_13 : S32) => tx_let (w1 + (1 : Int32)) fun (y_14 : Int32) => K27 u_T_13 y_14)
def f_X12_plain_L27 (fu : Nat) (v_T : S64) : Nat → S32 → Int32 → Option (S32)
  | 0 => fun _ _ => none
  | n + 1 => f_X12_plain_J27 fu v_T (f_X12_plain_L27 fu v_T n)
def f_X12_plain (fu : Nat) (v_T : S64) (u_T : S32) : Option (S32) := tx_let (up2 u_T 0 16 (0 : Int32)) fun (u_T_1 : S32) => tx_let (up2 u_T_1 0 17 (0 : Int32)) fun (u_T_2 : S32) => tx_let (up2 u_T_2 0 18 (0 : Int32)) fun (u_T_3 : S32) => tx_let (up2 u_T_3 0 19 (0 : Int32)) fun (u_T_4 : S32) => tx_let (up2 u_T_4 0 43 (0 : Int32)) fun (u_T_5 : S32) => f_X12_plain_L27 fu v_T fu u_T_5 (0 : Int32)
set_option maxHeartbeats 4000000 in
set_option maxRecDepth 100000 in
theorem c_X12_plain {l : Launch} {g : GG} {A : Nat → Prop} {X : va_W} {fu : Nat} {a_T : Nat → Nat} {u_T : S32} {v_T : S64} {zu_T : S32} (hf : f_X12_plain fu v_T u_T = some zu_T) : MV l yX12_plain cX12_plain 2 none 0 g A (cl_X12 g a_T u_T v_T ++ X) [.ref (a_T 0)] (cl_X12 g a_T zu_T v_T ++ X) := by
  refine tx_start (av := [.ref (a_T 0)]) (by decide) (Nat.le_of_ble_eq_true rfl) ?_
  intro p e s m below meth c ls S hr hlk hE hw hl
  have S : CallFix p m c cX12_plain 2 s (List.toArray [.ref (a_T 0)]) (Cond.code yX12_plain cX12_plain 2 none :: allW) RX12 := S
  have hx := S.1
  have hb := S.2.1
  have hown := S.2.2.2.1
  have hts : ∀ w ∈ allW, w.before (List.toArray [.ref (a_T 0)]) s = true := fun w h => S.2.2.2.2 w (List.mem_cons_of_mem _ h)
  have hl : lv_has ls 2 [(0, .ref (a_T 0))] := hl
  have J27 : ∀ {K27 : S32 → Int32 → Option (S32)} (hK27 : ∀ {u_T : S32} {w1 : Int32} {H : Heap} {locs : List Loc} {ls : Array Slot}, K27 u_T w1 = some zu_T → WD g A s.heap (cl_X12 g a_T u_T v_T ++ X) H locs → lv_has ls 2 [(0, .ref (a_T 0)), (1, .int w1)] → W p l e (rmH 0) s m (List.toArray [.ref (a_T 0)]) below meth c H locs 0 0 (MQ below (va_Qv (fun (_ : Unit) => True) (fun _ t => POST g A (cl_X12 g a_T zu_T v_T ++ X) t) A) (List.toArray [.ref (a_T 0)]) s 0 0 A) (F0 m 27 ls [])), ∀ {u_T : S32} {w1 : Int32} {H : Heap} {locs : List Loc} {ls : Array Slot}, f_X12_plain_J27 fu v_T K27 u_T w1 = some zu_T → WD g A s.heap (cl_X12 g a_T u_T v_T ++ X) H locs → lv_has ls 2 [(0, .ref (a_T 0)), (1, .int w1)] → W p l e (rmH 0) s m (List.toArray [.ref (a_T 0)]) below meth c H locs 0 0 (MQ below (va_Qv (fun (_ : Unit) => True) (fun _ t => POST g A (cl_X12 g a_T zu_T v_T ++ X) t) A) (List.toArray [.ref (a_T 0)]) s 0 0 A) (F0 m 27 ls []) := by
    intro K27 hK27 u_T w1 H locs ls hf hw hl
    unfold f_X12_plain_J27 at hf
    refine lv_iload_n hx hb dX12_plain_27 rfl (lv_at hl 1 rfl) ?_
    refine lv_iconst (v := 3) hx hb dX12_plain_28 (by decide) ?_
    refine lv_icmp_ge (tgt := 54) hx hb dX12_plain_29 (by decide) (fun h_6 => ?_) (fun h_6 => ?_)
    · replace hf := tx_pos hf h_6
      refine lv_aload_n hx hb dX12_plain_54 rfl (lv_at hl 0 rfl) ?_
      refine gf_X12_24 S hE hw 0 rfl rfl dX12_plain_55 ?_
      refine lv_iconst (v := 3) hx hb dX12_plain_58 (by decide) ?_
      refine lv_bipush (v := 20) hx hb dX12_plain_59 (by decide) ?_
      obtain ⟨u_T_7, eu_T_7⟩ : ∃ z : S32, z = up2 u_T 22 (3 : Int32).toNatClampNeg (20 : Int32) := ⟨_, rfl⟩
      replace hf := tx_let_e hf eu_T_7
      refine tx_iast (ws' := cl_X12 g a_T u_T_7 v_T ++ X) S hE hw 4 rfl (by unfold vp_in; decide) (by rw [eu_T_7]; rfl) dX12_plain_61 (fun H locs hw => ?_)
      refine lv_aload_n hx hb dX12_plain_62 rfl (lv_at hl 0 rfl) ?_
      refine gf_X12_24 S hE hw 0 rfl rfl dX12_plain_63 ?_
      refine lv_iconst (v := 4) hx hb dX12_plain_66 (by decide) ?_
      refine lv_iconst (v := 5) hx hb dX12_plain_67 (by decide) ?_
      obtain ⟨u_T_8, eu_T_8⟩ : ∃ z : S32, z = up2 u_T_7 22 (4 : Int32).toNatClampNeg (5 : Int32) := ⟨_, rfl⟩
      replace hf := tx_let_e hf eu_T_8
      refine tx_iast (ws' := cl_X12 g a_T u_T_8 v_T ++ X) S hE hw 4 rfl (by unfold vp_in; decide) (by rw [eu_T_8]; rfl) dX12_plain_68 (fun H locs hw => ?_)
      refine lv_aload_n hx hb dX12_plain_69 rfl (lv_at hl 0 rfl) ?_
      refine gf_X12_24 S hE hw 0 rfl rfl dX12_plain_70 ?_
      refine lv_iconst (v := 5) hx hb dX12_plain_73 (by decide) ?_
      refine lv_iconst (v := 0) hx hb dX12_plain_74 (by decide) ?_
      obtain ⟨u_T_9, eu_T_9⟩ : ∃ z : S32, z = up2 u_T_8 22 (5 : Int32).toNatClampNeg (0 : Int32) := ⟨_, rfl⟩
      replace hf := tx_let_e hf eu_T_9
      refine tx_iast (ws' := cl_X12 g a_T u_T_9 v_T ++ X) S hE hw 4 rfl (by unfold vp_in; decide) (by rw [eu_T_9]; rfl) dX12_plain_75 (fun H locs hw => ?_)
      obtain e0 := tx_in1 hf
      rw [← e0]
      exact tx_vret S hr hlk hw dX12_plain_76
    · replace hf := tx_neg hf h_6
      refine lv_aload_n hx hb dX12_plain_32 rfl (lv_at hl 0 rfl) ?_
      refine gf_X12_20 S hE hw 0 rfl rfl dX12_plain_33 ?_
      refine lv_iload_n hx hb dX12_plain_36 rfl (lv_at hl 1 rfl) ?_
      refine lv_iconst (v := 0) hx hb dX12_plain_37 (by decide) ?_
      obtain ⟨h_10, hf⟩ := tx_ck_e hf
      obtain ⟨u_T_11, eu_T_11⟩ : ∃ z : S32, z = up2 u_T 21 w1.toNatClampNeg ((0 : Int32) &&& 1) := ⟨_, rfl⟩
      replace hf := tx_let_e hf eu_T_11
      refine tx_zast (ws' := cl_X12 g a_T u_T_11 v_T ++ X) S hE hw 3 rfl h_10 (by rw [eu_T_11]; rfl) dX12_plain_38 (fun H locs hw => ?_)
      refine lv_aload_n hx hb dX12_plain_39 rfl (lv_at hl 0 rfl) ?_
      refine gf_X12_57 S hE hw 0 rfl rfl dX12_plain_40 ?_
      refine lv_iconst (v := 3) hx hb dX12_plain_43 (by decide) ?_
      refine lv_iload_n hx hb dX12_plain_44 rfl (lv_at hl 1 rfl) ?_
      refine lv_iadd hx hb dX12_plain_45 ?_
      refine lv_iconst (v := 0) hx hb dX12_plain_46 (by decide) ?_
      obtain ⟨h_12, hf⟩ := tx_ck_e hf
      obtain ⟨u_T_13, eu_T_13⟩ : ∃ z : S32, z = up2 u_T_11 33 ((3 : Int32) + w1).toNatClampNeg ((0 : Int32) &&& 1) := ⟨_, rfl⟩
      replace hf := tx_let_e hf eu_T_13
      refine tx_zast (ws' := cl_X12 g a_T u_T_13 v_T ++ X) S hE hw 15 rfl h_12 (by rw [eu_T_13]; rfl) dX12_plain_47 (fun H locs hw => ?_)
      obtain ⟨y_14, ey_14⟩ : ∃ y : Int32, y = w1 + (1 : Int32) := ⟨_, rfl⟩
      replace hf := tx_let_e hf ey_14
      refine lv_iinc (v := y_14) (lv' := [(1, .int y_14), (0, .ref (a_T 0))]) hx hb dX12_plain_48 hl (k := 1) rfl (by rw [ey_14]; rfl) (by decide) rfl (fun ls hl => ?_)
      refine lv_goto (tgt := 27) hx hb dX12_plain_51 (by decide) ?_
      exact hK27 hf hw (lv_sub hl [1, 0] rfl)
  have L27 : ∀ (n : Nat), ∀ {u_T : S32} {w1 : Int32} {H : Heap} {locs : List Loc} {ls : Array Slot}, f_X12_plain_L27 fu v_T n u_T w1 = some zu_T → WD g A s.heap (cl_X12 g a_T u_T v_T ++ X) H locs → lv_has ls 2 [(0, .ref (a_T 0)), (1, .int w1)] → W p l e (rmH 0) s m (List.toArray [.ref (a_T 0)]) below meth c H locs 0 0 (MQ below (va_Qv (fun (_ : Unit) => True) (fun _ t => POST g A (cl_X12 g a_T zu_T v_T ++ X) t) A) (List.toArray [.ref (a_T 0)]) s 0 0 A) (F0 m 27 ls []) := by
    intro  n
    induction n with
    | zero => intro u_T w1 H locs ls hf; exact absurd hf (by intro q; cases q)
    | succ n ih => exact fun hf hw hl => J27 ih hf hw hl
  unfold f_X12_plain at hf
  refine lv_aload_n hx hb dX12_plain_0 rfl (lv_at hl 0 rfl) ?_
  refine lv_iconst (v := 0) hx hb dX12_plain_1 (by decide) ?_
  obtain ⟨u_T_1, eu_T_1⟩ : ∃ z : S32, z = up2 u_T 0 16 (0 : Int32) := ⟨_, rfl⟩
  replace hf := tx_let_e hf eu_T_1
  refine pf_X12_207 (ws' := cl_X12 g a_T u_T_1 v_T ++ X) S hE hw rfl rfl 0 rfl (Nat.le_of_ble_eq_true rfl) (by rw [eu_T_1]; rfl) dX12_plain_2 (fun H locs hw => ?_)
  refine lv_aload_n hx hb dX12_plain_5 rfl (lv_at hl 0 rfl) ?_
  refine lv_iconst (v := 0) hx hb dX12_plain_6 (by decide) ?_
  obtain ⟨u_T_2, eu_T_2⟩ : ∃ z : S32, z = up2 u_T_1 0 17 (0 : Int32) := ⟨_, rfl⟩
  replace hf := tx_let_e hf eu_T_2
  refine pf_X12_210 (ws' := cl_X12 g a_T u_T_2 v_T ++ X) S hE hw rfl rfl 0 rfl (Nat.le_of_ble_eq_true rfl) (by rw [eu_T_2]; rfl) dX12_plain_7 (fun H locs hw => ?_)
  refine lv_aload_n hx hb dX12_plain_10 rfl (lv_at hl 0 rfl) ?_
  refine lv_iconst (v := 0) hx hb dX12_plain_11 (by decide) ?_
  obtain ⟨u_T_3, eu_T_3⟩ : ∃ z : S32, z = up2 u_T_2 0 18 (0 : Int32) := ⟨_, rfl⟩
  replace hf := tx_let_e hf eu_T_3
  refine pf_X12_213 (ws' := cl_X12 g a_T u_T_3 v_T ++ X) S hE hw rfl rfl 0 rfl (Nat.le_of_ble_eq_true rfl) (by rw [eu_T_3]; rfl) dX12_plain_12 (fun H locs hw => ?_)
  refine lv_aload_n hx hb dX12_plain_15 rfl (lv_at hl 0 rfl) ?_
  refine lv_iconst (v := 0) hx hb dX12_plain_16 (by decide) ?_
  obtain ⟨u_T_4, eu_T_4⟩ : ∃ z : S32, z = up2 u_T_3 0 19 (0 : Int32) := ⟨_, rfl⟩
  replace hf := tx_let_e hf eu_T_4
  refine pf_X12_216 (ws' := cl_X12 g a_T u_T_4 v_T ++ X) S hE hw rfl rfl 0 rfl (Nat.le_of_ble_eq_true rfl) (by rw [eu_T_4]; rfl) dX12_plain_17 (fun H locs hw => ?_)
  refine lv_aload_n hx hb dX12_plain_20 rfl (lv_at hl 0 rfl) ?_
  refine lv_iconst (v := 0) hx hb dX12_plain_21 (by decide) ?_
  obtain ⟨u_T_5, eu_T_5⟩ : ∃ z : S32, z = up2 u_T_4 0 43 (0 : Int32) := ⟨_, rfl⟩
  replace hf := tx_let_e hf eu_T_5
  refine pf_X12_219 (ws' := cl_X12 g a_T u_T_5 v_T ++ X) S hE hw rfl rfl 0 rfl (Nat.le_of_ble_eq_true rfl) (by rw [eu_T_5]; rfl) dX12_plain_22 (fun H locs hw => ?_)
  refine lv_iconst (v := 0) hx hb dX12_plain_25 (by decide) ?_
  refine lv_istore_n (lv' := [(1, .int (0 : Int32)), (0, .ref (a_T 0))]) hx hb dX12_plain_26 rfl hl (by decide) rfl (fun ls hl => ?_)
  exact L27 fu hf hw (lv_sub hl [1, 0] rfl)
def f_X12_copies_oX12r22_J2 (fu : Nat) (v_M : S64) (K2 : S32 → Int32 → Int32 → Option (S32)) (u_M : S32) (w1 : Int32) (w2 : Int32) : Option (S32) := if w1 ≤ w2 then (some u_M) else (tx_ck (w1 + w2) 6 <| tx_ck w2 6 <| tx_let (up2 u_M 22 w2.toNatClampNeg (u_M 22 (w1 + w2).toNatClampNeg)) fun (u_M_4 : S32) => tx_let (w2 + (1 : Int32)) fun (y_5 : Int32) => K2 u_M_4 w1 y_5)
def f_X12_copies_oX12r22_L2 (fu : Nat) (v_M : S64) : Nat → S32 → Int32 → Int32 → Option (S32)
  | 0 => fun _ _ _ => none
  | n + 1 => f_X12_copies_oX12r22_J2 fu v_M (f_X12_copies_oX12r22_L2 fu v_M n)
def f_X12_copies_oX12r22 (fu : Nat) (v_M : S64) (u_M : S32) (x1 : Int32) : Option (S32) := f_X12_copies_oX12r22_L2 fu v_M fu u_M x1 (0 : Int32)
set_option maxHeartbeats 4000000 in
set_option maxRecDepth 100000 in
theorem c_X12_copies_oX12r22 {l : Launch} {g : GG} {A : Nat → Prop} {X : va_W} {fu : Nat} {a_M : Nat → Nat} {u_M : S32} {v_M : S64} {x1 : Int32} {zu_M : S32} (hf : f_X12_copies_oX12r22 fu v_M u_M x1 = some zu_M) : MV l yX12_copies cX12_copies 3 none 0 g A (cl_X12 g a_M u_M v_M ++ X) [.ref (a_M 22), .int x1] (cl_X12 g a_M zu_M v_M ++ X) := by
  refine tx_start (av := [.ref (a_M 22), .int x1]) (by decide) (Nat.le_of_ble_eq_true rfl) ?_
  intro p e s m below meth c ls S hr hlk hE hw hl
  have S : CallFix p m c cX12_copies 3 s (List.toArray [.ref (a_M 22), .int x1]) (Cond.code yX12_copies cX12_copies 3 none :: allW) RX12 := S
  have hx := S.1
  have hb := S.2.1
  have hown := S.2.2.2.1
  have hts : ∀ w ∈ allW, w.before (List.toArray [.ref (a_M 22), .int x1]) s = true := fun w h => S.2.2.2.2 w (List.mem_cons_of_mem _ h)
  have hl : lv_has ls 3 [(0, .ref (a_M 22)), (1, .int x1)] := hl
  have J2 : ∀ {K2 : S32 → Int32 → Int32 → Option (S32)} (hK2 : ∀ {u_M : S32} {w1 : Int32} {w2 : Int32} {H : Heap} {locs : List Loc} {ls : Array Slot}, K2 u_M w1 w2 = some zu_M → WD g A s.heap (cl_X12 g a_M u_M v_M ++ X) H locs → lv_has ls 3 [(0, .ref (a_M 22)), (1, .int w1), (2, .int w2)] → W p l e (rmH 0) s m (List.toArray [.ref (a_M 22), .int x1]) below meth c H locs 0 0 (MQ below (va_Qv (fun (_ : Unit) => True) (fun _ t => POST g A (cl_X12 g a_M zu_M v_M ++ X) t) A) (List.toArray [.ref (a_M 22), .int x1]) s 0 0 A) (F0 m 2 ls [])), ∀ {u_M : S32} {w1 : Int32} {w2 : Int32} {H : Heap} {locs : List Loc} {ls : Array Slot}, f_X12_copies_oX12r22_J2 fu v_M K2 u_M w1 w2 = some zu_M → WD g A s.heap (cl_X12 g a_M u_M v_M ++ X) H locs → lv_has ls 3 [(0, .ref (a_M 22)), (1, .int w1), (2, .int w2)] → W p l e (rmH 0) s m (List.toArray [.ref (a_M 22), .int x1]) below meth c H locs 0 0 (MQ below (va_Qv (fun (_ : Unit) => True) (fun _ t => POST g A (cl_X12 g a_M zu_M v_M ++ X) t) A) (List.toArray [.ref (a_M 22), .int x1]) s 0 0 A) (F0 m 2 ls []) := by
    intro K2 hK2 u_M w1 w2 H locs ls hf hw hl
    unfold f_X12_copies_oX12r22_J2 at hf
    refine lv_iload_n hx hb dX12_copies_2 rfl (lv_at hl 2 rfl) ?_
    refine lv_iload_n hx hb dX12_copies_3 rfl (lv_at hl 1 rfl) ?_
    refine lv_icmp_ge (tgt := 21) hx hb dX12_copies_4 (by decide) (fun h_1 => ?_) (fun h_1 => ?_)
    · replace hf := tx_pos hf h_1
      obtain e0 := tx_in1 hf
      rw [← e0]
      exact tx_vret S hr hlk hw dX12_copies_21
    · replace hf := tx_neg hf h_1
      refine lv_aload_n hx hb dX12_copies_7 rfl (lv_at hl 0 rfl) ?_
      refine lv_iload_n hx hb dX12_copies_8 rfl (lv_at hl 2 rfl) ?_
      refine lv_aload_n hx hb dX12_copies_9 rfl (lv_at hl 0 rfl) ?_
      refine lv_iload_n hx hb dX12_copies_10 rfl (lv_at hl 1 rfl) ?_
      refine lv_iload_n hx hb dX12_copies_11 rfl (lv_at hl 2 rfl) ?_
      refine lv_iadd hx hb dX12_copies_12 ?_
      obtain ⟨h_2, hf⟩ := tx_ck_e hf
      refine tx_iald S hE hw 4 rfl h_2 dX12_copies_13 ?_
      obtain ⟨h_3, hf⟩ := tx_ck_e hf
      obtain ⟨u_M_4, eu_M_4⟩ : ∃ z : S32, z = up2 u_M 22 w2.toNatClampNeg (u_M 22 (w1 + w2).toNatClampNeg) := ⟨_, rfl⟩
      replace hf := tx_let_e hf eu_M_4
      refine tx_iast (ws' := cl_X12 g a_M u_M_4 v_M ++ X) S hE hw 4 rfl h_3 (by rw [eu_M_4]; rfl) dX12_copies_14 (fun H locs hw => ?_)
      obtain ⟨y_5, ey_5⟩ : ∃ y : Int32, y = w2 + (1 : Int32) := ⟨_, rfl⟩
      replace hf := tx_let_e hf ey_5
      refine lv_iinc (v := y_5) (lv' := [(2, .int y_5), (0, .ref (a_M 22)), (1, .int w1)]) hx hb dX12_copies_15 hl (k := 2) rfl (by rw [ey_5]; rfl) (by decide) rfl (fun ls hl => ?_)
      refine lv_goto (tgt := 2) hx hb dX12_copies_18 (by decide) ?_
      exact hK2 hf hw (lv_sub hl [1, 2, 0] rfl)
  have L2 : ∀ (n : Nat), ∀ {u_M : S32} {w1 : Int32} {w2 : Int32} {H : Heap} {locs : List Loc} {ls : Array Slot}, f_X12_copies_oX12r22_L2 fu v_M n u_M w1 w2 = some zu_M → WD g A s.heap (cl_X12 g a_M u_M v_M ++ X) H locs → lv_has ls 3 [(0, .ref (a_M 22)), (1, .int w1), (2, .int w2)] → W p l e (rmH 0) s m (List.toArray [.ref (a_M 22), .int x1]) below meth c H locs 0 0 (MQ below (va_Qv (fun (_ : Unit) => True) (fun _ t => POST g A (cl_X12 g a_M zu_M v_M ++ X) t) A) (List.toArray [.ref (a_M 22), .int x1]) s 0 0 A) (F0 m 2 ls []) := by
    intro  n
    induction n with
    | zero => intro u_M w1 w2 H locs ls hf; exact absurd hf (by intro q; cases q)
    | succ n ih => exact fun hf hw hl => J2 ih hf hw hl
  unfold f_X12_copies_oX12r22 at hf
  refine lv_iconst (v := 0) hx hb dX12_copies_0 (by decide) ?_
  refine lv_istore_n (lv' := [(2, .int (0 : Int32)), (0, .ref (a_M 22)), (1, .int x1)]) hx hb dX12_copies_1 rfl hl (by decide) rfl (fun ls hl => ?_)
  exact L2 fu hf hw (lv_sub hl [1, 2, 0] rfl)
def f_X12_copies_oX12r23_J2 (fu : Nat) (v_M : S64) (K2 : S32 → Int32 → Int32 → Option (S32)) (u_M : S32) (w1 : Int32) (w2 : Int32) : Option (S32) := if w1 ≤ w2 then (some u_M) else (tx_ck (w1 + w2) 12 <| tx_ck w2 12 <| tx_let (up2 u_M 23 w2.toNatClampNeg (u_M 23 (w1 + w2).toNatClampNeg)) fun (u_M_4 : S32) => tx_let (w2 + (1 : Int32)) fun (y_5 : Int32) => K2 u_M_4 w1 y_5)
def f_X12_copies_oX12r23_L2 (fu : Nat) (v_M : S64) : Nat → S32 → Int32 → Int32 → Option (S32)
  | 0 => fun _ _ _ => none
  | n + 1 => f_X12_copies_oX12r23_J2 fu v_M (f_X12_copies_oX12r23_L2 fu v_M n)
def f_X12_copies_oX12r23 (fu : Nat) (v_M : S64) (u_M : S32) (x1 : Int32) : Option (S32) := f_X12_copies_oX12r23_L2 fu v_M fu u_M x1 (0 : Int32)
set_option maxHeartbeats 4000000 in
set_option maxRecDepth 100000 in
theorem c_X12_copies_oX12r23 {l : Launch} {g : GG} {A : Nat → Prop} {X : va_W} {fu : Nat} {a_M : Nat → Nat} {u_M : S32} {v_M : S64} {x1 : Int32} {zu_M : S32} (hf : f_X12_copies_oX12r23 fu v_M u_M x1 = some zu_M) : MV l yX12_copies cX12_copies 3 none 0 g A (cl_X12 g a_M u_M v_M ++ X) [.ref (a_M 23), .int x1] (cl_X12 g a_M zu_M v_M ++ X) := by
  refine tx_start (av := [.ref (a_M 23), .int x1]) (by decide) (Nat.le_of_ble_eq_true rfl) ?_
  intro p e s m below meth c ls S hr hlk hE hw hl
  have S : CallFix p m c cX12_copies 3 s (List.toArray [.ref (a_M 23), .int x1]) (Cond.code yX12_copies cX12_copies 3 none :: allW) RX12 := S
  have hx := S.1
  have hb := S.2.1
  have hown := S.2.2.2.1
  have hts : ∀ w ∈ allW, w.before (List.toArray [.ref (a_M 23), .int x1]) s = true := fun w h => S.2.2.2.2 w (List.mem_cons_of_mem _ h)
  have hl : lv_has ls 3 [(0, .ref (a_M 23)), (1, .int x1)] := hl
  have J2 : ∀ {K2 : S32 → Int32 → Int32 → Option (S32)} (hK2 : ∀ {u_M : S32} {w1 : Int32} {w2 : Int32} {H : Heap} {locs : List Loc} {ls : Array Slot}, K2 u_M w1 w2 = some zu_M → WD g A s.heap (cl_X12 g a_M u_M v_M ++ X) H locs → lv_has ls 3 [(0, .ref (a_M 23)), (1, .int w1), (2, .int w2)] → W p l e (rmH 0) s m (List.toArray [.ref (a_M 23), .int x1]) below meth c H locs 0 0 (MQ below (va_Qv (fun (_ : Unit) => True) (fun _ t => POST g A (cl_X12 g a_M zu_M v_M ++ X) t) A) (List.toArray [.ref (a_M 23), .int x1]) s 0 0 A) (F0 m 2 ls [])), ∀ {u_M : S32} {w1 : Int32} {w2 : Int32} {H : Heap} {locs : List Loc} {ls : Array Slot}, f_X12_copies_oX12r23_J2 fu v_M K2 u_M w1 w2 = some zu_M → WD g A s.heap (cl_X12 g a_M u_M v_M ++ X) H locs → lv_has ls 3 [(0, .ref (a_M 23)), (1, .int w1), (2, .int w2)] → W p l e (rmH 0) s m (List.toArray [.ref (a_M 23), .int x1]) below meth c H locs 0 0 (MQ below (va_Qv (fun (_ : Unit) => True) (fun _ t => POST g A (cl_X12 g a_M zu_M v_M ++ X) t) A) (List.toArray [.ref (a_M 23), .int x1]) s 0 0 A) (F0 m 2 ls []) := by
    intro K2 hK2 u_M w1 w2 H locs ls hf hw hl
    unfold f_X12_copies_oX12r23_J2 at hf
    refine lv_iload_n hx hb dX12_copies_2 rfl (lv_at hl 2 rfl) ?_
    refine lv_iload_n hx hb dX12_copies_3 rfl (lv_at hl 1 rfl) ?_
    refine lv_icmp_ge (tgt := 21) hx hb dX12_copies_4 (by decide) (fun h_1 => ?_) (fun h_1 => ?_)
    · replace hf := tx_pos hf h_1
      obtain e0 := tx_in1 hf
      rw [← e0]
      exact tx_vret S hr hlk hw dX12_copies_21
    · replace hf := tx_neg hf h_1
      refine lv_aload_n hx hb dX12_copies_7 rfl (lv_at hl 0 rfl) ?_
      refine lv_iload_n hx hb dX12_copies_8 rfl (lv_at hl 2 rfl) ?_
      refine lv_aload_n hx hb dX12_copies_9 rfl (lv_at hl 0 rfl) ?_
      refine lv_iload_n hx hb dX12_copies_10 rfl (lv_at hl 1 rfl) ?_
      refine lv_iload_n hx hb dX12_copies_11 rfl (lv_at hl 2 rfl) ?_
      refine lv_iadd hx hb dX12_copies_12 ?_
      obtain ⟨h_2, hf⟩ := tx_ck_e hf
      refine tx_iald S hE hw 5 rfl h_2 dX12_copies_13 ?_
      obtain ⟨h_3, hf⟩ := tx_ck_e hf
      obtain ⟨u_M_4, eu_M_4⟩ : ∃ z : S32, z = up2 u_M 23 w2.toNatClampNeg (u_M 23 (w1 + w2).toNatClampNeg) := ⟨_, rfl⟩
      replace hf := tx_let_e hf eu_M_4
      refine tx_iast (ws' := cl_X12 g a_M u_M_4 v_M ++ X) S hE hw 5 rfl h_3 (by rw [eu_M_4]; rfl) dX12_copies_14 (fun H locs hw => ?_)
      obtain ⟨y_5, ey_5⟩ : ∃ y : Int32, y = w2 + (1 : Int32) := ⟨_, rfl⟩
      replace hf := tx_let_e hf ey_5
      refine lv_iinc (v := y_5) (lv' := [(2, .int y_5), (0, .ref (a_M 23)), (1, .int w1)]) hx hb dX12_copies_15 hl (k := 2) rfl (by rw [ey_5]; rfl) (by decide) rfl (fun ls hl => ?_)
      refine lv_goto (tgt := 2) hx hb dX12_copies_18 (by decide) ?_
      exact hK2 hf hw (lv_sub hl [1, 2, 0] rfl)
  have L2 : ∀ (n : Nat), ∀ {u_M : S32} {w1 : Int32} {w2 : Int32} {H : Heap} {locs : List Loc} {ls : Array Slot}, f_X12_copies_oX12r23_L2 fu v_M n u_M w1 w2 = some zu_M → WD g A s.heap (cl_X12 g a_M u_M v_M ++ X) H locs → lv_has ls 3 [(0, .ref (a_M 23)), (1, .int w1), (2, .int w2)] → W p l e (rmH 0) s m (List.toArray [.ref (a_M 23), .int x1]) below meth c H locs 0 0 (MQ below (va_Qv (fun (_ : Unit) => True) (fun _ t => POST g A (cl_X12 g a_M zu_M v_M ++ X) t) A) (List.toArray [.ref (a_M 23), .int x1]) s 0 0 A) (F0 m 2 ls []) := by
    intro  n
    induction n with
    | zero => intro u_M w1 w2 H locs ls hf; exact absurd hf (by intro q; cases q)
    | succ n ih => exact fun hf hw hl => J2 ih hf hw hl
  unfold f_X12_copies_oX12r23 at hf
  refine lv_iconst (v := 0) hx hb dX12_copies_0 (by decide) ?_
  refine lv_istore_n (lv' := [(2, .int (0 : Int32)), (0, .ref (a_M 23)), (1, .int x1)]) hx hb dX12_copies_1 rfl hl (by decide) rfl (fun ls hl => ?_)
  exact L2 fu hf hw (lv_sub hl [1, 2, 0] rfl)
def f_X12_copies_oX12r24_J2 (fu : Nat) (v_M : S64) (K2 : S32 → Int32 → Int32 → Option (S32)) (u_M : S32) (w1 : Int32) (w2 : Int32) : Option (S32) := if w1 ≤ w2 then (some u_M) else (tx_ck (w1 + w2) 12 <| tx_ck w2 12 <| tx_let (up2 u_M 24 w2.toNatClampNeg (u_M 24 (w1 + w2).toNatClampNeg)) fun (u_M_4 : S32) => tx_let (w2 + (1 : Int32)) fun (y_5 : Int32) => K2 u_M_4 w1 y_5)
def f_X12_copies_oX12r24_L2 (fu : Nat) (v_M : S64) : Nat → S32 → Int32 → Int32 → Option (S32)
  | 0 => fun _ _ _ => none
  | n + 1 => f_X12_copies_oX12r24_J2 fu v_M (f_X12_copies_oX12r24_L2 fu v_M n)
def f_X12_copies_oX12r24 (fu : Nat) (v_M : S64) (u_M : S32) (x1 : Int32) : Option (S32) := f_X12_copies_oX12r24_L2 fu v_M fu u_M x1 (0 : Int32)
set_option maxHeartbeats 4000000 in
set_option maxRecDepth 100000 in
theorem c_X12_copies_oX12r24 {l : Launch} {g : GG} {A : Nat → Prop} {X : va_W} {fu : Nat} {a_M : Nat → Nat} {u_M : S32} {v_M : S64} {x1 : Int32} {zu_M : S32} (hf : f_X12_copies_oX12r24 fu v_M u_M x1 = some zu_M) : MV l yX12_copies cX12_copies 3 none 0 g A (cl_X12 g a_M u_M v_M ++ X) [.ref (a_M 24), .int x1] (cl_X12 g a_M zu_M v_M ++ X) := by
  refine tx_start (av := [.ref (a_M 24), .int x1]) (by decide) (Nat.le_of_ble_eq_true rfl) ?_
  intro p e s m below meth c ls S hr hlk hE hw hl
  have S : CallFix p m c cX12_copies 3 s (List.toArray [.ref (a_M 24), .int x1]) (Cond.code yX12_copies cX12_copies 3 none :: allW) RX12 := S
  have hx := S.1
  have hb := S.2.1
  have hown := S.2.2.2.1
  have hts : ∀ w ∈ allW, w.before (List.toArray [.ref (a_M 24), .int x1]) s = true := fun w h => S.2.2.2.2 w (List.mem_cons_of_mem _ h)
  have hl : lv_has ls 3 [(0, .ref (a_M 24)), (1, .int x1)] := hl
  have J2 : ∀ {K2 : S32 → Int32 → Int32 → Option (S32)} (hK2 : ∀ {u_M : S32} {w1 : Int32} {w2 : Int32} {H : Heap} {locs : List Loc} {ls : Array Slot}, K2 u_M w1 w2 = some zu_M → WD g A s.heap (cl_X12 g a_M u_M v_M ++ X) H locs → lv_has ls 3 [(0, .ref (a_M 24)), (1, .int w1), (2, .int w2)] → W p l e (rmH 0) s m (List.toArray [.ref (a_M 24), .int x1]) below meth c H locs 0 0 (MQ below (va_Qv (fun (_ : Unit) => True) (fun _ t => POST g A (cl_X12 g a_M zu_M v_M ++ X) t) A) (List.toArray [.ref (a_M 24), .int x1]) s 0 0 A) (F0 m 2 ls [])), ∀ {u_M : S32} {w1 : Int32} {w2 : Int32} {H : Heap} {locs : List Loc} {ls : Array Slot}, f_X12_copies_oX12r24_J2 fu v_M K2 u_M w1 w2 = some zu_M → WD g A s.heap (cl_X12 g a_M u_M v_M ++ X) H locs → lv_has ls 3 [(0, .ref (a_M 24)), (1, .int w1), (2, .int w2)] → W p l e (rmH 0) s m (List.toArray [.ref (a_M 24), .int x1]) below meth c H locs 0 0 (MQ below (va_Qv (fun (_ : Unit) => True) (fun _ t => POST g A (cl_X12 g a_M zu_M v_M ++ X) t) A) (List.toArray [.ref (a_M 24), .int x1]) s 0 0 A) (F0 m 2 ls []) := by
    intro K2 hK2 u_M w1 w2 H locs ls hf hw hl
    unfold f_X12_copies_oX12r24_J2 at hf
    refine lv_iload_n hx hb dX12_copies_2 rfl (lv_at hl 2 rfl) ?_
    refine lv_iload_n hx hb dX12_copies_3 rfl (lv_at hl 1 rfl) ?_
    refine lv_icmp_ge (tgt := 21) hx hb dX12_copies_4 (by decide) (fun h_1 => ?_) (fun h_1 => ?_)
    · replace hf := tx_pos hf h_1
      obtain e0 := tx_in1 hf
      rw [← e0]
      exact tx_vret S hr hlk hw dX12_copies_21
    · replace hf := tx_neg hf h_1
      refine lv_aload_n hx hb dX12_copies_7 rfl (lv_at hl 0 rfl) ?_
      refine lv_iload_n hx hb dX12_copies_8 rfl (lv_at hl 2 rfl) ?_
      refine lv_aload_n hx hb dX12_copies_9 rfl (lv_at hl 0 rfl) ?_
      refine lv_iload_n hx hb dX12_copies_10 rfl (lv_at hl 1 rfl) ?_
      refine lv_iload_n hx hb dX12_copies_11 rfl (lv_at hl 2 rfl) ?_
      refine lv_iadd hx hb dX12_copies_12 ?_
      obtain ⟨h_2, hf⟩ := tx_ck_e hf
      refine tx_iald S hE hw 6 rfl h_2 dX12_copies_13 ?_
      obtain ⟨h_3, hf⟩ := tx_ck_e hf
      obtain ⟨u_M_4, eu_M_4⟩ : ∃ z : S32, z = up2 u_M 24 w2.toNatClampNeg (u_M 24 (w1 + w2).toNatClampNeg) := ⟨_, rfl⟩
      replace hf := tx_let_e hf eu_M_4
      refine tx_iast (ws' := cl_X12 g a_M u_M_4 v_M ++ X) S hE hw 6 rfl h_3 (by rw [eu_M_4]; rfl) dX12_copies_14 (fun H locs hw => ?_)
      obtain ⟨y_5, ey_5⟩ : ∃ y : Int32, y = w2 + (1 : Int32) := ⟨_, rfl⟩
      replace hf := tx_let_e hf ey_5
      refine lv_iinc (v := y_5) (lv' := [(2, .int y_5), (0, .ref (a_M 24)), (1, .int w1)]) hx hb dX12_copies_15 hl (k := 2) rfl (by rw [ey_5]; rfl) (by decide) rfl (fun ls hl => ?_)
      refine lv_goto (tgt := 2) hx hb dX12_copies_18 (by decide) ?_
      exact hK2 hf hw (lv_sub hl [1, 2, 0] rfl)
  have L2 : ∀ (n : Nat), ∀ {u_M : S32} {w1 : Int32} {w2 : Int32} {H : Heap} {locs : List Loc} {ls : Array Slot}, f_X12_copies_oX12r24_L2 fu v_M n u_M w1 w2 = some zu_M → WD g A s.heap (cl_X12 g a_M u_M v_M ++ X) H locs → lv_has ls 3 [(0, .ref (a_M 24)), (1, .int w1), (2, .int w2)] → W p l e (rmH 0) s m (List.toArray [.ref (a_M 24), .int x1]) below meth c H locs 0 0 (MQ below (va_Qv (fun (_ : Unit) => True) (fun _ t => POST g A (cl_X12 g a_M zu_M v_M ++ X) t) A) (List.toArray [.ref (a_M 24), .int x1]) s 0 0 A) (F0 m 2 ls []) := by
    intro  n
    induction n with
    | zero => intro u_M w1 w2 H locs ls hf; exact absurd hf (by intro q; cases q)
    | succ n ih => exact fun hf hw hl => J2 ih hf hw hl
  unfold f_X12_copies_oX12r24 at hf
  refine lv_iconst (v := 0) hx hb dX12_copies_0 (by decide) ?_
  refine lv_istore_n (lv' := [(2, .int (0 : Int32)), (0, .ref (a_M 24)), (1, .int x1)]) hx hb dX12_copies_1 rfl hl (by decide) rfl (fun ls hl => ?_)
  exact L2 fu hf hw (lv_sub hl [1, 2, 0] rfl)
def f_X12_copies_oX12r25_J2 (fu : Nat) (v_M : S64) (K2 : S32 → Int32 → Int32 → Option (S32)) (u_M : S32) (w1 : Int32) (w2 : Int32) : Option (S32) := if w1 ≤ w2 then (some u_M) else (tx_ck (w1 + w2) 12 <| tx_ck w2 12 <| tx_let (up2 u_M 25 w2.toNatClampNeg (u_M 25 (w1 + w2).toNatClampNeg)) fun (u_M_4 : S32) => tx_let (w2 + (1 : Int32)) fun (y_5 : Int32) => K2 u_M_4 w1 y_5)
def f_X12_copies_oX12r25_L2 (fu : Nat) (v_M : S64) : Nat → S32 → Int32 → Int32 → Option (S32)
  | 0 => fun _ _ _ => none
  | n + 1 => f_X12_copies_oX12r25_J2 fu v_M (f_X12_copies_oX12r25_L2 fu v_M n)
def f_X12_copies_oX12r25 (fu : Nat) (v_M : S64) (u_M : S32) (x1 : Int32) : Option (S32) := f_X12_copies_oX12r25_L2 fu v_M fu u_M x1 (0 : Int32)
set_option maxHeartbeats 4000000 in
set_option maxRecDepth 100000 in
theorem c_X12_copies_oX12r25 {l : Launch} {g : GG} {A : Nat → Prop} {X : va_W} {fu : Nat} {a_M : Nat → Nat} {u_M : S32} {v_M : S64} {x1 : Int32} {zu_M : S32} (hf : f_X12_copies_oX12r25 fu v_M u_M x1 = some zu_M) : MV l yX12_copies cX12_copies 3 none 0 g A (cl_X12 g a_M u_M v_M ++ X) [.ref (a_M 25), .int x1] (cl_X12 g a_M zu_M v_M ++ X) := by
  refine tx_start (av := [.ref (a_M 25), .int x1]) (by decide) (Nat.le_of_ble_eq_true rfl) ?_
  intro p e s m below meth c ls S hr hlk hE hw hl
  have S : CallFix p m c cX12_copies 3 s (List.toArray [.ref (a_M 25), .int x1]) (Cond.code yX12_copies cX12_copies 3 none :: allW) RX12 := S
  have hx := S.1
  have hb := S.2.1
  have hown := S.2.2.2.1
  have hts : ∀ w ∈ allW, w.before (List.toArray [.ref (a_M 25), .int x1]) s = true := fun w h => S.2.2.2.2 w (List.mem_cons_of_mem _ h)
  have hl : lv_has ls 3 [(0, .ref (a_M 25)), (1, .int x1)] := hl
  have J2 : ∀ {K2 : S32 → Int32 → Int32 → Option (S32)} (hK2 : ∀ {u_M : S32} {w1 : Int32} {w2 : Int32} {H : Heap} {locs : List Loc} {ls : Array Slot}, K2 u_M w1 w2 = some zu_M → WD g A s.heap (cl_X12 g a_M u_M v_M ++ X) H locs → lv_has ls 3 [(0, .ref (a_M 25)), (1, .int w1), (2, .int w2)] → W p l e (rmH 0) s m (List.toArray [.ref (a_M 25), .int x1]) below meth c H locs 0 0 (MQ below (va_Qv (fun (_ : Unit) => True) (fun _ t => POST g A (cl_X12 g a_M zu_M v_M ++ X) t) A) (List.toArray [.ref (a_M 25), .int x1]) s 0 0 A) (F0 m 2 ls [])), ∀ {u_M : S32} {w1 : Int32} {w2 : Int32} {H : Heap} {locs : List Loc} {ls : Array Slot}, f_X12_copies_oX12r25_J2 fu v_M K2 u_M w1 w2 = some zu_M → WD g A s.heap (cl_X12 g a_M u_M v_M ++ X) H locs → lv_has ls 3 [(0, .ref (a_M 25)), (1, .int w1), (2, .int w2)] → W p l e (rmH 0) s m (List.toArray [.ref (a_M 25), .int x1]) below meth c H locs 0 0 (MQ below (va_Qv (fun (_ : Unit) => True) (fun _ t => POST g A (cl_X12 g a_M zu_M v_M ++ X) t) A) (List.toArray [.ref (a_M 25), .int x1]) s 0 0 A) (F0 m 2 ls []) := by
    intro K2 hK2 u_M w1 w2 H locs ls hf hw hl
    unfold f_X12_copies_oX12r25_J2 at hf
    refine lv_iload_n hx hb dX12_copies_2 rfl (lv_at hl 2 rfl) ?_
    refine lv_iload_n hx hb dX12_copies_3 rfl (lv_at hl 1 rfl) ?_
    refine lv_icmp_ge (tgt := 21) hx hb dX12_copies_4 (by decide) (fun h_1 => ?_) (fun h_1 => ?_)
    · replace hf := tx_pos hf h_1
      obtain e0 := tx_in1 hf
      rw [← e0]
      exact tx_vret S hr hlk hw dX12_copies_21
    · replace hf := tx_neg hf h_1
      refine lv_aload_n hx hb dX12_copies_7 rfl (lv_at hl 0 rfl) ?_
      refine lv_iload_n hx hb dX12_copies_8 rfl (lv_at hl 2 rfl) ?_
      refine lv_aload_n hx hb dX12_copies_9 rfl (lv_at hl 0 rfl) ?_
      refine lv_iload_n hx hb dX12_copies_10 rfl (lv_at hl 1 rfl) ?_
      refine lv_iload_n hx hb dX12_copies_11 rfl (lv_at hl 2 rfl) ?_
      refine lv_iadd hx hb dX12_copies_12 ?_
      obtain ⟨h_2, hf⟩ := tx_ck_e hf
      refine tx_iald S hE hw 7 rfl h_2 dX12_copies_13 ?_
      obtain ⟨h_3, hf⟩ := tx_ck_e hf
      obtain ⟨u_M_4, eu_M_4⟩ : ∃ z : S32, z = up2 u_M 25 w2.toNatClampNeg (u_M 25 (w1 + w2).toNatClampNeg) := ⟨_, rfl⟩
      replace hf := tx_let_e hf eu_M_4
      refine tx_iast (ws' := cl_X12 g a_M u_M_4 v_M ++ X) S hE hw 7 rfl h_3 (by rw [eu_M_4]; rfl) dX12_copies_14 (fun H locs hw => ?_)
      obtain ⟨y_5, ey_5⟩ : ∃ y : Int32, y = w2 + (1 : Int32) := ⟨_, rfl⟩
      replace hf := tx_let_e hf ey_5
      refine lv_iinc (v := y_5) (lv' := [(2, .int y_5), (0, .ref (a_M 25)), (1, .int w1)]) hx hb dX12_copies_15 hl (k := 2) rfl (by rw [ey_5]; rfl) (by decide) rfl (fun ls hl => ?_)
      refine lv_goto (tgt := 2) hx hb dX12_copies_18 (by decide) ?_
      exact hK2 hf hw (lv_sub hl [1, 2, 0] rfl)
  have L2 : ∀ (n : Nat), ∀ {u_M : S32} {w1 : Int32} {w2 : Int32} {H : Heap} {locs : List Loc} {ls : Array Slot}, f_X12_copies_oX12r25_L2 fu v_M n u_M w1 w2 = some zu_M → WD g A s.heap (cl_X12 g a_M u_M v_M ++ X) H locs → lv_has ls 3 [(0, .ref (a_M 25)), (1, .int w1), (2, .int w2)] → W p l e (rmH 0) s m (List.toArray [.ref (a_M 25), .int x1]) below meth c H locs 0 0 (MQ below (va_Qv (fun (_ : Unit) => True) (fun _ t => POST g A (cl_X12 g a_M zu_M v_M ++ X) t) A) (List.toArray [.ref (a_M 25), .int x1]) s 0 0 A) (F0 m 2 ls []) := by
    intro  n
    induction n with
    | zero => intro u_M w1 w2 H locs ls hf; exact absurd hf (by intro q; cases q)
    | succ n ih => exact fun hf hw hl => J2 ih hf hw hl
  unfold f_X12_copies_oX12r25 at hf
  refine lv_iconst (v := 0) hx hb dX12_copies_0 (by decide) ?_
  refine lv_istore_n (lv' := [(2, .int (0 : Int32)), (0, .ref (a_M 25)), (1, .int x1)]) hx hb dX12_copies_1 rfl hl (by decide) rfl (fun ls hl => ?_)
  exact L2 fu hf hw (lv_sub hl [1, 2, 0] rfl)
def f_X12_copies_oX12r26_J2 (fu : Nat) (v_M : S64) (K2 : S32 → Int32 → Int32 → Option (S32)) (u_M : S32) (w1 : Int32) (w2 : Int32) : Option (S32) := if w1 ≤ w2 then (some u_M) else (tx_ck (w1 + w2) 24 <| tx_ck w2 24 <| tx_let (up2 u_M 26 w2.toNatClampNeg (u_M 26 (w1 + w2).toNatClampNeg)) fun (u_M_4 : S32) => tx_let (w2 + (1 : Int32)) fun (y_5 : Int32) => K2 u_M_4 w1 y_5)
def f_X12_copies_oX12r26_L2 (fu : Nat) (v_M : S64) : Nat → S32 → Int32 → Int32 → Option (S32)
  | 0 => fun _ _ _ => none
  | n + 1 => f_X12_copies_oX12r26_J2 fu v_M (f_X12_copies_oX12r26_L2 fu v_M n)
def f_X12_copies_oX12r26 (fu : Nat) (v_M : S64) (u_M : S32) (x1 : Int32) : Option (S32) := f_X12_copies_oX12r26_L2 fu v_M fu u_M x1 (0 : Int32)
set_option maxHeartbeats 4000000 in
set_option maxRecDepth 100000 in
theorem c_X12_copies_oX12r26 {l : Launch} {g : GG} {A : Nat → Prop} {X : va_W} {fu : Nat} {a_M : Nat → Nat} {u_M : S32} {v_M : S64} {x1 : Int32} {zu_M : S32} (hf : f_X12_copies_oX12r26 fu v_M u_M x1 = some zu_M) : MV l yX12_copies cX12_copies 3 none 0 g A (cl_X12 g a_M u_M v_M ++ X) [.ref (a_M 26), .int x1] (cl_X12 g a_M zu_M v_M ++ X) := by
  refine tx_start (av := [.ref (a_M 26), .int x1]) (by decide) (Nat.le_of_ble_eq_true rfl) ?_
  intro p e s m below meth c ls S hr hlk hE hw hl
  have S : CallFix p m c cX12_copies 3 s (List.toArray [.ref (a_M 26), .int x1]) (Cond.code yX12_copies cX12_copies 3 none :: allW) RX12 := S
  have hx := S.1
  have hb := S.2.1
  have hown := S.2.2.2.1
  have hts : ∀ w ∈ allW, w.before (List.toArray [.ref (a_M 26), .int x1]) s = true := fun w h => S.2.2.2.2 w (List.mem_cons_of_mem _ h)
  have hl : lv_has ls 3 [(0, .ref (a_M 26)), (1, .int x1)] := hl
  have J2 : ∀ {K2 : S32 → Int32 → Int32 → Option (S32)} (hK2 : ∀ {u_M : S32} {w1 : Int32} {w2 : Int32} {H : Heap} {locs : List Loc} {ls : Array Slot}, K2 u_M w1 w2 = some zu_M → WD g A s.heap (cl_X12 g a_M u_M v_M ++ X) H locs → lv_has ls 3 [(0, .ref (a_M 26)), (1, .int w1), (2, .int w2)] → W p l e (rmH 0) s m (List.toArray [.ref (a_M 26), .int x1]) below meth c H locs 0 0 (MQ below (va_Qv (fun (_ : Unit) => True) (fun _ t => POST g A (cl_X12 g a_M zu_M v_M ++ X) t) A) (List.toArray [.ref (a_M 26), .int x1]) s 0 0 A) (F0 m 2 ls [])), ∀ {u_M : S32} {w1 : Int32} {w2 : Int32} {H : Heap} {locs : List Loc} {ls : Array Slot}, f_X12_copies_oX12r26_J2 fu v_M K2 u_M w1 w2 = some zu_M → WD g A s.heap (cl_X12 g a_M u_M v_M ++ X) H locs → lv_has ls 3 [(0, .ref (a_M 26)), (1, .int w1), (2, .int w2)] → W p l e (rmH 0) s m (List.toArray [.ref (a_M 26), .int x1]) below meth c H locs 0 0 (MQ below (va_Qv (fun (_ : Unit) => True) (fun _ t => POST g A (cl_X12 g a_M zu_M v_M ++ X) t) A) (List.toArray [.ref (a_M 26), .int x1]) s 0 0 A) (F0 m 2 ls []) := by
    intro K2 hK2 u_M w1 w2 H locs ls hf hw hl
    unfold f_X12_copies_oX12r26_J2 at hf
    refine lv_iload_n hx hb dX12_copies_2 rfl (lv_at hl 2 rfl) ?_
    refine lv_iload_n hx hb dX12_copies_3 rfl (lv_at hl 1 rfl) ?_
    refine lv_icmp_ge (tgt := 21) hx hb dX12_copies_4 (by decide) (fun h_1 => ?_) (fun h_1 => ?_)
    · replace hf := tx_pos hf h_1
      obtain e0 := tx_in1 hf
      rw [← e0]
      exact tx_vret S hr hlk hw dX12_copies_21
    · replace hf := tx_neg hf h_1
      refine lv_aload_n hx hb dX12_copies_7 rfl (lv_at hl 0 rfl) ?_
      refine lv_iload_n hx hb dX12_copies_8 rfl (lv_at hl 2 rfl) ?_
      refine lv_aload_n hx hb dX12_copies_9 rfl (lv_at hl 0 rfl) ?_
      refine lv_iload_n hx hb dX12_copies_10 rfl (lv_at hl 1 rfl) ?_
      refine lv_iload_n hx hb dX12_copies_11 rfl (lv_at hl 2 rfl) ?_
      refine lv_iadd hx hb dX12_copies_12 ?_
      obtain ⟨h_2, hf⟩ := tx_ck_e hf
      refine tx_iald S hE hw 8 rfl h_2 dX12_copies_13 ?_
      obtain ⟨h_3, hf⟩ := tx_ck_e hf
      obtain ⟨u_M_4, eu_M_4⟩ : ∃ z : S32, z = up2 u_M 26 w2.toNatClampNeg (u_M 26 (w1 + w2).toNatClampNeg) := ⟨_, rfl⟩
      replace hf := tx_let_e hf eu_M_4
      refine tx_iast (ws' := cl_X12 g a_M u_M_4 v_M ++ X) S hE hw 8 rfl h_3 (by rw [eu_M_4]; rfl) dX12_copies_14 (fun H locs hw => ?_)
      obtain ⟨y_5, ey_5⟩ : ∃ y : Int32, y = w2 + (1 : Int32) := ⟨_, rfl⟩
      replace hf := tx_let_e hf ey_5
      refine lv_iinc (v := y_5) (lv' := [(2, .int y_5), (0, .ref (a_M 26)), (1, .int w1)]) hx hb dX12_copies_15 hl (k := 2) rfl (by rw [ey_5]; rfl) (by decide) rfl (fun ls hl => ?_)
      refine lv_goto (tgt := 2) hx hb dX12_copies_18 (by decide) ?_
      exact hK2 hf hw (lv_sub hl [1, 2, 0] rfl)
  have L2 : ∀ (n : Nat), ∀ {u_M : S32} {w1 : Int32} {w2 : Int32} {H : Heap} {locs : List Loc} {ls : Array Slot}, f_X12_copies_oX12r26_L2 fu v_M n u_M w1 w2 = some zu_M → WD g A s.heap (cl_X12 g a_M u_M v_M ++ X) H locs → lv_has ls 3 [(0, .ref (a_M 26)), (1, .int w1), (2, .int w2)] → W p l e (rmH 0) s m (List.toArray [.ref (a_M 26), .int x1]) below meth c H locs 0 0 (MQ below (va_Qv (fun (_ : Unit) => True) (fun _ t => POST g A (cl_X12 g a_M zu_M v_M ++ X) t) A) (List.toArray [.ref (a_M 26), .int x1]) s 0 0 A) (F0 m 2 ls []) := by
    intro  n
    induction n with
    | zero => intro u_M w1 w2 H locs ls hf; exact absurd hf (by intro q; cases q)
    | succ n ih => exact fun hf hw hl => J2 ih hf hw hl
  unfold f_X12_copies_oX12r26 at hf
  refine lv_iconst (v := 0) hx hb dX12_copies_0 (by decide) ?_
  refine lv_istore_n (lv' := [(2, .int (0 : Int32)), (0, .ref (a_M 26)), (1, .int x1)]) hx hb dX12_copies_1 rfl hl (by decide) rfl (fun ls hl => ?_)
  exact L2 fu hf hw (lv_sub hl [1, 2, 0] rfl)
def f_X12_copies_oX12r27_J2 (fu : Nat) (v_M : S64) (K2 : S32 → Int32 → Int32 → Option (S32)) (u_M : S32) (w1 : Int32) (w2 : Int32) : Option (S32) := if w1 ≤ w2 then (some u_M) else (tx_ck (w1 + w2) 24 <| tx_ck w2 24 <| tx_let (up2 u_M 27 w2.toNatClampNeg (u_M 27 (w1 + w2).toNatClampNeg)) fun (u_M_4 : S32) => tx_let (w2 + (1 : Int32)) fun (y_5 : Int32) => K2 u_M_4 w1 y_5)
def f_X12_copies_oX12r27_L2 (fu : Nat) (v_M : S64) : Nat → S32 → Int32 → Int32 → Option (S32)
  | 0 => fun _ _ _ => none
  | n + 1 => f_X12_copies_oX12r27_J2 fu v_M (f_X12_copies_oX12r27_L2 fu v_M n)
def f_X12_copies_oX12r27 (fu : Nat) (v_M : S64) (u_M : S32) (x1 : Int32) : Option (S32) := f_X12_copies_oX12r27_L2 fu v_M fu u_M x1 (0 : Int32)
set_option maxHeartbeats 4000000 in
set_option maxRecDepth 100000 in
theorem c_X12_copies_oX12r27 {l : Launch} {g : GG} {A : Nat → Prop} {X : va_W} {fu : Nat} {a_M : Nat → Nat} {u_M : S32} {v_M : S64} {x1 : Int32} {zu_M : S32} (hf : f_X12_copies_oX12r27 fu v_M u_M x1 = some zu_M) : MV l yX12_copies cX12_copies 3 none 0 g A (cl_X12 g a_M u_M v_M ++ X) [.ref (a_M 27), .int x1] (cl_X12 g a_M zu_M v_M ++ X) := by
  refine tx_start (av := [.ref (a_M 27), .int x1]) (by decide) (Nat.le_of_ble_eq_true rfl) ?_
  intro p e s m below meth c ls S hr hlk hE hw hl
  have S : CallFix p m c cX12_copies 3 s (List.toArray [.ref (a_M 27), .int x1]) (Cond.code yX12_copies cX12_copies 3 none :: allW) RX12 := S
  have hx := S.1
  have hb := S.2.1
  have hown := S.2.2.2.1
  have hts : ∀ w ∈ allW, w.before (List.toArray [.ref (a_M 27), .int x1]) s = true := fun w h => S.2.2.2.2 w (List.mem_cons_of_mem _ h)
  have hl : lv_has ls 3 [(0, .ref (a_M 27)), (1, .int x1)] := hl
  have J2 : ∀ {K2 : S32 → Int32 → Int32 → Option (S32)} (hK2 : ∀ {u_M : S32} {w1 : Int32} {w2 : Int32} {H : Heap} {locs : List Loc} {ls : Array Slot}, K2 u_M w1 w2 = some zu_M → WD g A s.heap (cl_X12 g a_M u_M v_M ++ X) H locs → lv_has ls 3 [(0, .ref (a_M 27)), (1, .int w1), (2, .int w2)] → W p l e (rmH 0) s m (List.toArray [.ref (a_M 27), .int x1]) below meth c H locs 0 0 (MQ below (va_Qv (fun (_ : Unit) => True) (fun _ t => POST g A (cl_X12 g a_M zu_M v_M ++ X) t) A) (List.toArray [.ref (a_M 27), .int x1]) s 0 0 A) (F0 m 2 ls [])), ∀ {u_M : S32} {w1 : Int32} {w2 : Int32} {H : Heap} {locs : List Loc} {ls : Array Slot}, f_X12_copies_oX12r27_J2 fu v_M K2 u_M w1 w2 = some zu_M → WD g A s.heap (cl_X12 g a_M u_M v_M ++ X) H locs → lv_has ls 3 [(0, .ref (a_M 27)), (1, .int w1), (2, .int w2)] → W p l e (rmH 0) s m (List.toArray [.ref (a_M 27), .int x1]) below meth c H locs 0 0 (MQ below (va_Qv (fun (_ : Unit) => True) (fun _ t => POST g A (cl_X12 g a_M zu_M v_M ++ X) t) A) (List.toArray [.ref (a_M 27), .int x1]) s 0 0 A) (F0 m 2 ls []) := by
    intro K2 hK2 u_M w1 w2 H locs ls hf hw hl
    unfold f_X12_copies_oX12r27_J2 at hf
    refine lv_iload_n hx hb dX12_copies_2 rfl (lv_at hl 2 rfl) ?_
    refine lv_iload_n hx hb dX12_copies_3 rfl (lv_at hl 1 rfl) ?_
    refine lv_icmp_ge (tgt := 21) hx hb dX12_copies_4 (by decide) (fun h_1 => ?_) (fun h_1 => ?_)
    · replace hf := tx_pos hf h_1
      obtain e0 := tx_in1 hf
      rw [← e0]
      exact tx_vret S hr hlk hw dX12_copies_21
    · replace hf := tx_neg hf h_1
      refine lv_aload_n hx hb dX12_copies_7 rfl (lv_at hl 0 rfl) ?_
      refine lv_iload_n hx hb dX12_copies_8 rfl (lv_at hl 2 rfl) ?_
      refine lv_aload_n hx hb dX12_copies_9 rfl (lv_at hl 0 rfl) ?_
      refine lv_iload_n hx hb dX12_copies_10 rfl (lv_at hl 1 rfl) ?_
      refine lv_iload_n hx hb dX12_copies_11 rfl (lv_at hl 2 rfl) ?_
      refine lv_iadd hx hb dX12_copies_12 ?_
      obtain ⟨h_2, hf⟩ := tx_ck_e hf
      refine tx_iald S hE hw 9 rfl h_2 dX12_copies_13 ?_
      obtain ⟨h_3, hf⟩ := tx_ck_e hf
      obtain ⟨u_M_4, eu_M_4⟩ : ∃ z : S32, z = up2 u_M 27 w2.toNatClampNeg (u_M 27 (w1 + w2).toNatClampNeg) := ⟨_, rfl⟩
      replace hf := tx_let_e hf eu_M_4
      refine tx_iast (ws' := cl_X12 g a_M u_M_4 v_M ++ X) S hE hw 9 rfl h_3 (by rw [eu_M_4]; rfl) dX12_copies_14 (fun H locs hw => ?_)
      obtain ⟨y_5, ey_5⟩ : ∃ y : Int32, y = w2 + (1 : Int32) := ⟨_, rfl⟩
      replace hf := tx_let_e hf ey_5
      refine lv_iinc (v := y_5) (lv' := [(2, .int y_5), (0, .ref (a_M 27)), (1, .int w1)]) hx hb dX12_copies_15 hl (k := 2) rfl (by rw [ey_5]; rfl) (by decide) rfl (fun ls hl => ?_)
      refine lv_goto (tgt := 2) hx hb dX12_copies_18 (by decide) ?_
      exact hK2 hf hw (lv_sub hl [1, 2, 0] rfl)
  have L2 : ∀ (n : Nat), ∀ {u_M : S32} {w1 : Int32} {w2 : Int32} {H : Heap} {locs : List Loc} {ls : Array Slot}, f_X12_copies_oX12r27_L2 fu v_M n u_M w1 w2 = some zu_M → WD g A s.heap (cl_X12 g a_M u_M v_M ++ X) H locs → lv_has ls 3 [(0, .ref (a_M 27)), (1, .int w1), (2, .int w2)] → W p l e (rmH 0) s m (List.toArray [.ref (a_M 27), .int x1]) below meth c H locs 0 0 (MQ below (va_Qv (fun (_ : Unit) => True) (fun _ t => POST g A (cl_X12 g a_M zu_M v_M ++ X) t) A) (List.toArray [.ref (a_M 27), .int x1]) s 0 0 A) (F0 m 2 ls []) := by
    intro  n
    induction n with
    | zero => intro u_M w1 w2 H locs ls hf; exact absurd hf (by intro q; cases q)
    | succ n ih => exact fun hf hw hl => J2 ih hf hw hl
  unfold f_X12_copies_oX12r27 at hf
  refine lv_iconst (v := 0) hx hb dX12_copies_0 (by decide) ?_
  refine lv_istore_n (lv' := [(2, .int (0 : Int32)), (0, .ref (a_M 27)), (1, .int x1)]) hx hb dX12_copies_1 rfl hl (by decide) rfl (fun ls hl => ?_)
  exact L2 fu hf hw (lv_sub hl [1, 2, 0] rfl)
def f_X12_copies_oX12r28_J2 (fu : Nat) (v_M : S64) (K2 : S32 → Int32 → Int32 → Option (S32)) (u_M : S32) (w1 : Int32) (w2 : Int32) : Option (S32) := if w1 ≤ w2 then (some u_M) else (tx_ck (w1 + w2) 24 <| tx_ck w2 24 <| tx_let (up2 u_M 28 w2.toNatClampNeg (u_M 28 (w1 + w2).toNatClampNeg)) fun (u_M_4 : S32) => tx_let (w2 + (1 : Int32)) fun (y_5 : Int32) => K2 u_M_4 w1 y_5)
def f_X12_copies_oX12r28_L2 (fu : Nat) (v_M : S64) : Nat → S32 → Int32 → Int32 → Option (S32)
  | 0 => fun _ _ _ => none
  | n + 1 => f_X12_copies_oX12r28_J2 fu v_M (f_X12_copies_oX12r28_L2 fu v_M n)
def f_X12_copies_oX12r28 (fu : Nat) (v_M : S64) (u_M : S32) (x1 : Int32) : Option (S32) := f_X12_copies_oX12r28_L2 fu v_M fu u_M x1 (0 : Int32)
set_option maxHeartbeats 4000000 in
set_option maxRecDepth 100000 in
theorem c_X12_copies_oX12r28 {l : Launch} {g : GG} {A : Nat → Prop} {X : va_W} {fu : Nat} {a_M : Nat → Nat} {u_M : S32} {v_M : S64} {x1 : Int32} {zu_M : S32} (hf : f_X12_copies_oX12r28 fu v_M u_M x1 = some zu_M) : MV l yX12_copies cX12_copies 3 none 0 g A (cl_X12 g a_M u_M v_M ++ X) [.ref (a_M 28), .int x1] (cl_X12 g a_M zu_M v_M ++ X) := by
  refine tx_start (av := [.ref (a_M 28), .int x1]) (by decide) (Nat.le_of_ble_eq_true rfl) ?_
  intro p e s m below meth c ls S hr hlk hE hw hl
  have S : CallFix p m c cX12_copies 3 s (List.toArray [.ref (a_M 28), .int x1]) (Cond.code yX12_copies cX12_copies 3 none :: allW) RX12 := S
  have hx := S.1
  have hb := S.2.1
  have hown := S.2.2.2.1
  have hts : ∀ w ∈ allW, w.before (List.toArray [.ref (a_M 28), .int x1]) s = true := fun w h => S.2.2.2.2 w (List.mem_cons_of_mem _ h)
  have hl : lv_has ls 3 [(0, .ref (a_M 28)), (1, .int x1)] := hl
  have J2 : ∀ {K2 : S32 → Int32 → Int32 → Option (S32)} (hK2 : ∀ {u_M : S32} {w1 : Int32} {w2 : Int32} {H : Heap} {locs : List Loc} {ls : Array Slot}, K2 u_M w1 w2 = some zu_M → WD g A s.heap (cl_X12 g a_M u_M v_M ++ X) H locs → lv_has ls 3 [(0, .ref (a_M 28)), (1, .int w1), (2, .int w2)] → W p l e (rmH 0) s m (List.toArray [.ref (a_M 28), .int x1]) below meth c H locs 0 0 (MQ below (va_Qv (fun (_ : Unit) => True) (fun _ t => POST g A (cl_X12 g a_M zu_M v_M ++ X) t) A) (List.toArray [.ref (a_M 28), .int x1]) s 0 0 A) (F0 m 2 ls [])), ∀ {u_M : S32} {w1 : Int32} {w2 : Int32} {H : Heap} {locs : List Loc} {ls : Array Slot}, f_X12_copies_oX12r28_J2 fu v_M K2 u_M w1 w2 = some zu_M → WD g A s.heap (cl_X12 g a_M u_M v_M ++ X) H locs → lv_has ls 3 [(0, .ref (a_M 28)), (1, .int w1), (2, .int w2)] → W p l e (rmH 0) s m (List.toArray [.ref (a_M 28), .int x1]) below meth c H locs 0 0 (MQ below (va_Qv (fun (_ : Unit) => True) (fun _ t => POST g A (cl_X12 g a_M zu_M v_M ++ X) t) A) (List.toArray [.ref (a_M 28), .int x1]) s 0 0 A) (F0 m 2 ls []) := by
    intro K2 hK2 u_M w1 w2 H locs ls hf hw hl
    unfold f_X12_copies_oX12r28_J2 at hf
    refine lv_iload_n hx hb dX12_copies_2 rfl (lv_at hl 2 rfl) ?_
    refine lv_iload_n hx hb dX12_copies_3 rfl (lv_at hl 1 rfl) ?_
    refine lv_icmp_ge (tgt := 21) hx hb dX12_copies_4 (by decide) (fun h_1 => ?_) (fun h_1 => ?_)
    · replace hf := tx_pos hf h_1
      obtain e0 := tx_in1 hf
      rw [← e0]
      exact tx_vret S hr hlk hw dX12_copies_21
    · replace hf := tx_neg hf h_1
      refine lv_aload_n hx hb dX12_copies_7 rfl (lv_at hl 0 rfl) ?_
      refine lv_iload_n hx hb dX12_copies_8 rfl (lv_at hl 2 rfl) ?_
      refine lv_aload_n hx hb dX12_copies_9 rfl (lv_at hl 0 rfl) ?_
      refine lv_iload_n hx hb dX12_copies_10 rfl (lv_at hl 1 rfl) ?_
      refine lv_iload_n hx hb dX12_copies_11 rfl (lv_at hl 2 rfl) ?_
      refine lv_iadd hx hb dX12_copies_12 ?_
      obtain ⟨h_2, hf⟩ := tx_ck_e hf
      refine tx_iald S hE hw 10 rfl h_2 dX12_copies_13 ?_
      obtain ⟨h_3, hf⟩ := tx_ck_e hf
      obtain ⟨u_M_4, eu_M_4⟩ : ∃ z : S32, z = up2 u_M 28 w2.toNatClampNeg (u_M 28 (w1 + w2).toNatClampNeg) := ⟨_, rfl⟩
      replace hf := tx_let_e hf eu_M_4
      refine tx_iast (ws' := cl_X12 g a_M u_M_4 v_M ++ X) S hE hw 10 rfl h_3 (by rw [eu_M_4]; rfl) dX12_copies_14 (fun H locs hw => ?_)
      obtain ⟨y_5, ey_5⟩ : ∃ y : Int32, y = w2 + (1 : Int32) := ⟨_, rfl⟩
      replace hf := tx_let_e hf ey_5
      refine lv_iinc (v := y_5) (lv' := [(2, .int y_5), (0, .ref (a_M 28)), (1, .int w1)]) hx hb dX12_copies_15 hl (k := 2) rfl (by rw [ey_5]; rfl) (by decide) rfl (fun ls hl => ?_)
      refine lv_goto (tgt := 2) hx hb dX12_copies_18 (by decide) ?_
      exact hK2 hf hw (lv_sub hl [1, 2, 0] rfl)
  have L2 : ∀ (n : Nat), ∀ {u_M : S32} {w1 : Int32} {w2 : Int32} {H : Heap} {locs : List Loc} {ls : Array Slot}, f_X12_copies_oX12r28_L2 fu v_M n u_M w1 w2 = some zu_M → WD g A s.heap (cl_X12 g a_M u_M v_M ++ X) H locs → lv_has ls 3 [(0, .ref (a_M 28)), (1, .int w1), (2, .int w2)] → W p l e (rmH 0) s m (List.toArray [.ref (a_M 28), .int x1]) below meth c H locs 0 0 (MQ below (va_Qv (fun (_ : Unit) => True) (fun _ t => POST g A (cl_X12 g a_M zu_M v_M ++ X) t) A) (List.toArray [.ref (a_M 28), .int x1]) s 0 0 A) (F0 m 2 ls []) := by
    intro  n
    induction n with
    | zero => intro u_M w1 w2 H locs ls hf; exact absurd hf (by intro q; cases q)
    | succ n ih => exact fun hf hw hl => J2 ih hf hw hl
  unfold f_X12_copies_oX12r28 at hf
  refine lv_iconst (v := 0) hx hb dX12_copies_0 (by decide) ?_
  refine lv_istore_n (lv' := [(2, .int (0 : Int32)), (0, .ref (a_M 28)), (1, .int x1)]) hx hb dX12_copies_1 rfl hl (by decide) rfl (fun ls hl => ?_)
  exact L2 fu hf hw (lv_sub hl [1, 2, 0] rfl)
def f_X12_copies_oX12r29_J2 (fu : Nat) (v_M : S64) (K2 : S32 → Int32 → Int32 → Option (S32)) (u_M : S32) (w1 : Int32) (w2 : Int32) : Option (S32) := if w1 ≤ w2 then (some u_M) else (tx_ck (w1 + w2) 24 <| tx_ck w2 24 <| tx_let (up2 u_M 29 w2.toNatClampNeg (u_M 29 (w1 + w2).toNatClampNeg)) fun (u_M_4 : S32) => tx_let (w2 + (1 : Int32)) fun (y_5 : Int32) => K2 u_M_4 w1 y_5)
def f_X12_copies_oX12r29_L2 (fu : Nat) (v_M : S64) : Nat → S32 → Int32 → Int32 → Option (S32)
  | 0 => fun _ _ _ => none
  | n + 1 => f_X12_copies_oX12r29_J2 fu v_M (f_X12_copies_oX12r29_L2 fu v_M n)
def f_X12_copies_oX12r29 (fu : Nat) (v_M : S64) (u_M : S32) (x1 : Int32) : Option (S32) := f_X12_copies_oX12r29_L2 fu v_M fu u_M x1 (0 : Int32)
set_option maxHeartbeats 4000000 in
set_option maxRecDepth 100000 in
theorem c_X12_copies_oX12r29 {l : Launch} {g : GG} {A : Nat → Prop} {X : va_W} {fu : Nat} {a_M : Nat → Nat} {u_M : S32} {v_M : S64} {x1 : Int32} {zu_M : S32} (hf : f_X12_copies_oX12r29 fu v_M u_M x1 = some zu_M) : MV l yX12_copies cX12_copies 3 none 0 g A (cl_X12 g a_M u_M v_M ++ X) [.ref (a_M 29), .int x1] (cl_X12 g a_M zu_M v_M ++ X) := by
  refine tx_start (av := [.ref (a_M 29), .int x1]) (by decide) (Nat.le_of_ble_eq_true rfl) ?_
  intro p e s m below meth c ls S hr hlk hE hw hl
  have S : CallFix p m c cX12_copies 3 s (List.toArray [.ref (a_M 29), .int x1]) (Cond.code yX12_copies cX12_copies 3 none :: allW) RX12 := S
  have hx := S.1
  have hb := S.2.1
  have hown := S.2.2.2.1
  have hts : ∀ w ∈ allW, w.before (List.toArray [.ref (a_M 29), .int x1]) s = true := fun w h => S.2.2.2.2 w (List.mem_cons_of_mem _ h)
  have hl : lv_has ls 3 [(0, .ref (a_M 29)), (1, .int x1)] := hl
  have J2 : ∀ {K2 : S32 → Int32 → Int32 → Option (S32)} (hK2 : ∀ {u_M : S32} {w1 : Int32} {w2 : Int32} {H : Heap} {locs : List Loc} {ls : Array Slot}, K2 u_M w1 w2 = some zu_M → WD g A s.heap (cl_X12 g a_M u_M v_M ++ X) H locs → lv_has ls 3 [(0, .ref (a_M 29)), (1, .int w1), (2, .int w2)] → W p l e (rmH 0) s m (List.toArray [.ref (a_M 29), .int x1]) below meth c H locs 0 0 (MQ below (va_Qv (fun (_ : Unit) => True) (fun _ t => POST g A (cl_X12 g a_M zu_M v_M ++ X) t) A) (List.toArray [.ref (a_M 29), .int x1]) s 0 0 A) (F0 m 2 ls [])), ∀ {u_M : S32} {w1 : Int32} {w2 : Int32} {H : Heap} {locs : List Loc} {ls : Array Slot}, f_X12_copies_oX12r29_J2 fu v_M K2 u_M w1 w2 = some zu_M → WD g A s.heap (cl_X12 g a_M u_M v_M ++ X) H locs → lv_has ls 3 [(0, .ref (a_M 29)), (1, .int w1), (2, .int w2)] → W p l e (rmH 0) s m (List.toArray [.ref (a_M 29), .int x1]) below meth c H locs 0 0 (MQ below (va_Qv (fun (_ : Unit) => True) (fun _ t => POST g A (cl_X12 g a_M zu_M v_M ++ X) t) A) (List.toArray [.ref (a_M 29), .int x1]) s 0 0 A) (F0 m 2 ls []) := by
    intro K2 hK2 u_M w1 w2 H locs ls hf hw hl
    unfold f_X12_copies_oX12r29_J2 at hf
    refine lv_iload_n hx hb dX12_copies_2 rfl (lv_at hl 2 rfl) ?_
    refine lv_iload_n hx hb dX12_copies_3 rfl (lv_at hl 1 rfl) ?_
    refine lv_icmp_ge (tgt := 21) hx hb dX12_copies_4 (by decide) (fun h_1 => ?_) (fun h_1 => ?_)
    · replace hf := tx_pos hf h_1
      obtain e0 := tx_in1 hf
      rw [← e0]
      exact tx_vret S hr hlk hw dX12_copies_21
    · replace hf := tx_neg hf h_1
      refine lv_aload_n hx hb dX12_copies_7 rfl (lv_at hl 0 rfl) ?_
      refine lv_iload_n hx hb dX12_copies_8 rfl (lv_at hl 2 rfl) ?_
      refine lv_aload_n hx hb dX12_copies_9 rfl (lv_at hl 0 rfl) ?_
      refine lv_iload_n hx hb dX12_copies_10 rfl (lv_at hl 1 rfl) ?_
      refine lv_iload_n hx hb dX12_copies_11 rfl (lv_at hl 2 rfl) ?_
      refine lv_iadd hx hb dX12_copies_12 ?_
      obtain ⟨h_2, hf⟩ := tx_ck_e hf
      refine tx_iald S hE hw 11 rfl h_2 dX12_copies_13 ?_
      obtain ⟨h_3, hf⟩ := tx_ck_e hf
      obtain ⟨u_M_4, eu_M_4⟩ : ∃ z : S32, z = up2 u_M 29 w2.toNatClampNeg (u_M 29 (w1 + w2).toNatClampNeg) := ⟨_, rfl⟩
      replace hf := tx_let_e hf eu_M_4
      refine tx_iast (ws' := cl_X12 g a_M u_M_4 v_M ++ X) S hE hw 11 rfl h_3 (by rw [eu_M_4]; rfl) dX12_copies_14 (fun H locs hw => ?_)
      obtain ⟨y_5, ey_5⟩ : ∃ y : Int32, y = w2 + (1 : Int32) := ⟨_, rfl⟩
      replace hf := tx_let_e hf ey_5
      refine lv_iinc (v := y_5) (lv' := [(2, .int y_5), (0, .ref (a_M 29)), (1, .int w1)]) hx hb dX12_copies_15 hl (k := 2) rfl (by rw [ey_5]; rfl) (by decide) rfl (fun ls hl => ?_)
      refine lv_goto (tgt := 2) hx hb dX12_copies_18 (by decide) ?_
      exact hK2 hf hw (lv_sub hl [1, 2, 0] rfl)
  have L2 : ∀ (n : Nat), ∀ {u_M : S32} {w1 : Int32} {w2 : Int32} {H : Heap} {locs : List Loc} {ls : Array Slot}, f_X12_copies_oX12r29_L2 fu v_M n u_M w1 w2 = some zu_M → WD g A s.heap (cl_X12 g a_M u_M v_M ++ X) H locs → lv_has ls 3 [(0, .ref (a_M 29)), (1, .int w1), (2, .int w2)] → W p l e (rmH 0) s m (List.toArray [.ref (a_M 29), .int x1]) below meth c H locs 0 0 (MQ below (va_Qv (fun (_ : Unit) => True) (fun _ t => POST g A (cl_X12 g a_M zu_M v_M ++ X) t) A) (List.toArray [.ref (a_M 29), .int x1]) s 0 0 A) (F0 m 2 ls []) := by
    intro  n
    induction n with
    | zero => intro u_M w1 w2 H locs ls hf; exact absurd hf (by intro q; cases q)
    | succ n ih => exact fun hf hw hl => J2 ih hf hw hl
  unfold f_X12_copies_oX12r29 at hf
  refine lv_iconst (v := 0) hx hb dX12_copies_0 (by decide) ?_
  refine lv_istore_n (lv' := [(2, .int (0 : Int32)), (0, .ref (a_M 29)), (1, .int x1)]) hx hb dX12_copies_1 rfl hl (by decide) rfl (fun ls hl => ?_)
  exact L2 fu hf hw (lv_sub hl [1, 2, 0] rfl)
def f_X12_copies_oX12r30_J2 (fu : Nat) (v_M : S64) (K2 : S32 → Int32 → Int32 → Option (S32)) (u_M : S32) (w1 : Int32) (w2 : Int32) : Option (S32) := if w1 ≤ w2 then (some u_M) else (tx_ck (w1 + w2) 8 <| tx_ck w2 8 <| tx_let (up2 u_M 30 w2.toNatClampNeg (u_M 30 (w1 + w2).toNatClampNeg)) fun (u_M_4 : S32) => tx_let (w2 + (1 : Int32)) fun (y_5 : Int32) => K2 u_M_4 w1 y_5)
def f_X12_copies_oX12r30_L2 (fu : Nat) (v_M : S64) : Nat → S32 → Int32 → Int32 → Option (S32)
  | 0 => fun _ _ _ => none
  | n + 1 => f_X12_copies_oX12r30_J2 fu v_M (f_X12_copies_oX12r30_L2 fu v_M n)
def f_X12_copies_oX12r30 (fu : Nat) (v_M : S64) (u_M : S32) (x1 : Int32) : Option (S32) := f_X12_copies_oX12r30_L2 fu v_M fu u_M x1 (0 : Int32)
set_option maxHeartbeats 4000000 in
set_option maxRecDepth 100000 in
theorem c_X12_copies_oX12r30 {l : Launch} {g : GG} {A : Nat → Prop} {X : va_W} {fu : Nat} {a_M : Nat → Nat} {u_M : S32} {v_M : S64} {x1 : Int32} {zu_M : S32} (hf : f_X12_copies_oX12r30 fu v_M u_M x1 = some zu_M) : MV l yX12_copies cX12_copies 3 none 0 g A (cl_X12 g a_M u_M v_M ++ X) [.ref (a_M 30), .int x1] (cl_X12 g a_M zu_M v_M ++ X) := by
  refine tx_start (av := [.ref (a_M 30), .int x1]) (by decide) (Nat.le_of_ble_eq_true rfl) ?_
  intro p e s m below meth c ls S hr hlk hE hw hl
  have S : CallFix p m c cX12_copies 3 s (List.toArray [.ref (a_M 30), .int x1]) (Cond.code yX12_copies cX12_copies 3 none :: allW) RX12 := S
  have hx := S.1
  have hb := S.2.1
  have hown := S.2.2.2.1
  have hts : ∀ w ∈ allW, w.before (List.toArray [.ref (a_M 30), .int x1]) s = true := fun w h => S.2.2.2.2 w (List.mem_cons_of_mem _ h)
  have hl : lv_has ls 3 [(0, .ref (a_M 30)), (1, .int x1)] := hl
  have J2 : ∀ {K2 : S32 → Int32 → Int32 → Option (S32)} (hK2 : ∀ {u_M : S32} {w1 : Int32} {w2 : Int32} {H : Heap} {locs : List Loc} {ls : Array Slot}, K2 u_M w1 w2 = some zu_M → WD g A s.heap (cl_X12 g a_M u_M v_M ++ X) H locs → lv_has ls 3 [(0, .ref (a_M 30)), (1, .int w1), (2, .int w2)] → W p l e (rmH 0) s m (List.toArray [.ref (a_M 30), .int x1]) below meth c H locs 0 0 (MQ below (va_Qv (fun (_ : Unit) => True) (fun _ t => POST g A (cl_X12 g a_M zu_M v_M ++ X) t) A) (List.toArray [.ref (a_M 30), .int x1]) s 0 0 A) (F0 m 2 ls [])), ∀ {u_M : S32} {w1 : Int32} {w2 : Int32} {H : Heap} {locs : List Loc} {ls : Array Slot}, f_X12_copies_oX12r30_J2 fu v_M K2 u_M w1 w2 = some zu_M → WD g A s.heap (cl_X12 g a_M u_M v_M ++ X) H locs → lv_has ls 3 [(0, .ref (a_M 30)), (1, .int w1), (2, .int w2)] → W p l e (rmH 0) s m (List.toArray [.ref (a_M 30), .int x1]) below meth c H locs 0 0 (MQ below (va_Qv (fun (_ : Unit) => True) (fun _ t => POST g A (cl_X12 g a_M zu_M v_M ++ X) t) A) (List.toArray [.ref (a_M 30), .int x1]) s 0 0 A) (F0 m 2 ls []) := by
    intro K2 hK2 u_M w1 w2 H locs ls hf hw hl
    unfold f_X12_copies_oX12r30_J2 at hf
    refine lv_iload_n hx hb dX12_copies_2 rfl (lv_at hl 2 rfl) ?_
    refine lv_iload_n hx hb dX12_copies_3 rfl (lv_at hl 1 rfl) ?_
    refine lv_icmp_ge (tgt := 21) hx hb dX12_copies_4 (by decide) (fun h_1 => ?_) (fun h_1 => ?_)
    · replace hf := tx_pos hf h_1
      obtain e0 := tx_in1 hf
      rw [← e0]
      exact tx_vret S hr hlk hw dX12_copies_21
    · replace hf := tx_neg hf h_1
      refine lv_aload_n hx hb dX12_copies_7 rfl (lv_at hl 0 rfl) ?_
      refine lv_iload_n hx hb dX12_copies_8 rfl (lv_at hl 2 rfl) ?_
      refine lv_aload_n hx hb dX12_copies_9 rfl (lv_at hl 0 rfl) ?_
      refine lv_iload_n hx hb dX12_copies_10 rfl (lv_at hl 1 rfl) ?_
      refine lv_iload_n hx hb dX12_copies_11 rfl (lv_at hl 2 rfl) ?_
      refine lv_iadd hx hb dX12_copies_12 ?_
      obtain ⟨h_2, hf⟩ := tx_ck_e hf
      refine tx_iald S hE hw 12 rfl h_2 dX12_copies_13 ?_
      obtain ⟨h_3, hf⟩ := tx_ck_e hf
      obtain ⟨u_M_4, eu_M_4⟩ : ∃ z : S32, z = up2 u_M 30 w2.toNatClampNeg (u_M 30 (w1 + w2).toNatClampNeg) := ⟨_, rfl⟩
      replace hf := tx_let_e hf eu_M_4
      refine tx_iast (ws' := cl_X12 g a_M u_M_4 v_M ++ X) S hE hw 12 rfl h_3 (by rw [eu_M_4]; rfl) dX12_copies_14 (fun H locs hw => ?_)
      obtain ⟨y_5, ey_5⟩ : ∃ y : Int32, y = w2 + (1 : Int32) := ⟨_, rfl⟩
      replace hf := tx_let_e hf ey_5
      refine lv_iinc (v := y_5) (lv' := [(2, .int y_5), (0, .ref (a_M 30)), (1, .int w1)]) hx hb dX12_copies_15 hl (k := 2) rfl (by rw [ey_5]; rfl) (by decide) rfl (fun ls hl => ?_)
      refine lv_goto (tgt := 2) hx hb dX12_copies_18 (by decide) ?_
      exact hK2 hf hw (lv_sub hl [1, 2, 0] rfl)
  have L2 : ∀ (n : Nat), ∀ {u_M : S32} {w1 : Int32} {w2 : Int32} {H : Heap} {locs : List Loc} {ls : Array Slot}, f_X12_copies_oX12r30_L2 fu v_M n u_M w1 w2 = some zu_M → WD g A s.heap (cl_X12 g a_M u_M v_M ++ X) H locs → lv_has ls 3 [(0, .ref (a_M 30)), (1, .int w1), (2, .int w2)] → W p l e (rmH 0) s m (List.toArray [.ref (a_M 30), .int x1]) below meth c H locs 0 0 (MQ below (va_Qv (fun (_ : Unit) => True) (fun _ t => POST g A (cl_X12 g a_M zu_M v_M ++ X) t) A) (List.toArray [.ref (a_M 30), .int x1]) s 0 0 A) (F0 m 2 ls []) := by
    intro  n
    induction n with
    | zero => intro u_M w1 w2 H locs ls hf; exact absurd hf (by intro q; cases q)
    | succ n ih => exact fun hf hw hl => J2 ih hf hw hl
  unfold f_X12_copies_oX12r30 at hf
  refine lv_iconst (v := 0) hx hb dX12_copies_0 (by decide) ?_
  refine lv_istore_n (lv' := [(2, .int (0 : Int32)), (0, .ref (a_M 30)), (1, .int x1)]) hx hb dX12_copies_1 rfl hl (by decide) rfl (fun ls hl => ?_)
  exact L2 fu hf hw (lv_sub hl [1, 2, 0] rfl)
def f_X12_copies_oX12r31_J2 (fu : Nat) (v_M : S64) (K2 : S32 → Int32 → Int32 → Option (S32)) (u_M : S32) (w1 : Int32) (w2 : Int32) : Option (S32) := if w1 ≤ w2 then (some u_M) else (tx_ck (w1 + w2) 8 <| tx_ck w2 8 <| tx_let (up2 u_M 31 w2.toNatClampNeg (u_M 31 (w1 + w2).toNatClampNeg)) fun (u_M_4 : S32) => tx_let (w2 + (1 : Int32)) fun (y_5 : Int32) => K2 u_M_4 w1 y_5)
def f_X12_copies_oX12r31_L2 (fu : Nat) (v_M : S64) : Nat → S32 → Int32 → Int32 → Option (S32)
  | 0 => fun _ _ _ => none
  | n + 1 => f_X12_copies_oX12r31_J2 fu v_M (f_X12_copies_oX12r31_L2 fu v_M n)
def f_X12_copies_oX12r31 (fu : Nat) (v_M : S64) (u_M : S32) (x1 : Int32) : Option (S32) := f_X12_copies_oX12r31_L2 fu v_M fu u_M x1 (0 : Int32)
set_option maxHeartbeats 4000000 in
set_option maxRecDepth 100000 in
theorem c_X12_copies_oX12r31 {l : Launch} {g : GG} {A : Nat → Prop} {X : va_W} {fu : Nat} {a_M : Nat → Nat} {u_M : S32} {v_M : S64} {x1 : Int32} {zu_M : S32} (hf : f_X12_copies_oX12r31 fu v_M u_M x1 = some zu_M) : MV l yX12_copies cX12_copies 3 none 0 g A (cl_X12 g a_M u_M v_M ++ X) [.ref (a_M 31), .int x1] (cl_X12 g a_M zu_M v_M ++ X) := by
  refine tx_start (av := [.ref (a_M 31), .int x1]) (by decide) (Nat.le_of_ble_eq_true rfl) ?_
  intro p e s m below meth c ls S hr hlk hE hw hl
  have S : CallFix p m c cX12_copies 3 s (List.toArray [.ref (a_M 31), .int x1]) (Cond.code yX12_copies cX12_copies 3 none :: allW) RX12 := S
  have hx := S.1
  have hb := S.2.1
  have hown := S.2.2.2.1
  have hts : ∀ w ∈ allW, w.before (List.toArray [.ref (a_M 31), .int x1]) s = true := fun w h => S.2.2.2.2 w (List.mem_cons_of_mem _ h)
  have hl : lv_has ls 3 [(0, .ref (a_M 31)), (1, .int x1)] := hl
  have J2 : ∀ {K2 : S32 → Int32 → Int32 → Option (S32)} (hK2 : ∀ {u_M : S32} {w1 : Int32} {w2 : Int32} {H : Heap} {locs : List Loc} {ls : Array Slot}, K2 u_M w1 w2 = some zu_M → WD g A s.heap (cl_X12 g a_M u_M v_M ++ X) H locs → lv_has ls 3 [(0, .ref (a_M 31)), (1, .int w1), (2, .int w2)] → W p l e (rmH 0) s m (List.toArray [.ref (a_M 31), .int x1]) below meth c H locs 0 0 (MQ below (va_Qv (fun (_ : Unit) => True) (fun _ t => POST g A (cl_X12 g a_M zu_M v_M ++ X) t) A) (List.toArray [.ref (a_M 31), .int x1]) s 0 0 A) (F0 m 2 ls [])), ∀ {u_M : S32} {w1 : Int32} {w2 : Int32} {H : Heap} {locs : List Loc} {ls : Array Slot}, f_X12_copies_oX12r31_J2 fu v_M K2 u_M w1 w2 = some zu_M → WD g A s.heap (cl_X12 g a_M u_M v_M ++ X) H locs → lv_has ls 3 [(0, .ref (a_M 31)), (1, .int w1), (2, .int w2)] → W p l e (rmH 0) s m (List.toArray [.ref (a_M 31), .int x1]) below meth c H locs 0 0 (MQ below (va_Qv (fun (_ : Unit) => True) (fun _ t => POST g A (cl_X12 g a_M zu_M v_M ++ X) t) A) (List.toArray [.ref (a_M 31), .int x1]) s 0 0 A) (F0 m 2 ls []) := by
    intro K2 hK2 u_M w1 w2 H locs ls hf hw hl
    unfold f_X12_copies_oX12r31_J2 at hf
    refine lv_iload_n hx hb dX12_copies_2 rfl (lv_at hl 2 rfl) ?_
    refine lv_iload_n hx hb dX12_copies_3 rfl (lv_at hl 1 rfl) ?_
    refine lv_icmp_ge (tgt := 21) hx hb dX12_copies_4 (by decide) (fun h_1 => ?_) (fun h_1 => ?_)
    · replace hf := tx_pos hf h_1
      obtain e0 := tx_in1 hf
      rw [← e0]
      exact tx_vret S hr hlk hw dX12_copies_21
    · replace hf := tx_neg hf h_1
      refine lv_aload_n hx hb dX12_copies_7 rfl (lv_at hl 0 rfl) ?_
      refine lv_iload_n hx hb dX12_copies_8 rfl (lv_at hl 2 rfl) ?_
      refine lv_aload_n hx hb dX12_copies_9 rfl (lv_at hl 0 rfl) ?_
      refine lv_iload_n hx hb dX12_copies_10 rfl (lv_at hl 1 rfl) ?_
      refine lv_iload_n hx hb dX12_copies_11 rfl (lv_at hl 2 rfl) ?_
      refine lv_iadd hx hb dX12_copies_12 ?_
      obtain ⟨h_2, hf⟩ := tx_ck_e hf
      refine tx_iald S hE hw 13 rfl h_2 dX12_copies_13 ?_
      obtain ⟨h_3, hf⟩ := tx_ck_e hf
      obtain ⟨u_M_4, eu_M_4⟩ : ∃ z : S32, z = up2 u_M 31 w2.toNatClampNeg (u_M 31 (w1 + w2).toNatClampNeg) := ⟨_, rfl⟩
      replace hf := tx_let_e hf eu_M_4
      refine tx_iast (ws' := cl_X12 g a_M u_M_4 v_M ++ X) S hE hw 13 rfl h_3 (by rw [eu_M_4]; rfl) dX12_copies_14 (fun H locs hw => ?_)
      obtain ⟨y_5, ey_5⟩ : ∃ y : Int32, y = w2 + (1 : Int32) := ⟨_, rfl⟩
      replace hf := tx_let_e hf ey_5
      refine lv_iinc (v := y_5) (lv' := [(2, .int y_5), (0, .ref (a_M 31)), (1, .int w1)]) hx hb dX12_copies_15 hl (k := 2) rfl (by rw [ey_5]; rfl) (by decide) rfl (fun ls hl => ?_)
      refine lv_goto (tgt := 2) hx hb dX12_copies_18 (by decide) ?_
      exact hK2 hf hw (lv_sub hl [1, 2, 0] rfl)
  have L2 : ∀ (n : Nat), ∀ {u_M : S32} {w1 : Int32} {w2 : Int32} {H : Heap} {locs : List Loc} {ls : Array Slot}, f_X12_copies_oX12r31_L2 fu v_M n u_M w1 w2 = some zu_M → WD g A s.heap (cl_X12 g a_M u_M v_M ++ X) H locs → lv_has ls 3 [(0, .ref (a_M 31)), (1, .int w1), (2, .int w2)] → W p l e (rmH 0) s m (List.toArray [.ref (a_M 31), .int x1]) below meth c H locs 0 0 (MQ below (va_Qv (fun (_ : Unit) => True) (fun _ t => POST g A (cl_X12 g a_M zu_M v_M ++ X) t) A) (List.toArray [.ref (a_M 31), .int x1]) s 0 0 A) (F0 m 2 ls []) := by
    intro  n
    induction n with
    | zero => intro u_M w1 w2 H locs ls hf; exact absurd hf (by intro q; cases q)
    | succ n ih => exact fun hf hw hl => J2 ih hf hw hl
  unfold f_X12_copies_oX12r31 at hf
  refine lv_iconst (v := 0) hx hb dX12_copies_0 (by decide) ?_
  refine lv_istore_n (lv' := [(2, .int (0 : Int32)), (0, .ref (a_M 31)), (1, .int x1)]) hx hb dX12_copies_1 rfl hl (by decide) rfl (fun ls hl => ?_)
  exact L2 fu hf hw (lv_sub hl [1, 2, 0] rfl)
def f_X12_copies_oX12r32_J2 (fu : Nat) (v_M : S64) (K2 : S32 → Int32 → Int32 → Option (S32)) (u_M : S32) (w1 : Int32) (w2 : Int32) : Option (S32) := if w1 ≤ w2 then (some u_M) else (tx_ck (w1 + w2) 8 <| tx_ck w2 8 <| tx_let (up2 u_M 32 w2.toNatClampNeg (u_M 32 (w1 + w2).toNatClampNeg)) fun (u_M_4 : S32) => tx_let (w2 + (1 : Int32)) fun (y_5 : Int32) => K2 u_M_4 w1 y_5)
def f_X12_copies_oX12r32_L2 (fu : Nat) (v_M : S64) : Nat → S32 → Int32 → Int32 → Option (S32)
  | 0 => fun _ _ _ => none
  | n + 1 => f_X12_copies_oX12r32_J2 fu v_M (f_X12_copies_oX12r32_L2 fu v_M n)
def f_X12_copies_oX12r32 (fu : Nat) (v_M : S64) (u_M : S32) (x1 : Int32) : Option (S32) := f_X12_copies_oX12r32_L2 fu v_M fu u_M x1 (0 : Int32)
set_option maxHeartbeats 4000000 in
set_option maxRecDepth 100000 in
theorem c_X12_copies_oX12r32 {l : Launch} {g : GG} {A : Nat → Prop} {X : va_W} {fu : Nat} {a_M : Nat → Nat} {u_M : S32} {v_M : S64} {x1 : Int32} {zu_M : S32} (hf : f_X12_copies_oX12r32 fu v_M u_M x1 = some zu_M) : MV l yX12_copies cX12_copies 3 none 0 g A (cl_X12 g a_M u_M v_M ++ X) [.ref (a_M 32), .int x1] (cl_X12 g a_M zu_M v_M ++ X) := by
  refine tx_start (av := [.ref (a_M 32), .int x1]) (by decide) (Nat.le_of_ble_eq_true rfl) ?_
  intro p e s m below meth c ls S hr hlk hE hw hl
  have S : CallFix p m c cX12_copies 3 s (List.toArray [.ref (a_M 32), .int x1]) (Cond.code yX12_copies cX12_copies 3 none :: allW) RX12 := S
  have hx := S.1
  have hb := S.2.1
  have hown := S.2.2.2.1
  have hts : ∀ w ∈ allW, w.before (List.toArray [.ref (a_M 32), .int x1]) s = true := fun w h => S.2.2.2.2 w (List.mem_cons_of_mem _ h)
  have hl : lv_has ls 3 [(0, .ref (a_M 32)), (1, .int x1)] := hl
  have J2 : ∀ {K2 : S32 → Int32 → Int32 → Option (S32)} (hK2 : ∀ {u_M : S32} {w1 : Int32} {w2 : Int32} {H : Heap} {locs : List Loc} {ls : Array Slot}, K2 u_M w1 w2 = some zu_M → WD g A s.heap (cl_X12 g a_M u_M v_M ++ X) H locs → lv_has ls 3 [(0, .ref (a_M 32)), (1, .int w1), (2, .int w2)] → W p l e (rmH 0) s m (List.toArray [.ref (a_M 32), .int x1]) below meth c H locs 0 0 (MQ below (va_Qv (fun (_ : Unit) => True) (fun _ t => POST g A (cl_X12 g a_M zu_M v_M ++ X) t) A) (List.toArray [.ref (a_M 32), .int x1]) s 0 0 A) (F0 m 2 ls [])), ∀ {u_M : S32} {w1 : Int32} {w2 : Int32} {H : Heap} {locs : List Loc} {ls : Array Slot}, f_X12_copies_oX12r32_J2 fu v_M K2 u_M w1 w2 = some zu_M → WD g A s.heap (cl_X12 g a_M u_M v_M ++ X) H locs → lv_has ls 3 [(0, .ref (a_M 32)), (1, .int w1), (2, .int w2)] → W p l e (rmH 0) s m (List.toArray [.ref (a_M 32), .int x1]) below meth c H locs 0 0 (MQ below (va_Qv (fun (_ : Unit) => True) (fun _ t => POST g A (cl_X12 g a_M zu_M v_M ++ X) t) A) (List.toArray [.ref (a_M 32), .int x1]) s 0 0 A) (F0 m 2 ls []) := by
    intro K2 hK2 u_M w1 w2 H locs ls hf hw hl
    unfold f_X12_copies_oX12r32_J2 at hf
    refine lv_iload_n hx hb dX12_copies_2 rfl (lv_at hl 2 rfl) ?_
    refine lv_iload_n hx hb dX12_copies_3 rfl (lv_at hl 1 rfl) ?_
    refine lv_icmp_ge (tgt := 21) hx hb dX12_copies_4 (by decide) (fun h_1 => ?_) (fun h_1 => ?_)
    · replace hf := tx_pos hf h_1
      obtain e0 := tx_in1 hf
      rw [← e0]
      exact tx_vret S hr hlk hw dX12_copies_21
    · replace hf := tx_neg hf h_1
      refine lv_aload_n hx hb dX12_copies_7 rfl (lv_at hl 0 rfl) ?_
      refine lv_iload_n hx hb dX12_copies_8 rfl (lv_at hl 2 rfl) ?_
      refine lv_aload_n hx hb dX12_copies_9 rfl (lv_at hl 0 rfl) ?_
      refine lv_iload_n hx hb dX12_copies_10 rfl (lv_at hl 1 rfl) ?_
      refine lv_iload_n hx hb dX12_copies_11 rfl (lv_at hl 2 rfl) ?_
      refine lv_iadd hx hb dX12_copies_12 ?_
      obtain ⟨h_2, hf⟩ := tx_ck_e hf
      refine tx_iald S hE hw 14 rfl h_2 dX12_copies_13 ?_
      obtain ⟨h_3, hf⟩ := tx_ck_e hf
      obtain ⟨u_M_4, eu_M_4⟩ : ∃ z : S32, z = up2 u_M 32 w2.toNatClampNeg (u_M 32 (w1 + w2).toNatClampNeg) := ⟨_, rfl⟩
      replace hf := tx_let_e hf eu_M_4
      refine tx_iast (ws' := cl_X12 g a_M u_M_4 v_M ++ X) S hE hw 14 rfl h_3 (by rw [eu_M_4]; rfl) dX12_copies_14 (fun H locs hw => ?_)
      obtain ⟨y_5, ey_5⟩ : ∃ y : Int32, y = w2 + (1 : Int32) := ⟨_, rfl⟩
      replace hf := tx_let_e hf ey_5
      refine lv_iinc (v := y_5) (lv' := [(2, .int y_5), (0, .ref (a_M 32)), (1, .int w1)]) hx hb dX12_copies_15 hl (k := 2) rfl (by rw [ey_5]; rfl) (by decide) rfl (fun ls hl => ?_)
      refine lv_goto (tgt := 2) hx hb dX12_copies_18 (by decide) ?_
      exact hK2 hf hw (lv_sub hl [1, 2, 0] rfl)
  have L2 : ∀ (n : Nat), ∀ {u_M : S32} {w1 : Int32} {w2 : Int32} {H : Heap} {locs : List Loc} {ls : Array Slot}, f_X12_copies_oX12r32_L2 fu v_M n u_M w1 w2 = some zu_M → WD g A s.heap (cl_X12 g a_M u_M v_M ++ X) H locs → lv_has ls 3 [(0, .ref (a_M 32)), (1, .int w1), (2, .int w2)] → W p l e (rmH 0) s m (List.toArray [.ref (a_M 32), .int x1]) below meth c H locs 0 0 (MQ below (va_Qv (fun (_ : Unit) => True) (fun _ t => POST g A (cl_X12 g a_M zu_M v_M ++ X) t) A) (List.toArray [.ref (a_M 32), .int x1]) s 0 0 A) (F0 m 2 ls []) := by
    intro  n
    induction n with
    | zero => intro u_M w1 w2 H locs ls hf; exact absurd hf (by intro q; cases q)
    | succ n ih => exact fun hf hw hl => J2 ih hf hw hl
  unfold f_X12_copies_oX12r32 at hf
  refine lv_iconst (v := 0) hx hb dX12_copies_0 (by decide) ?_
  refine lv_istore_n (lv' := [(2, .int (0 : Int32)), (0, .ref (a_M 32)), (1, .int x1)]) hx hb dX12_copies_1 rfl hl (by decide) rfl (fun ls hl => ?_)
  exact L2 fu hf hw (lv_sub hl [1, 2, 0] rfl)
def f_X12_copies_oX12r34_J2 (fu : Nat) (v_M : S64) (K2 : S32 → Int32 → Int32 → Option (S32)) (u_M : S32) (w1 : Int32) (w2 : Int32) : Option (S32) := if w1 ≤ w2 then (some u_M) else (tx_ck (w1 + w2) 6 <| tx_ck w2 6 <| tx_let (up2 u_M 34 w2.toNatClampNeg (u_M 34 (w1 + w2).toNatClampNeg)) fun (u_M_4 : S32) => tx_let (w2 + (1 : Int32)) fun (y_5 : Int32) => K2 u_M_4 w1 y_5)
def f_X12_copies_oX12r34_L2 (fu : Nat) (v_M : S64) : Nat → S32 → Int32 → Int32 → Option (S32)
  | 0 => fun _ _ _ => none
  | n + 1 => f_X12_copies_oX12r34_J2 fu v_M (f_X12_copies_oX12r34_L2 fu v_M n)
def f_X12_copies_oX12r34 (fu : Nat) (v_M : S64) (u_M : S32) (x1 : Int32) : Option (S32) := f_X12_copies_oX12r34_L2 fu v_M fu u_M x1 (0 : Int32)
set_option maxHeartbeats 4000000 in
set_option maxRecDepth 100000 in
theorem c_X12_copies_oX12r34 {l : Launch} {g : GG} {A : Nat → Prop} {X : va_W} {fu : Nat} {a_M : Nat → Nat} {u_M : S32} {v_M : S64} {x1 : Int32} {zu_M : S32} (hf : f_X12_copies_oX12r34 fu v_M u_M x1 = some zu_M) : MV l yX12_copies cX12_copies 3 none 0 g A (cl_X12 g a_M u_M v_M ++ X) [.ref (a_M 34), .int x1] (cl_X12 g a_M zu_M v_M ++ X) := by
  refine tx_start (av := [.ref (a_M 34), .int x1]) (by decide) (Nat.le_of_ble_eq_true rfl) ?_
  intro p e s m below meth c ls S hr hlk hE hw hl
  have S : CallFix p m c cX12_copies 3 s (List.toArray [.ref (a_M 34), .int x1]) (Cond.code yX12_copies cX12_copies 3 none :: allW) RX12 := S
  have hx := S.1
  have hb := S.2.1
  have hown := S.2.2.2.1
  have hts : ∀ w ∈ allW, w.before (List.toArray [.ref (a_M 34), .int x1]) s = true := fun w h => S.2.2.2.2 w (List.mem_cons_of_mem _ h)
  have hl : lv_has ls 3 [(0, .ref (a_M 34)), (1, .int x1)] := hl
  have J2 : ∀ {K2 : S32 → Int32 → Int32 → Option (S32)} (hK2 : ∀ {u_M : S32} {w1 : Int32} {w2 : Int32} {H : Heap} {locs : List Loc} {ls : Array Slot}, K2 u_M w1 w2 = some zu_M → WD g A s.heap (cl_X12 g a_M u_M v_M ++ X) H locs → lv_has ls 3 [(0, .ref (a_M 34)), (1, .int w1), (2, .int w2)] → W p l e (rmH 0) s m (List.toArray [.ref (a_M 34), .int x1]) below meth c H locs 0 0 (MQ below (va_Qv (fun (_ : Unit) => True) (fun _ t => POST g A (cl_X12 g a_M zu_M v_M ++ X) t) A) (List.toArray [.ref (a_M 34), .int x1]) s 0 0 A) (F0 m 2 ls [])), ∀ {u_M : S32} {w1 : Int32} {w2 : Int32} {H : Heap} {locs : List Loc} {ls : Array Slot}, f_X12_copies_oX12r34_J2 fu v_M K2 u_M w1 w2 = some zu_M → WD g A s.heap (cl_X12 g a_M u_M v_M ++ X) H locs → lv_has ls 3 [(0, .ref (a_M 34)), (1, .int w1), (2, .int w2)] → W p l e (rmH 0) s m (List.toArray [.ref (a_M 34), .int x1]) below meth c H locs 0 0 (MQ below (va_Qv (fun (_ : Unit) => True) (fun _ t => POST g A (cl_X12 g a_M zu_M v_M ++ X) t) A) (List.toArray [.ref (a_M 34), .int x1]) s 0 0 A) (F0 m 2 ls []) := by
    intro K2 hK2 u_M w1 w2 H locs ls hf hw hl
    unfold f_X12_copies_oX12r34_J2 at hf
    refine lv_iload_n hx hb dX12_copies_2 rfl (lv_at hl 2 rfl) ?_
    refine lv_iload_n hx hb dX12_copies_3 rfl (lv_at hl 1 rfl) ?_
    refine lv_icmp_ge (tgt := 21) hx hb dX12_copies_4 (by decide) (fun h_1 => ?_) (fun h_1 => ?_)
    · replace hf := tx_pos hf h_1
      obtain e0 := tx_in1 hf
      rw [← e0]
      exact tx_vret S hr hlk hw dX12_copies_21
    · replace hf := tx_neg hf h_1
      refine lv_aload_n hx hb dX12_copies_7 rfl (lv_at hl 0 rfl) ?_
      refine lv_iload_n hx hb dX12_copies_8 rfl (lv_at hl 2 rfl) ?_
      refine lv_aload_n hx hb dX12_copies_9 rfl (lv_at hl 0 rfl) ?_
      refine lv_iload_n hx hb dX12_copies_10 rfl (lv_at hl 1 rfl) ?_
      refine lv_iload_n hx hb dX12_copies_11 rfl (lv_at hl 2 rfl) ?_
      refine lv_iadd hx hb dX12_copies_12 ?_
      obtain ⟨h_2, hf⟩ := tx_ck_e hf
      refine tx_iald S hE hw 16 rfl h_2 dX12_copies_13 ?_
      obtain ⟨h_3, hf⟩ := tx_ck_e hf
      obtain ⟨u_M_4, eu_M_4⟩ : ∃ z : S32, z = up2 u_M 34 w2.toNatClampNeg (u_M 34 (w1 + w2).toNatClampNeg) := ⟨_, rfl⟩
      replace hf := tx_let_e hf eu_M_4
      refine tx_iast (ws' := cl_X12 g a_M u_M_4 v_M ++ X) S hE hw 16 rfl h_3 (by rw [eu_M_4]; rfl) dX12_copies_14 (fun H locs hw => ?_)
      obtain ⟨y_5, ey_5⟩ : ∃ y : Int32, y = w2 + (1 : Int32) := ⟨_, rfl⟩
      replace hf := tx_let_e hf ey_5
      refine lv_iinc (v := y_5) (lv' := [(2, .int y_5), (0, .ref (a_M 34)), (1, .int w1)]) hx hb dX12_copies_15 hl (k := 2) rfl (by rw [ey_5]; rfl) (by decide) rfl (fun ls hl => ?_)
      refine lv_goto (tgt := 2) hx hb dX12_copies_18 (by decide) ?_
      exact hK2 hf hw (lv_sub hl [1, 2, 0] rfl)
  have L2 : ∀ (n : Nat), ∀ {u_M : S32} {w1 : Int32} {w2 : Int32} {H : Heap} {locs : List Loc} {ls : Array Slot}, f_X12_copies_oX12r34_L2 fu v_M n u_M w1 w2 = some zu_M → WD g A s.heap (cl_X12 g a_M u_M v_M ++ X) H locs → lv_has ls 3 [(0, .ref (a_M 34)), (1, .int w1), (2, .int w2)] → W p l e (rmH 0) s m (List.toArray [.ref (a_M 34), .int x1]) below meth c H locs 0 0 (MQ below (va_Qv (fun (_ : Unit) => True) (fun _ t => POST g A (cl_X12 g a_M zu_M v_M ++ X) t) A) (List.toArray [.ref (a_M 34), .int x1]) s 0 0 A) (F0 m 2 ls []) := by
    intro  n
    induction n with
    | zero => intro u_M w1 w2 H locs ls hf; exact absurd hf (by intro q; cases q)
    | succ n ih => exact fun hf hw hl => J2 ih hf hw hl
  unfold f_X12_copies_oX12r34 at hf
  refine lv_iconst (v := 0) hx hb dX12_copies_0 (by decide) ?_
  refine lv_istore_n (lv' := [(2, .int (0 : Int32)), (0, .ref (a_M 34)), (1, .int x1)]) hx hb dX12_copies_1 rfl hl (by decide) rfl (fun ls hl => ?_)
  exact L2 fu hf hw (lv_sub hl [1, 2, 0] rfl)
def f_X12_copies_oX12r35_J2 (fu : Nat) (v_M : S64) (K2 : S32 → Int32 → Int32 → Option (S32)) (u_M : S32) (w1 : Int32) (w2 : Int32) : Option (S32) := if w1 ≤ w2 then (some u_M) else (tx_ck (w1 + w2) 6 <| tx_ck w2 6 <| tx_let (up2 u_M 35 w2.toNatClampNeg (u_M 35 (w1 + w2).toNatClampNeg)) fun (u_M_4 : S32) => tx_let (w2 + (1 : Int32)) fun (y_5 : Int32) => K2 u_M_4 w1 y_5)
def f_X12_copies_oX12r35_L2 (fu : Nat) (v_M : S64) : Nat → S32 → Int32 → Int32 → Option (S32)
  | 0 => fun _ _ _ => none
  | n + 1 => f_X12_copies_oX12r35_J2 fu v_M (f_X12_copies_oX12r35_L2 fu v_M n)
def f_X12_copies_oX12r35 (fu : Nat) (v_M : S64) (u_M : S32) (x1 : Int32) : Option (S32) := f_X12_copies_oX12r35_L2 fu v_M fu u_M x1 (0 : Int32)
set_option maxHeartbeats 4000000 in
set_option maxRecDepth 100000 in
theorem c_X12_copies_oX12r35 {l : Launch} {g : GG} {A : Nat → Prop} {X : va_W} {fu : Nat} {a_M : Nat → Nat} {u_M : S32} {v_M : S64} {x1 : Int32} {zu_M : S32} (hf : f_X12_copies_oX12r35 fu v_M u_M x1 = some zu_M) : MV l yX12_copies cX12_copies 3 none 0 g A (cl_X12 g a_M u_M v_M ++ X) [.ref (a_M 35), .int x1] (cl_X12 g a_M zu_M v_M ++ X) := by
  refine tx_start (av := [.ref (a_M 35), .int x1]) (by decide) (Nat.le_of_ble_eq_true rfl) ?_
  intro p e s m below meth c ls S hr hlk hE hw hl
  have S : CallFix p m c cX12_copies 3 s (List.toArray [.ref (a_M 35), .int x1]) (Cond.code yX12_copies cX12_copies 3 none :: allW) RX12 := S
  have hx := S.1
  have hb := S.2.1
  have hown := S.2.2.2.1
  have hts : ∀ w ∈ allW, w.before (List.toArray [.ref (a_M 35), .int x1]) s = true := fun w h => S.2.2.2.2 w (List.mem_cons_of_mem _ h)
  have hl : lv_has ls 3 [(0, .ref (a_M 35)), (1, .int x1)] := hl
  have J2 : ∀ {K2 : S32 → Int32 → Int32 → Option (S32)} (hK2 : ∀ {u_M : S32} {w1 : Int32} {w2 : Int32} {H : Heap} {locs : List Loc} {ls : Array Slot}, K2 u_M w1 w2 = some zu_M → WD g A s.heap (cl_X12 g a_M u_M v_M ++ X) H locs → lv_has ls 3 [(0, .ref (a_M 35)), (1, .int w1), (2, .int w2)] → W p l e (rmH 0) s m (List.toArray [.ref (a_M 35), .int x1]) below meth c H locs 0 0 (MQ below (va_Qv (fun (_ : Unit) => True) (fun _ t => POST g A (cl_X12 g a_M zu_M v_M ++ X) t) A) (List.toArray [.ref (a_M 35), .int x1]) s 0 0 A) (F0 m 2 ls [])), ∀ {u_M : S32} {w1 : Int32} {w2 : Int32} {H : Heap} {locs : List Loc} {ls : Array Slot}, f_X12_copies_oX12r35_J2 fu v_M K2 u_M w1 w2 = some zu_M → WD g A s.heap (cl_X12 g a_M u_M v_M ++ X) H locs → lv_has ls 3 [(0, .ref (a_M 35)), (1, .int w1), (2, .int w2)] → W p l e (rmH 0) s m (List.toArray [.ref (a_M 35), .int x1]) below meth c H locs 0 0 (MQ below (va_Qv (fun (_ : Unit) => True) (fun _ t => POST g A (cl_X12 g a_M zu_M v_M ++ X) t) A) (List.toArray [.ref (a_M 35), .int x1]) s 0 0 A) (F0 m 2 ls []) := by
    intro K2 hK2 u_M w1 w2 H locs ls hf hw hl
    unfold f_X12_copies_oX12r35_J2 at hf
    refine lv_iload_n hx hb dX12_copies_2 rfl (lv_at hl 2 rfl) ?_
    refine lv_iload_n hx hb dX12_copies_3 rfl (lv_at hl 1 rfl) ?_
    refine lv_icmp_ge (tgt := 21) hx hb dX12_copies_4 (by decide) (fun h_1 => ?_) (fun h_1 => ?_)
    · replace hf := tx_pos hf h_1
      obtain e0 := tx_in1 hf
      rw [← e0]
      exact tx_vret S hr hlk hw dX12_copies_21
    · replace hf := tx_neg hf h_1
      refine lv_aload_n hx hb dX12_copies_7 rfl (lv_at hl 0 rfl) ?_
      refine lv_iload_n hx hb dX12_copies_8 rfl (lv_at hl 2 rfl) ?_
      refine lv_aload_n hx hb dX12_copies_9 rfl (lv_at hl 0 rfl) ?_
      refine lv_iload_n hx hb dX12_copies_10 rfl (lv_at hl 1 rfl) ?_
      refine lv_iload_n hx hb dX12_copies_11 rfl (lv_at hl 2 rfl) ?_
      refine lv_iadd hx hb dX12_copies_12 ?_
      obtain ⟨h_2, hf⟩ := tx_ck_e hf
      refine tx_iald S hE hw 17 rfl h_2 dX12_copies_13 ?_
      obtain ⟨h_3, hf⟩ := tx_ck_e hf
      obtain ⟨u_M_4, eu_M_4⟩ : ∃ z : S32, z = up2 u_M 35 w2.toNatClampNeg (u_M 35 (w1 + w2).toNatClampNeg) := ⟨_, rfl⟩
      replace hf := tx_let_e hf eu_M_4
      refine tx_iast (ws' := cl_X12 g a_M u_M_4 v_M ++ X) S hE hw 17 rfl h_3 (by rw [eu_M_4]; rfl) dX12_copies_14 (fun H locs hw => ?_)
      obtain ⟨y_5, ey_5⟩ : ∃ y : Int32, y = w2 + (1 : Int32) := ⟨_, rfl⟩
      replace hf := tx_let_e hf ey_5
      refine lv_iinc (v := y_5) (lv' := [(2, .int y_5), (0, .ref (a_M 35)), (1, .int w1)]) hx hb dX12_copies_15 hl (k := 2) rfl (by rw [ey_5]; rfl) (by decide) rfl (fun ls hl => ?_)
      refine lv_goto (tgt := 2) hx hb dX12_copies_18 (by decide) ?_
      exact hK2 hf hw (lv_sub hl [1, 2, 0] rfl)
  have L2 : ∀ (n : Nat), ∀ {u_M : S32} {w1 : Int32} {w2 : Int32} {H : Heap} {locs : List Loc} {ls : Array Slot}, f_X12_copies_oX12r35_L2 fu v_M n u_M w1 w2 = some zu_M → WD g A s.heap (cl_X12 g a_M u_M v_M ++ X) H locs → lv_has ls 3 [(0, .ref (a_M 35)), (1, .int w1), (2, .int w2)] → W p l e (rmH 0) s m (List.toArray [.ref (a_M 35), .int x1]) below meth c H locs 0 0 (MQ below (va_Qv (fun (_ : Unit) => True) (fun _ t => POST g A (cl_X12 g a_M zu_M v_M ++ X) t) A) (List.toArray [.ref (a_M 35), .int x1]) s 0 0 A) (F0 m 2 ls []) := by
    intro  n
    induction n with
    | zero => intro u_M w1 w2 H locs ls hf; exact absurd hf (by intro q; cases q)
    | succ n ih => exact fun hf hw hl => J2 ih hf hw hl
  unfold f_X12_copies_oX12r35 at hf
  refine lv_iconst (v := 0) hx hb dX12_copies_0 (by decide) ?_
  refine lv_istore_n (lv' := [(2, .int (0 : Int32)), (0, .ref (a_M 35)), (1, .int x1)]) hx hb dX12_copies_1 rfl hl (by decide) rfl (fun ls hl => ?_)
  exact L2 fu hf hw (lv_sub hl [1, 2, 0] rfl)
def f_X12_copies_oX12r36_J2 (fu : Nat) (v_M : S64) (K2 : S32 → Int32 → Int32 → Option (S32)) (u_M : S32) (w1 : Int32) (w2 : Int32) : Option (S32) := if w1 ≤ w2 then (some u_M) else (tx_ck (w1 + w2) 128 <| tx_ck w2 128 <| tx_let (up2 u_M 36 w2.toNatClampNeg (u_M 36 (w1 + w2).toNatClampNeg)) fun (u_M_4 : S32) => tx_let (w2 + (1 : Int32)) fun (y_5 : Int32) => K2 u_M_4 w1 y_5)
def f_X12_copies_oX12r36_L2 (fu : Nat) (v_M : S64) : Nat → S32 → Int32 → Int32 → Option (S32)
  | 0 => fun _ _ _ => none
  | n + 1 => f_X12_copies_oX12r36_J2 fu v_M (f_X12_copies_oX12r36_L2 fu v_M n)
def f_X12_copies_oX12r36 (fu : Nat) (v_M : S64) (u_M : S32) (x1 : Int32) : Option (S32) := f_X12_copies_oX12r36_L2 fu v_M fu u_M x1 (0 : Int32)
set_option maxHeartbeats 4000000 in
set_option maxRecDepth 100000 in
theorem c_X12_copies_oX12r36 {l : Launch} {g : GG} {A : Nat → Prop} {X : va_W} {fu : Nat} {a_M : Nat → Nat} {u_M : S32} {v_M : S64} {x1 : Int32} {zu_M : S32} (hf : f_X12_copies_oX12r36 fu v_M u_M x1 = some zu_M) : MV l yX12_copies cX12_copies 3 none 0 g A (cl_X12 g a_M u_M v_M ++ X) [.ref (a_M 36), .int x1] (cl_X12 g a_M zu_M v_M ++ X) := by
  refine tx_start (av := [.ref (a_M 36), .int x1]) (by decide) (Nat.le_of_ble_eq_true rfl) ?_
  intro p e s m below meth c ls S hr hlk hE hw hl
  have S : CallFix p m c cX12_copies 3 s (List.toArray [.ref (a_M 36), .int x1]) (Cond.code yX12_copies cX12_copies 3 none :: allW) RX12 := S
  have hx := S.1
  have hb := S.2.1
  have hown := S.2.2.2.1
  have hts : ∀ w ∈ allW, w.before (List.toArray [.ref (a_M 36), .int x1]) s = true := fun w h => S.2.2.2.2 w (List.mem_cons_of_mem _ h)
  have hl : lv_has ls 3 [(0, .ref (a_M 36)), (1, .int x1)] := hl
  have J2 : ∀ {K2 : S32 → Int32 → Int32 → Option (S32)} (hK2 : ∀ {u_M : S32} {w1 : Int32} {w2 : Int32} {H : Heap} {locs : List Loc} {ls : Array Slot}, K2 u_M w1 w2 = some zu_M → WD g A s.heap (cl_X12 g a_M u_M v_M ++ X) H locs → lv_has ls 3 [(0, .ref (a_M 36)), (1, .int w1), (2, .int w2)] → W p l e (rmH 0) s m (List.toArray [.ref (a_M 36), .int x1]) below meth c H locs 0 0 (MQ below (va_Qv (fun (_ : Unit) => True) (fun _ t => POST g A (cl_X12 g a_M zu_M v_M ++ X) t) A) (List.toArray [.ref (a_M 36), .int x1]) s 0 0 A) (F0 m 2 ls [])), ∀ {u_M : S32} {w1 : Int32} {w2 : Int32} {H : Heap} {locs : List Loc} {ls : Array Slot}, f_X12_copies_oX12r36_J2 fu v_M K2 u_M w1 w2 = some zu_M → WD g A s.heap (cl_X12 g a_M u_M v_M ++ X) H locs → lv_has ls 3 [(0, .ref (a_M 36)), (1, .int w1), (2, .int w2)] → W p l e (rmH 0) s m (List.toArray [.ref (a_M 36), .int x1]) below meth c H locs 0 0 (MQ below (va_Qv (fun (_ : Unit) => True) (fun _ t => POST g A (cl_X12 g a_M zu_M v_M ++ X) t) A) (List.toArray [.ref (a_M 36), .int x1]) s 0 0 A) (F0 m 2 ls []) := by
    intro K2 hK2 u_M w1 w2 H locs ls hf hw hl
    unfold f_X12_copies_oX12r36_J2 at hf
    refine lv_iload_n hx hb dX12_copies_2 rfl (lv_at hl 2 rfl) ?_
    refine lv_iload_n hx hb dX12_copies_3 rfl (lv_at hl 1 rfl) ?_
    refine lv_icmp_ge (tgt := 21) hx hb dX12_copies_4 (by decide) (fun h_1 => ?_) (fun h_1 => ?_)
    · replace hf := tx_pos hf h_1
      obtain e0 := tx_in1 hf
      rw [← e0]
      exact tx_vret S hr hlk hw dX12_copies_21
    · replace hf := tx_neg hf h_1
      refine lv_aload_n hx hb dX12_copies_7 rfl (lv_at hl 0 rfl) ?_
      refine lv_iload_n hx hb dX12_copies_8 rfl (lv_at hl 2 rfl) ?_
      refine lv_aload_n hx hb dX12_copies_9 rfl (lv_at hl 0 rfl) ?_
      refine lv_iload_n hx hb dX12_copies_10 rfl (lv_at hl 1 rfl) ?_
      refine lv_iload_n hx hb dX12_copies_11 rfl (lv_at hl 2 rfl) ?_
      refine lv_iadd hx hb dX12_copies_12 ?_
      obtain ⟨h_2, hf⟩ := tx_ck_e hf
      refine tx_iald S hE hw 18 rfl h_2 dX12_copies_13 ?_
      obtain ⟨h_3, hf⟩ := tx_ck_e hf
      obtain ⟨u_M_4, eu_M_4⟩ : ∃ z : S32, z = up2 u_M 36 w2.toNatClampNeg (u_M 36 (w1 + w2).toNatClampNeg) := ⟨_, rfl⟩
      replace hf := tx_let_e hf eu_M_4
      refine tx_iast (ws' := cl_X12 g a_M u_M_4 v_M ++ X) S hE hw 18 rfl h_3 (by rw [eu_M_4]; rfl) dX12_copies_14 (fun H locs hw => ?_)
      obtain ⟨y_5, ey_5⟩ : ∃ y : Int32, y = w2 + (1 : Int32) := ⟨_, rfl⟩
      replace hf := tx_let_e hf ey_5
      refine lv_iinc (v := y_5) (lv' := [(2, .int y_5), (0, .ref (a_M 36)), (1, .int w1)]) hx hb dX12_copies_15 hl (k := 2) rfl (by rw [ey_5]; rfl) (by decide) rfl (fun ls hl => ?_)
      refine lv_goto (tgt := 2) hx hb dX12_copies_18 (by decide) ?_
      exact hK2 hf hw (lv_sub hl [1, 2, 0] rfl)
  have L2 : ∀ (n : Nat), ∀ {u_M : S32} {w1 : Int32} {w2 : Int32} {H : Heap} {locs : List Loc} {ls : Array Slot}, f_X12_copies_oX12r36_L2 fu v_M n u_M w1 w2 = some zu_M → WD g A s.heap (cl_X12 g a_M u_M v_M ++ X) H locs → lv_has ls 3 [(0, .ref (a_M 36)), (1, .int w1), (2, .int w2)] → W p l e (rmH 0) s m (List.toArray [.ref (a_M 36), .int x1]) below meth c H locs 0 0 (MQ below (va_Qv (fun (_ : Unit) => True) (fun _ t => POST g A (cl_X12 g a_M zu_M v_M ++ X) t) A) (List.toArray [.ref (a_M 36), .int x1]) s 0 0 A) (F0 m 2 ls []) := by
    intro  n
    induction n with
    | zero => intro u_M w1 w2 H locs ls hf; exact absurd hf (by intro q; cases q)
    | succ n ih => exact fun hf hw hl => J2 ih hf hw hl
  unfold f_X12_copies_oX12r36 at hf
  refine lv_iconst (v := 0) hx hb dX12_copies_0 (by decide) ?_
  refine lv_istore_n (lv' := [(2, .int (0 : Int32)), (0, .ref (a_M 36)), (1, .int x1)]) hx hb dX12_copies_1 rfl hl (by decide) rfl (fun ls hl => ?_)
  exact L2 fu hf hw (lv_sub hl [1, 2, 0] rfl)
def f_X12_copies_oX12r37_J2 (fu : Nat) (v_M : S64) (K2 : S32 → Int32 → Int32 → Option (S32)) (u_M : S32) (w1 : Int32) (w2 : Int32) : Option (S32) := if w1 ≤ w2 then (some u_M) else (tx_ck (w1 + w2) 128 <| tx_ck w2 128 <| tx_let (up2 u_M 37 w2.toNatClampNeg (u_M 37 (w1 + w2).toNatClampNeg)) fun (u_M_4 : S32) => tx_let (w2 + (1 : Int32)) fun (y_5 : Int32) => K2 u_M_4 w1 y_5)
def f_X12_copies_oX12r37_L2 (fu : Nat) (v_M : S64) : Nat → S32 → Int32 → Int32 → Option (S32)
  | 0 => fun _ _ _ => none
  | n + 1 => f_X12_copies_oX12r37_J2 fu v_M (f_X12_copies_oX12r37_L2 fu v_M n)
def f_X12_copies_oX12r37 (fu : Nat) (v_M : S64) (u_M : S32) (x1 : Int32) : Option (S32) := f_X12_copies_oX12r37_L2 fu v_M fu u_M x1 (0 : Int32)
set_option maxHeartbeats 4000000 in
set_option maxRecDepth 100000 in
theorem c_X12_copies_oX12r37 {l : Launch} {g : GG} {A : Nat → Prop} {X : va_W} {fu : Nat} {a_M : Nat → Nat} {u_M : S32} {v_M : S64} {x1 : Int32} {zu_M : S32} (hf : f_X12_copies_oX12r37 fu v_M u_M x1 = some zu_M) : MV l yX12_copies cX12_copies 3 none 0 g A (cl_X12 g a_M u_M v_M ++ X) [.ref (a_M 37), .int x1] (cl_X12 g a_M zu_M v_M ++ X) := by
  refine tx_start (av := [.ref (a_M 37), .int x1]) (by decide) (Nat.le_of_ble_eq_true rfl) ?_
  intro p e s m below meth c ls S hr hlk hE hw hl
  have S : CallFix p m c cX12_copies 3 s (List.toArray [.ref (a_M 37), .int x1]) (Cond.code yX12_copies cX12_copies 3 none :: allW) RX12 := S
  have hx := S.1
  have hb := S.2.1
  have hown := S.2.2.2.1
  have hts : ∀ w ∈ allW, w.before (List.toArray [.ref (a_M 37), .int x1]) s = true := fun w h => S.2.2.2.2 w (List.mem_cons_of_mem _ h)
  have hl : lv_has ls 3 [(0, .ref (a_M 37)), (1, .int x1)] := hl
  have J2 : ∀ {K2 : S32 → Int32 → Int32 → Option (S32)} (hK2 : ∀ {u_M : S32} {w1 : Int32} {w2 : Int32} {H : Heap} {locs : List Loc} {ls : Array Slot}, K2 u_M w1 w2 = some zu_M → WD g A s.heap (cl_X12 g a_M u_M v_M ++ X) H locs → lv_has ls 3 [(0, .ref (a_M 37)), (1, .int w1), (2, .int w2)] → W p l e (rmH 0) s m (List.toArray [.ref (a_M 37), .int x1]) below meth c H locs 0 0 (MQ below (va_Qv (fun (_ : Unit) => True) (fun _ t => POST g A (cl_X12 g a_M zu_M v_M ++ X) t) A) (List.toArray [.ref (a_M 37), .int x1]) s 0 0 A) (F0 m 2 ls [])), ∀ {u_M : S32} {w1 : Int32} {w2 : Int32} {H : Heap} {locs : List Loc} {ls : Array Slot}, f_X12_copies_oX12r37_J2 fu v_M K2 u_M w1 w2 = some zu_M → WD g A s.heap (cl_X12 g a_M u_M v_M ++ X) H locs → lv_has ls 3 [(0, .ref (a_M 37)), (1, .int w1), (2, .int w2)] → W p l e (rmH 0) s m (List.toArray [.ref (a_M 37), .int x1]) below meth c H locs 0 0 (MQ below (va_Qv (fun (_ : Unit) => True) (fun _ t => POST g A (cl_X12 g a_M zu_M v_M ++ X) t) A) (List.toArray [.ref (a_M 37), .int x1]) s 0 0 A) (F0 m 2 ls []) := by
    intro K2 hK2 u_M w1 w2 H locs ls hf hw hl
    unfold f_X12_copies_oX12r37_J2 at hf
    refine lv_iload_n hx hb dX12_copies_2 rfl (lv_at hl 2 rfl) ?_
    refine lv_iload_n hx hb dX12_copies_3 rfl (lv_at hl 1 rfl) ?_
    refine lv_icmp_ge (tgt := 21) hx hb dX12_copies_4 (by decide) (fun h_1 => ?_) (fun h_1 => ?_)
    · replace hf := tx_pos hf h_1
      obtain e0 := tx_in1 hf
      rw [← e0]
      exact tx_vret S hr hlk hw dX12_copies_21
    · replace hf := tx_neg hf h_1
      refine lv_aload_n hx hb dX12_copies_7 rfl (lv_at hl 0 rfl) ?_
      refine lv_iload_n hx hb dX12_copies_8 rfl (lv_at hl 2 rfl) ?_
      refine lv_aload_n hx hb dX12_copies_9 rfl (lv_at hl 0 rfl) ?_
      refine lv_iload_n hx hb dX12_copies_10 rfl (lv_at hl 1 rfl) ?_
      refine lv_iload_n hx hb dX12_copies_11 rfl (lv_at hl 2 rfl) ?_
      refine lv_iadd hx hb dX12_copies_12 ?_
      obtain ⟨h_2, hf⟩ := tx_ck_e hf
      refine tx_iald S hE hw 19 rfl h_2 dX12_copies_13 ?_
      obtain ⟨h_3, hf⟩ := tx_ck_e hf
      obtain ⟨u_M_4, eu_M_4⟩ : ∃ z : S32, z = up2 u_M 37 w2.toNatClampNeg (u_M 37 (w1 + w2).toNatClampNeg) := ⟨_, rfl⟩
      replace hf := tx_let_e hf eu_M_4
      refine tx_iast (ws' := cl_X12 g a_M u_M_4 v_M ++ X) S hE hw 19 rfl h_3 (by rw [eu_M_4]; rfl) dX12_copies_14 (fun H locs hw => ?_)
      obtain ⟨y_5, ey_5⟩ : ∃ y : Int32, y = w2 + (1 : Int32) := ⟨_, rfl⟩
      replace hf := tx_let_e hf ey_5
      refine lv_iinc (v := y_5) (lv' := [(2, .int y_5), (0, .ref (a_M 37)), (1, .int w1)]) hx hb dX12_copies_15 hl (k := 2) rfl (by rw [ey_5]; rfl) (by decide) rfl (fun ls hl => ?_)
      refine lv_goto (tgt := 2) hx hb dX12_copies_18 (by decide) ?_
      exact hK2 hf hw (lv_sub hl [1, 2, 0] rfl)
  have L2 : ∀ (n : Nat), ∀ {u_M : S32} {w1 : Int32} {w2 : Int32} {H : Heap} {locs : List Loc} {ls : Array Slot}, f_X12_copies_oX12r37_L2 fu v_M n u_M w1 w2 = some zu_M → WD g A s.heap (cl_X12 g a_M u_M v_M ++ X) H locs → lv_has ls 3 [(0, .ref (a_M 37)), (1, .int w1), (2, .int w2)] → W p l e (rmH 0) s m (List.toArray [.ref (a_M 37), .int x1]) below meth c H locs 0 0 (MQ below (va_Qv (fun (_ : Unit) => True) (fun _ t => POST g A (cl_X12 g a_M zu_M v_M ++ X) t) A) (List.toArray [.ref (a_M 37), .int x1]) s 0 0 A) (F0 m 2 ls []) := by
    intro  n
    induction n with
    | zero => intro u_M w1 w2 H locs ls hf; exact absurd hf (by intro q; cases q)
    | succ n ih => exact fun hf hw hl => J2 ih hf hw hl
  unfold f_X12_copies_oX12r37 at hf
  refine lv_iconst (v := 0) hx hb dX12_copies_0 (by decide) ?_
  refine lv_istore_n (lv' := [(2, .int (0 : Int32)), (0, .ref (a_M 37)), (1, .int x1)]) hx hb dX12_copies_1 rfl hl (by decide) rfl (fun ls hl => ?_)
  exact L2 fu hf hw (lv_sub hl [1, 2, 0] rfl)
def f_X12_copies_oX12r38_J2 (fu : Nat) (v_M : S64) (K2 : S32 → Int32 → Int32 → Option (S32)) (u_M : S32) (w1 : Int32) (w2 : Int32) : Option (S32) := if w1 ≤ w2 then (some u_M) else (tx_ck (w1 + w2) 128 <| tx_ck w2 128 <| tx_let (up2 u_M 38 w2.toNatClampNeg (u_M 38 (w1 + w2).toNatClampNeg)) fun (u_M_4 : S32) => tx_let (w2 + (1 : Int32)) fun (y_5 : Int32) => K2 u_M_4 w1 y_5)
def f_X12_copies_oX12r38_L2 (fu : Nat) (v_M : S64) : Nat → S32 → Int32 → Int32 → Option (S32)
  | 0 => fun _ _ _ => none
  | n + 1 => f_X12_copies_oX12r38_J2 fu v_M (f_X12_copies_oX12r38_L2 fu v_M n)
def f_X12_copies_oX12r38 (fu : Nat) (v_M : S64) (u_M : S32) (x1 : Int32) : Option (S32) := f_X12_copies_oX12r38_L2 fu v_M fu u_M x1 (0 : Int32)
set_option maxHeartbeats 4000000 in
set_option maxRecDepth 100000 in
theorem c_X12_copies_oX12r38 {l : Launch} {g : GG} {A : Nat → Prop} {X : va_W} {fu : Nat} {a_M : Nat → Nat} {u_M : S32} {v_M : S64} {x1 : Int32} {zu_M : S32} (hf : f_X12_copies_oX12r38 fu v_M u_M x1 = some zu_M) : MV l yX12_copies cX12_copies 3 none 0 g A (cl_X12 g a_M u_M v_M ++ X) [.ref (a_M 38), .int x1] (cl_X12 g a_M zu_M v_M ++ X) := by
  refine tx_start (av := [.ref (a_M 38), .int x1]) (by decide) (Nat.le_of_ble_eq_true rfl) ?_
  intro p e s m below meth c ls S hr hlk hE hw hl
  have S : CallFix p m c cX12_copies 3 s (List.toArray [.ref (a_M 38), .int x1]) (Cond.code yX12_copies cX12_copies 3 none :: allW) RX12 := S
  have hx := S.1
  have hb := S.2.1
  have hown := S.2.2.2.1
  have hts : ∀ w ∈ allW, w.before (List.toArray [.ref (a_M 38), .int x1]) s = true := fun w h => S.2.2.2.2 w (List.mem_cons_of_mem _ h)
  have hl : lv_has ls 3 [(0, .ref (a_M 38)), (1, .int x1)] := hl
  have J2 : ∀ {K2 : S32 → Int32 → Int32 → Option (S32)} (hK2 : ∀ {u_M : S32} {w1 : Int32} {w2 : Int32} {H : Heap} {locs : List Loc} {ls : Array Slot}, K2 u_M w1 w2 = some zu_M → WD g A s.heap (cl_X12 g a_M u_M v_M ++ X) H locs → lv_has ls 3 [(0, .ref (a_M 38)), (1, .int w1), (2, .int w2)] → W p l e (rmH 0) s m (List.toArray [.ref (a_M 38), .int x1]) below meth c H locs 0 0 (MQ below (va_Qv (fun (_ : Unit) => True) (fun _ t => POST g A (cl_X12 g a_M zu_M v_M ++ X) t) A) (List.toArray [.ref (a_M 38), .int x1]) s 0 0 A) (F0 m 2 ls [])), ∀ {u_M : S32} {w1 : Int32} {w2 : Int32} {H : Heap} {locs : List Loc} {ls : Array Slot}, f_X12_copies_oX12r38_J2 fu v_M K2 u_M w1 w2 = some zu_M → WD g A s.heap (cl_X12 g a_M u_M v_M ++ X) H locs → lv_has ls 3 [(0, .ref (a_M 38)), (1, .int w1), (2, .int w2)] → W p l e (rmH 0) s m (List.toArray [.ref (a_M 38), .int x1]) below meth c H locs 0 0 (MQ below (va_Qv (fun (_ : Unit) => True) (fun _ t => POST g A (cl_X12 g a_M zu_M v_M ++ X) t) A) (List.toArray [.ref (a_M 38), .int x1]) s 0 0 A) (F0 m 2 ls []) := by
    intro K2 hK2 u_M w1 w2 H locs ls hf hw hl
    unfold f_X12_copies_oX12r38_J2 at hf
    refine lv_iload_n hx hb dX12_copies_2 rfl (lv_at hl 2 rfl) ?_
    refine lv_iload_n hx hb dX12_copies_3 rfl (lv_at hl 1 rfl) ?_
    refine lv_icmp_ge (tgt := 21) hx hb dX12_copies_4 (by decide) (fun h_1 => ?_) (fun h_1 => ?_)
    · replace hf := tx_pos hf h_1
      obtain e0 := tx_in1 hf
      rw [← e0]
      exact tx_vret S hr hlk hw dX12_copies_21
    · replace hf := tx_neg hf h_1
      refine lv_aload_n hx hb dX12_copies_7 rfl (lv_at hl 0 rfl) ?_
      refine lv_iload_n hx hb dX12_copies_8 rfl (lv_at hl 2 rfl) ?_
      refine lv_aload_n hx hb dX12_copies_9 rfl (lv_at hl 0 rfl) ?_
      refine lv_iload_n hx hb dX12_copies_10 rfl (lv_at hl 1 rfl) ?_
      refine lv_iload_n hx hb dX12_copies_11 rfl (lv_at hl 2 rfl) ?_
      refine lv_iadd hx hb dX12_copies_12 ?_
      obtain ⟨h_2, hf⟩ := tx_ck_e hf
      refine tx_iald S hE hw 20 rfl h_2 dX12_copies_13 ?_
      obtain ⟨h_3, hf⟩ := tx_ck_e hf
      obtain ⟨u_M_4, eu_M_4⟩ : ∃ z : S32, z = up2 u_M 38 w2.toNatClampNeg (u_M 38 (w1 + w2).toNatClampNeg) := ⟨_, rfl⟩
      replace hf := tx_let_e hf eu_M_4
      refine tx_iast (ws' := cl_X12 g a_M u_M_4 v_M ++ X) S hE hw 20 rfl h_3 (by rw [eu_M_4]; rfl) dX12_copies_14 (fun H locs hw => ?_)
      obtain ⟨y_5, ey_5⟩ : ∃ y : Int32, y = w2 + (1 : Int32) := ⟨_, rfl⟩
      replace hf := tx_let_e hf ey_5
      refine lv_iinc (v := y_5) (lv' := [(2, .int y_5), (0, .ref (a_M 38)), (1, .int w1)]) hx hb dX12_copies_15 hl (k := 2) rfl (by rw [ey_5]; rfl) (by decide) rfl (fun ls hl => ?_)
      refine lv_goto (tgt := 2) hx hb dX12_copies_18 (by decide) ?_
      exact hK2 hf hw (lv_sub hl [1, 2, 0] rfl)
  have L2 : ∀ (n : Nat), ∀ {u_M : S32} {w1 : Int32} {w2 : Int32} {H : Heap} {locs : List Loc} {ls : Array Slot}, f_X12_copies_oX12r38_L2 fu v_M n u_M w1 w2 = some zu_M → WD g A s.heap (cl_X12 g a_M u_M v_M ++ X) H locs → lv_has ls 3 [(0, .ref (a_M 38)), (1, .int w1), (2, .int w2)] → W p l e (rmH 0) s m (List.toArray [.ref (a_M 38), .int x1]) below meth c H locs 0 0 (MQ below (va_Qv (fun (_ : Unit) => True) (fun _ t => POST g A (cl_X12 g a_M zu_M v_M ++ X) t) A) (List.toArray [.ref (a_M 38), .int x1]) s 0 0 A) (F0 m 2 ls []) := by
    intro  n
    induction n with
    | zero => intro u_M w1 w2 H locs ls hf; exact absurd hf (by intro q; cases q)
    | succ n ih => exact fun hf hw hl => J2 ih hf hw hl
  unfold f_X12_copies_oX12r38 at hf
  refine lv_iconst (v := 0) hx hb dX12_copies_0 (by decide) ?_
  refine lv_istore_n (lv' := [(2, .int (0 : Int32)), (0, .ref (a_M 38)), (1, .int x1)]) hx hb dX12_copies_1 rfl hl (by decide) rfl (fun ls hl => ?_)
  exact L2 fu hf hw (lv_sub hl [1, 2, 0] rfl)
def f_X12_atFirst_J138 (fu : Nat) (v_T : S64) (K52 : S32 → Int32 → Int32 → Option (S32)) (u_T : S32) (w1 : Int32) (w2 : Int32) (t1 : Int32) (t2 : Int32) : Option (S32) := tx_ck t1 12 <| tx_let (up2 u_T 57 t1.toNatClampNeg t2) fun (u_T_26 : S32) => tx_let (w2 + (1 : Int32)) fun (y_27 : Int32) => K52 u_T_26 w1 y_27
def f_X12_atFirst_J52 (fu : Nat) (v_T : S64) (K52 : S32 → Int32 → Int32 → Option (S32)) (u_T : S32) (w1 : Int32) (w2 : Int32) : Option (S32) := if (6 : Int32) ≤ w2 then (tx_ck w1 2 <| tx_let (up2 u_T 58 w1.toNatClampNeg (u_T 22 (0 : Int32).toNatClampNeg)) fun (u_T_11 : S32) => tx_ck w1 2 <| tx_let (up2 u_T_11 59 w1.toNatClampNeg (0 : Int32)) fun (u_T_13 : S32) => some u_T_13) else (tx_ck w2 12 <| tx_ck (((6 : Int32) * w1) + w2) 12 <| tx_let (up2 u_T 53 (((6 : Int32) * w1) + w2).toNatClampNeg (u_T 24 w2.toNatClampNeg)) fun (u_T_16 : S32) => tx_ck (((6 : Int32) * w1) + w2) 12 <| tx_let (up2 u_T_16 54 (((6 : Int32) * w1) + w2).toNatClampNeg (0 : Int32)) fun (u_T_18 : S32) => tx_ck (((6 : Int32) * w1) + w2) 12 <| tx_let (up2 u_T_18 55 (((6 : Int32) * w1) + w2).toNatClampNeg (0 : Int32)) fun (u_T_20 : S32) => tx_ck (((6 : Int32) * w1) + w2) 12 <| tx_let (up2 u_T_20 56 (((6 : Int32) * w1) + w2).toNatClampNeg (0 : Int32)) fun (u_T_22 : S32) => if (u_T_22 0 14) = (0 : Int32) then (f_X12_atFirst_J138 fu v_T K52 u_T_22 w1 w2 (((6 : Int32) * w1) + w2) (-1 : Int32)) else (tx_nz (u_T_22 0 14) <| f_X12_atFirst_J138 fu v_T K52 u_T_22 w1 w2 (((6 : Int32) * w1) + w2) (w2 - w2 / (u_T_22 0 14) * (u_T_22 0 14))))
def f_X12_atFirst_L52 (fu : Nat) (v_T : S64) : Nat → S32 → Int32 → Int32 → Option (S32)
  | 0 => fun _ _ _ => none
  | n + 1 => f_X12_atFirst_J52 fu v_T (f_X12_atFirst_L52 fu v_T n)
def f_X12_atFirst_J2 (fu : Nat) (v_T : S64) (K2 : S32 → Int32 → Int32 → Option (S32)) (u_T : S32) (w1 : Int32) (w2 : Int32) : Option (S32) := if (12 : Int32) ≤ w2 then (f_X12_atFirst_L52 fu v_T fu u_T w1 (0 : Int32)) else (tx_ck (((12 : Int32) * w1) + w2) 24 <| tx_let (up2 u_T 50 (((12 : Int32) * w1) + w2).toNatClampNeg (0 : Int32)) fun (u_T_3 : S32) => tx_ck (((12 : Int32) * w1) + w2) 24 <| tx_let (up2 u_T_3 51 (((12 : Int32) * w1) + w2).toNatClampNeg (-1 : Int32)) fun (u_T_5 : S32) => tx_ck (((12 : Int32) * w1) + w2) 24 <| tx_let (up2 u_T_5 52 (((12 : Int32) * w1) + w2).toNatClampNeg ((0 : Int32) &&& 1)) fun (u_T_7 : S32) => tx_let (w2 + (1 : Int32)) fun (y_8 : Int32) => K2 u_T_7 w1 y_8)
def f_X12_atFirst_L2 (fu : Nat) (v_T : S64) : Nat → S32 → Int32 → Int32 → Option (S32)
  | 0 => fun _ _ _ => none
  | n + 1 => f_X12_atFirst_J2 fu v_T (f_X12_atFirst_L2 fu v_T n)
def f_X12_atFirst (fu : Nat) (v_T : S64) (u_T : S32) (x1 : Int32) : Option (S32) := f_X12_atFirst_L2 fu v_T fu u_T x1 (0 : Int32)
set_option maxHeartbeats 4000000 in
set_option maxRecDepth 100000 in
theorem c_X12_atFirst {l : Launch} {g : GG} {A : Nat → Prop} {X : va_W} {fu : Nat} {a_T : Nat → Nat} {u_T : S32} {v_T : S64} {x1 : Int32} {zu_T : S32} (hf : f_X12_atFirst fu v_T u_T x1 = some zu_T) : MV l yX12_atFirst cX12_atFirst 3 none 0 g A (cl_X12 g a_T u_T v_T ++ X) [.ref (a_T 0), .int x1] (cl_X12 g a_T zu_T v_T ++ X) := by
  refine tx_start (av := [.ref (a_T 0), .int x1]) (by decide) (Nat.le_of_ble_eq_true rfl) ?_
  intro p e s m below meth c ls S hr hlk hE hw hl
  have S : CallFix p m c cX12_atFirst 3 s (List.toArray [.ref (a_T 0), .int x1]) (Cond.code yX12_atFirst cX12_atFirst 3 none :: allW) RX12 := S
  have hx := S.1
  have hb := S.2.1
  have hown := S.2.2.2.1
  have hts : ∀ w ∈ allW, w.before (List.toArray [.ref (a_T 0), .int x1]) s = true := fun w h => S.2.2.2.2 w (List.mem_cons_of_mem _ h)
  have hl : lv_has ls 3 [(0, .ref (a_T 0)), (1, .int x1)] := hl
  have J138 : ∀ {K52 : S32 → Int32 → Int32 → Option (S32)} (hK52 : ∀ {u_T : S32} {w1 : Int32} {w2 : Int32} {H : Heap} {locs : List Loc} {ls : Array Slot}, K52 u_T w1 w2 = some zu_T → WD g A s.heap (cl_X12 g a_T u_T v_T ++ X) H locs → lv_has ls 3 [(0, .ref (a_T 0)), (1, .int w1), (2, .int w2)] → W p l e (rmH 0) s m (List.toArray [.ref (a_T 0), .int x1]) below meth c H locs 0 0 (MQ below (va_Qv (fun (_ : Unit) => True) (fun _ t => POST g A (cl_X12 g a_T zu_T v_T ++ X) t) A) (List.toArray [.ref (a_T 0), .int x1]) s 0 0 A) (F0 m 52 ls [])), ∀ {u_T : S32} {w1 : Int32} {w2 : Int32} {t1 : Int32} {t2 : Int32} {H : Heap} {locs : List Loc} {ls : Array Slot}, f_X12_atFirst_J138 fu v_T K52 u_T w1 w2 t1 t2 = some zu_T → WD g A s.heap (cl_X12 g a_T u_T v_T ++ X) H locs → lv_has ls 3 [(0, .ref (a_T 0)), (1, .int w1), (2, .int w2)] → W p l e (rmH 0) s m (List.toArray [.ref (a_T 0), .int x1]) below meth c H locs 0 0 (MQ below (va_Qv (fun (_ : Unit) => True) (fun _ t => POST g A (cl_X12 g a_T zu_T v_T ++ X) t) A) (List.toArray [.ref (a_T 0), .int x1]) s 0 0 A) (F0 m 138 ls [.int t2, .int t1, .ref (a_T 57)]) := by
    intro K52 hK52 u_T w1 w2 t1 t2 H locs ls hf hw hl
    unfold f_X12_atFirst_J138 at hf
    obtain ⟨h_25, hf⟩ := tx_ck_e hf
    obtain ⟨u_T_26, eu_T_26⟩ : ∃ z : S32, z = up2 u_T 57 t1.toNatClampNeg t2 := ⟨_, rfl⟩
    replace hf := tx_let_e hf eu_T_26
    refine tx_iast (ws' := cl_X12 g a_T u_T_26 v_T ++ X) S hE hw 32 rfl h_25 (by rw [eu_T_26]; rfl) dX12_atFirst_138 (fun H locs hw => ?_)
    obtain ⟨y_27, ey_27⟩ : ∃ y : Int32, y = w2 + (1 : Int32) := ⟨_, rfl⟩
    replace hf := tx_let_e hf ey_27
    refine lv_iinc (v := y_27) (lv' := [(2, .int y_27), (0, .ref (a_T 0)), (1, .int w1)]) hx hb dX12_atFirst_139 hl (k := 2) rfl (by rw [ey_27]; rfl) (by decide) rfl (fun ls hl => ?_)
    refine lv_goto (tgt := 52) hx hb dX12_atFirst_142 (by decide) ?_
    exact hK52 hf hw (lv_sub hl [1, 2, 0] rfl)
  have J52 : ∀ {K52 : S32 → Int32 → Int32 → Option (S32)} (hK52 : ∀ {u_T : S32} {w1 : Int32} {w2 : Int32} {H : Heap} {locs : List Loc} {ls : Array Slot}, K52 u_T w1 w2 = some zu_T → WD g A s.heap (cl_X12 g a_T u_T v_T ++ X) H locs → lv_has ls 3 [(0, .ref (a_T 0)), (1, .int w1), (2, .int w2)] → W p l e (rmH 0) s m (List.toArray [.ref (a_T 0), .int x1]) below meth c H locs 0 0 (MQ below (va_Qv (fun (_ : Unit) => True) (fun _ t => POST g A (cl_X12 g a_T zu_T v_T ++ X) t) A) (List.toArray [.ref (a_T 0), .int x1]) s 0 0 A) (F0 m 52 ls [])), ∀ {u_T : S32} {w1 : Int32} {w2 : Int32} {H : Heap} {locs : List Loc} {ls : Array Slot}, f_X12_atFirst_J52 fu v_T K52 u_T w1 w2 = some zu_T → WD g A s.heap (cl_X12 g a_T u_T v_T ++ X) H locs → lv_has ls 3 [(0, .ref (a_T 0)), (1, .int w1), (2, .int w2)] → W p l e (rmH 0) s m (List.toArray [.ref (a_T 0), .int x1]) below meth c H locs 0 0 (MQ below (va_Qv (fun (_ : Unit) => True) (fun _ t => POST g A (cl_X12 g a_T zu_T v_T ++ X) t) A) (List.toArray [.ref (a_T 0), .int x1]) s 0 0 A) (F0 m 52 ls []) := by
    intro K52 hK52 u_T w1 w2 H locs ls hf hw hl
    unfold f_X12_atFirst_J52 at hf
    refine lv_iload_n hx hb dX12_atFirst_52 rfl (lv_at hl 2 rfl) ?_
    refine lv_bipush (v := 6) hx hb dX12_atFirst_53 (by decide) ?_
    refine lv_icmp_ge (tgt := 145) hx hb dX12_atFirst_55 (by decide) (fun h_9 => ?_) (fun h_9 => ?_)
    · replace hf := tx_pos hf h_9
      refine lv_aload_n hx hb dX12_atFirst_145 rfl (lv_at hl 0 rfl) ?_
      refine gf_X12_112 S hE hw 0 rfl rfl dX12_atFirst_146 ?_
      refine lv_iload_n hx hb dX12_atFirst_149 rfl (lv_at hl 1 rfl) ?_
      refine lv_aload_n hx hb dX12_atFirst_150 rfl (lv_at hl 0 rfl) ?_
      refine gf_X12_24 S hE hw 0 rfl rfl dX12_atFirst_151 ?_
      refine lv_iconst (v := 0) hx hb dX12_atFirst_154 (by decide) ?_
      refine tx_iald S hE hw 4 rfl (by unfold vp_in; decide) dX12_atFirst_155 ?_
      obtain ⟨h_10, hf⟩ := tx_ck_e hf
      obtain ⟨u_T_11, eu_T_11⟩ : ∃ z : S32, z = up2 u_T 58 w1.toNatClampNeg (u_T 22 (0 : Int32).toNatClampNeg) := ⟨_, rfl⟩
      replace hf := tx_let_e hf eu_T_11
      refine tx_iast (ws' := cl_X12 g a_T u_T_11 v_T ++ X) S hE hw 33 rfl h_10 (by rw [eu_T_11]; rfl) dX12_atFirst_156 (fun H locs hw => ?_)
      refine lv_aload_n hx hb dX12_atFirst_157 rfl (lv_at hl 0 rfl) ?_
      refine gf_X12_115 S hE hw 0 rfl rfl dX12_atFirst_158 ?_
      refine lv_iload_n hx hb dX12_atFirst_161 rfl (lv_at hl 1 rfl) ?_
      refine lv_iconst (v := 0) hx hb dX12_atFirst_162 (by decide) ?_
      obtain ⟨h_12, hf⟩ := tx_ck_e hf
      obtain ⟨u_T_13, eu_T_13⟩ : ∃ z : S32, z = up2 u_T_11 59 w1.toNatClampNeg (0 : Int32) := ⟨_, rfl⟩
      replace hf := tx_let_e hf eu_T_13
      refine tx_iast (ws' := cl_X12 g a_T u_T_13 v_T ++ X) S hE hw 34 rfl h_12 (by rw [eu_T_13]; rfl) dX12_atFirst_163 (fun H locs hw => ?_)
      obtain e0 := tx_in1 hf
      rw [← e0]
      exact tx_vret S hr hlk hw dX12_atFirst_164
    · replace hf := tx_neg hf h_9
      refine lv_aload_n hx hb dX12_atFirst_58 rfl (lv_at hl 0 rfl) ?_
      refine gf_X12_97 S hE hw 0 rfl rfl dX12_atFirst_59 ?_
      refine lv_bipush (v := 6) hx hb dX12_atFirst_62 (by decide) ?_
      refine lv_iload_n hx hb dX12_atFirst_64 rfl (lv_at hl 1 rfl) ?_
      refine lv_imul hx hb dX12_atFirst_65 ?_
      refine lv_iload_n hx hb dX12_atFirst_66 rfl (lv_at hl 2 rfl) ?_
      refine lv_iadd hx hb dX12_atFirst_67 ?_
      refine lv_aload_n hx hb dX12_atFirst_68 rfl (lv_at hl 0 rfl) ?_
      refine gf_X12_30 S hE hw 0 rfl rfl dX12_atFirst_69 ?_
      refine lv_iload_n hx hb dX12_atFirst_72 rfl (lv_at hl 2 rfl) ?_
      obtain ⟨h_14, hf⟩ := tx_ck_e hf
      refine tx_iald S hE hw 6 rfl h_14 dX12_atFirst_73 ?_
      obtain ⟨h_15, hf⟩ := tx_ck_e hf
      obtain ⟨u_T_16, eu_T_16⟩ : ∃ z : S32, z = up2 u_T 53 (((6 : Int32) * w1) + w2).toNatClampNeg (u_T 24 w2.toNatClampNeg) := ⟨_, rfl⟩
      replace hf := tx_let_e hf eu_T_16
      refine tx_iast (ws' := cl_X12 g a_T u_T_16 v_T ++ X) S hE hw 28 rfl h_15 (by rw [eu_T_16]; rfl) dX12_atFirst_74 (fun H locs hw => ?_)
      refine lv_aload_n hx hb dX12_atFirst_75 rfl (lv_at hl 0 rfl) ?_
      refine gf_X12_100 S hE hw 0 rfl rfl dX12_atFirst_76 ?_
      refine lv_bipush (v := 6) hx hb dX12_atFirst_79 (by decide) ?_
      refine lv_iload_n hx hb dX12_atFirst_81 rfl (lv_at hl 1 rfl) ?_
      refine lv_imul hx hb dX12_atFirst_82 ?_
      refine lv_iload_n hx hb dX12_atFirst_83 rfl (lv_at hl 2 rfl) ?_
      refine lv_iadd hx hb dX12_atFirst_84 ?_
      refine lv_iconst (v := 0) hx hb dX12_atFirst_85 (by decide) ?_
      obtain ⟨h_17, hf⟩ := tx_ck_e hf
      obtain ⟨u_T_18, eu_T_18⟩ : ∃ z : S32, z = up2 u_T_16 54 (((6 : Int32) * w1) + w2).toNatClampNeg (0 : Int32) := ⟨_, rfl⟩
      replace hf := tx_let_e hf eu_T_18
      refine tx_iast (ws' := cl_X12 g a_T u_T_18 v_T ++ X) S hE hw 29 rfl h_17 (by rw [eu_T_18]; rfl) dX12_atFirst_86 (fun H locs hw => ?_)
      refine lv_aload_n hx hb dX12_atFirst_87 rfl (lv_at hl 0 rfl) ?_
      refine gf_X12_103 S hE hw 0 rfl rfl dX12_atFirst_88 ?_
      refine lv_bipush (v := 6) hx hb dX12_atFirst_91 (by decide) ?_
      refine lv_iload_n hx hb dX12_atFirst_93 rfl (lv_at hl 1 rfl) ?_
      refine lv_imul hx hb dX12_atFirst_94 ?_
      refine lv_iload_n hx hb dX12_atFirst_95 rfl (lv_at hl 2 rfl) ?_
      refine lv_iadd hx hb dX12_atFirst_96 ?_
      refine lv_iconst (v := 0) hx hb dX12_atFirst_97 (by decide) ?_
      obtain ⟨h_19, hf⟩ := tx_ck_e hf
      obtain ⟨u_T_20, eu_T_20⟩ : ∃ z : S32, z = up2 u_T_18 55 (((6 : Int32) * w1) + w2).toNatClampNeg (0 : Int32) := ⟨_, rfl⟩
      replace hf := tx_let_e hf eu_T_20
      refine tx_iast (ws' := cl_X12 g a_T u_T_20 v_T ++ X) S hE hw 30 rfl h_19 (by rw [eu_T_20]; rfl) dX12_atFirst_98 (fun H locs hw => ?_)
      refine lv_aload_n hx hb dX12_atFirst_99 rfl (lv_at hl 0 rfl) ?_
      refine gf_X12_106 S hE hw 0 rfl rfl dX12_atFirst_100 ?_
      refine lv_bipush (v := 6) hx hb dX12_atFirst_103 (by decide) ?_
      refine lv_iload_n hx hb dX12_atFirst_105 rfl (lv_at hl 1 rfl) ?_
      refine lv_imul hx hb dX12_atFirst_106 ?_
      refine lv_iload_n hx hb dX12_atFirst_107 rfl (lv_at hl 2 rfl) ?_
      refine lv_iadd hx hb dX12_atFirst_108 ?_
      refine lv_iconst (v := 0) hx hb dX12_atFirst_109 (by decide) ?_
      obtain ⟨h_21, hf⟩ := tx_ck_e hf
      obtain ⟨u_T_22, eu_T_22⟩ : ∃ z : S32, z = up2 u_T_20 56 (((6 : Int32) * w1) + w2).toNatClampNeg (0 : Int32) := ⟨_, rfl⟩
      replace hf := tx_let_e hf eu_T_22
      refine tx_iast (ws' := cl_X12 g a_T u_T_22 v_T ++ X) S hE hw 31 rfl h_21 (by rw [eu_T_22]; rfl) dX12_atFirst_110 (fun H locs hw => ?_)
      refine lv_aload_n hx hb dX12_atFirst_111 rfl (lv_at hl 0 rfl) ?_
      refine gf_X12_109 S hE hw 0 rfl rfl dX12_atFirst_112 ?_
      refine lv_bipush (v := 6) hx hb dX12_atFirst_115 (by decide) ?_
      refine lv_iload_n hx hb dX12_atFirst_117 rfl (lv_at hl 1 rfl) ?_
      refine lv_imul hx hb dX12_atFirst_118 ?_
      refine lv_iload_n hx hb dX12_atFirst_119 rfl (lv_at hl 2 rfl) ?_
      refine lv_iadd hx hb dX12_atFirst_120 ?_
      refine lv_aload_n hx hb dX12_atFirst_121 rfl (lv_at hl 0 rfl) ?_
      refine gf_X12_228 S hE hw 0 rfl rfl dX12_atFirst_122 ?_
      refine lv_if_ne (tgt := 132) hx hb dX12_atFirst_125 (by decide) (fun h_23 => ?_) (fun h_23 => ?_)
      · replace hf := tx_neg hf h_23
        refine lv_iload_n hx hb dX12_atFirst_132 rfl (lv_at hl 2 rfl) ?_
        refine lv_aload_n hx hb dX12_atFirst_133 rfl (lv_at hl 0 rfl) ?_
        refine gf_X12_228 S hE hw 0 rfl rfl dX12_atFirst_134 ?_
        obtain ⟨h_24, hf⟩ := tx_nz_e hf
        refine lv_irem hx hb dX12_atFirst_137 h_24 ?_
        exact J138 hK52 hf hw (lv_sub hl [0, 1, 2] rfl)
      · replace hf := tx_pos hf h_23
        refine lv_iconst (v := -1) hx hb dX12_atFirst_128 (by decide) ?_
        refine lv_goto (tgt := 138) hx hb dX12_atFirst_129 (by decide) ?_
        exact J138 hK52 hf hw (lv_sub hl [0, 1, 2] rfl)
  have L52 : ∀ (n : Nat), ∀ {u_T : S32} {w1 : Int32} {w2 : Int32} {H : Heap} {locs : List Loc} {ls : Array Slot}, f_X12_atFirst_L52 fu v_T n u_T w1 w2 = some zu_T → WD g A s.heap (cl_X12 g a_T u_T v_T ++ X) H locs → lv_has ls 3 [(0, .ref (a_T 0)), (1, .int w1), (2, .int w2)] → W p l e (rmH 0) s m (List.toArray [.ref (a_T 0), .int x1]) below meth c H locs 0 0 (MQ below (va_Qv (fun (_ : Unit) => True) (fun _ t => POST g A (cl_X12 g a_T zu_T v_T ++ X) t) A) (List.toArray [.ref (a_T 0), .int x1]) s 0 0 A) (F0 m 52 ls []) := by
    intro  n
    induction n with
    | zero => intro u_T w1 w2 H locs ls hf; exact absurd hf (by intro q; cases q)
    | succ n ih => exact fun hf hw hl => J52 ih hf hw hl
  have J2 : ∀ {K2 : S32 → Int32 → Int32 → Option (S32)} (hK2 : ∀ {u_T : S32} {w1 : Int32} {w2 : Int32} {H : Heap} {locs : List Loc} {ls : Array Slot}, K2 u_T w1 w2 = some zu_T → WD g A s.heap (cl_X12 g a_T u_T v_T ++ X) H locs → lv_has ls 3 [(0, .ref (a_T 0)), (1, .int w1), (2, .int w2)] → W p l e (rmH 0) s m (List.toArray [.ref (a_T 0), .int x1]) below meth c H locs 0 0 (MQ below (va_Qv (fun (_ : Unit) => True) (fun _ t => POST g A (cl_X12 g a_T zu_T v_T ++ X) t) A) (List.toArray [.ref (a_T 0), .int x1]) s 0 0 A) (F0 m 2 ls [])), ∀ {u_T : S32} {w1 : Int32} {w2 : Int32} {H : Heap} {locs : List Loc} {ls : Array Slot}, f_X12_atFirst_J2 fu v_T K2 u_T w1 w2 = some zu_T → WD g A s.heap (cl_X12 g a_T u_T v_T ++ X) H locs → lv_has ls 3 [(0, .ref (a_T 0)), (1, .int w1), (2, .int w2)] → W p l e (rmH 0) s m (List.toArray [.ref (a_T 0), .int x1]) below meth c H locs 0 0 (MQ below (va_Qv (fun (_ : Unit) => True) (fun _ t => POST g A (cl_X12 g a_T zu_T v_T ++ X) t) A) (List.toArray [.ref (a_T 0), .int x1]) s 0 0 A) (F0 m 2 ls []) := by
    intro K2 hK2 u_T w1 w2 H locs ls hf hw hl
    unfold f_X12_atFirst_J2 at hf
    refine lv_iload_n hx hb dX12_atFirst_2 rfl (lv_at hl 2 rfl) ?_
    refine lv_bipush (v := 12) hx hb dX12_atFirst_3 (by decide) ?_
    refine lv_icmp_ge (tgt := 50) hx hb dX12_atFirst_5 (by decide) (fun h_1 => ?_) (fun h_1 => ?_)
    · replace hf := tx_pos hf h_1
      refine lv_iconst (v := 0) hx hb dX12_atFirst_50 (by decide) ?_
      refine lv_istore_n (lv' := [(2, .int (0 : Int32)), (0, .ref (a_T 0)), (1, .int w1)]) hx hb dX12_atFirst_51 rfl hl (by decide) rfl (fun ls hl => ?_)
      exact L52 fu hf hw (lv_sub hl [1, 2, 0] rfl)
    · replace hf := tx_neg hf h_1
      refine lv_aload_n hx hb dX12_atFirst_8 rfl (lv_at hl 0 rfl) ?_
      refine gf_X12_88 S hE hw 0 rfl rfl dX12_atFirst_9 ?_
      refine lv_bipush (v := 12) hx hb dX12_atFirst_12 (by decide) ?_
      refine lv_iload_n hx hb dX12_atFirst_14 rfl (lv_at hl 1 rfl) ?_
      refine lv_imul hx hb dX12_atFirst_15 ?_
      refine lv_iload_n hx hb dX12_atFirst_16 rfl (lv_at hl 2 rfl) ?_
      refine lv_iadd hx hb dX12_atFirst_17 ?_
      refine lv_iconst (v := 0) hx hb dX12_atFirst_18 (by decide) ?_
      obtain ⟨h_2, hf⟩ := tx_ck_e hf
      obtain ⟨u_T_3, eu_T_3⟩ : ∃ z : S32, z = up2 u_T 50 (((12 : Int32) * w1) + w2).toNatClampNeg (0 : Int32) := ⟨_, rfl⟩
      replace hf := tx_let_e hf eu_T_3
      refine tx_iast (ws' := cl_X12 g a_T u_T_3 v_T ++ X) S hE hw 25 rfl h_2 (by rw [eu_T_3]; rfl) dX12_atFirst_19 (fun H locs hw => ?_)
      refine lv_aload_n hx hb dX12_atFirst_20 rfl (lv_at hl 0 rfl) ?_
      refine gf_X12_91 S hE hw 0 rfl rfl dX12_atFirst_21 ?_
      refine lv_bipush (v := 12) hx hb dX12_atFirst_24 (by decide) ?_
      refine lv_iload_n hx hb dX12_atFirst_26 rfl (lv_at hl 1 rfl) ?_
      refine lv_imul hx hb dX12_atFirst_27 ?_
      refine lv_iload_n hx hb dX12_atFirst_28 rfl (lv_at hl 2 rfl) ?_
      refine lv_iadd hx hb dX12_atFirst_29 ?_
      refine lv_iconst (v := -1) hx hb dX12_atFirst_30 (by decide) ?_
      obtain ⟨h_4, hf⟩ := tx_ck_e hf
      obtain ⟨u_T_5, eu_T_5⟩ : ∃ z : S32, z = up2 u_T_3 51 (((12 : Int32) * w1) + w2).toNatClampNeg (-1 : Int32) := ⟨_, rfl⟩
      replace hf := tx_let_e hf eu_T_5
      refine tx_iast (ws' := cl_X12 g a_T u_T_5 v_T ++ X) S hE hw 26 rfl h_4 (by rw [eu_T_5]; rfl) dX12_atFirst_31 (fun H locs hw => ?_)
      refine lv_aload_n hx hb dX12_atFirst_32 rfl (lv_at hl 0 rfl) ?_
      refine gf_X12_94 S hE hw 0 rfl rfl dX12_atFirst_33 ?_
      refine lv_bipush (v := 12) hx hb dX12_atFirst_36 (by decide) ?_
      refine lv_iload_n hx hb dX12_atFirst_38 rfl (lv_at hl 1 rfl) ?_
      refine lv_imul hx hb dX12_atFirst_39 ?_
      refine lv_iload_n hx hb dX12_atFirst_40 rfl (lv_at hl 2 rfl) ?_
      refine lv_iadd hx hb dX12_atFirst_41 ?_
      refine lv_iconst (v := 0) hx hb dX12_atFirst_42 (by decide) ?_
      obtain ⟨h_6, hf⟩ := tx_ck_e hf
      obtain ⟨u_T_7, eu_T_7⟩ : ∃ z : S32, z = up2 u_T_5 52 (((12 : Int32) * w1) + w2).toNatClampNeg ((0 : Int32) &&& 1) := ⟨_, rfl⟩
      replace hf := tx_let_e hf eu_T_7
      refine tx_zast (ws' := cl_X12 g a_T u_T_7 v_T ++ X) S hE hw 27 rfl h_6 (by rw [eu_T_7]; rfl) dX12_atFirst_43 (fun H locs hw => ?_)
      obtain ⟨y_8, ey_8⟩ : ∃ y : Int32, y = w2 + (1 : Int32) := ⟨_, rfl⟩
      replace hf := tx_let_e hf ey_8
      refine lv_iinc (v := y_8) (lv' := [(2, .int y_8), (0, .ref (a_T 0)), (1, .int w1)]) hx hb dX12_atFirst_44 hl (k := 2) rfl (by rw [ey_8]; rfl) (by decide) rfl (fun ls hl => ?_)
      refine lv_goto (tgt := 2) hx hb dX12_atFirst_47 (by decide) ?_
      exact hK2 hf hw (lv_sub hl [1, 2, 0] rfl)
  have L2 : ∀ (n : Nat), ∀ {u_T : S32} {w1 : Int32} {w2 : Int32} {H : Heap} {locs : List Loc} {ls : Array Slot}, f_X12_atFirst_L2 fu v_T n u_T w1 w2 = some zu_T → WD g A s.heap (cl_X12 g a_T u_T v_T ++ X) H locs → lv_has ls 3 [(0, .ref (a_T 0)), (1, .int w1), (2, .int w2)] → W p l e (rmH 0) s m (List.toArray [.ref (a_T 0), .int x1]) below meth c H locs 0 0 (MQ below (va_Qv (fun (_ : Unit) => True) (fun _ t => POST g A (cl_X12 g a_T zu_T v_T ++ X) t) A) (List.toArray [.ref (a_T 0), .int x1]) s 0 0 A) (F0 m 2 ls []) := by
    intro  n
    induction n with
    | zero => intro u_T w1 w2 H locs ls hf; exact absurd hf (by intro q; cases q)
    | succ n ih => exact fun hf hw hl => J2 ih hf hw hl
  unfold f_X12_atFirst at hf
  refine lv_iconst (v := 0) hx hb dX12_atFirst_0 (by decide) ?_
  refine lv_istore_n (lv' := [(2, .int (0 : Int32)), (0, .ref (a_T 0)), (1, .int x1)]) hx hb dX12_atFirst_1 rfl hl (by decide) rfl (fun ls hl => ?_)
  exact L2 fu hf hw (lv_sub hl [1, 2, 0] rfl)
