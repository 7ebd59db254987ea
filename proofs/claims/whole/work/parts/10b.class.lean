def f_X0_manNamed (fu : Nat) (u_T : S32) (x1 : Int32) : Option (Int32) := tx_b1 (f_X0_placeOf_oX0r3 fu u_T (u_T 0 1) x1) fun (r_2 : Int32) => some r_2
set_option maxHeartbeats 4000000 in
set_option maxRecDepth 100000 in
theorem c_X0_manNamed {l : Launch} {g : GG} {A : Nat → Prop} {X : va_W} {fu : Nat} {a_T : Nat → Nat} {p_T_17 : Nat} {u_T : S32} {x1 : Int32} {r : Int32} (hf : f_X0_manNamed fu u_T x1 = some r) : MI l yX0_manNamed cX0_manNamed 2 (some .int) 1 g A (cl_X0 g a_T p_T_17 u_T ++ X) [.ref (a_T 0), .int x1] r (cl_X0 g a_T p_T_17 u_T ++ X) := by
  refine tx_start (av := [.ref (a_T 0), .int x1]) (by decide) (Nat.le_of_ble_eq_true rfl) ?_
  intro p e s m below meth c ls S hr hlk hE hw hl
  have S : CallFix p m c cX0_manNamed 2 s (List.toArray [.ref (a_T 0), .int x1]) (Cond.code yX0_manNamed cX0_manNamed 2 (some .int) :: allW) RX0 := S
  have hx := S.1
  have hb := S.2.1
  have hown := S.2.2.2.1
  have hts : ∀ w ∈ allW, w.before (List.toArray [.ref (a_T 0), .int x1]) s = true := fun w h => S.2.2.2.2 w (List.mem_cons_of_mem _ h)
  have hl : lv_has ls 2 [(0, .ref (a_T 0)), (1, .int x1)] := hl
  unfold f_X0_manNamed at hf
  refine lv_aload_n hx hb dX0_manNamed_0 rfl (lv_at hl 0 rfl) ?_
  refine gf_X0_9 S hE hw 0 rfl rfl dX0_manNamed_1 ?_
  refine lv_aload_n hx hb dX0_manNamed_4 rfl (lv_at hl 0 rfl) ?_
  refine gf_X0_59 S hE hw 0 rfl rfl dX0_manNamed_5 ?_
  refine lv_iload_n hx hb dX0_manNamed_8 rfl (lv_at hl 1 rfl) ?_
  obtain ⟨r_2, h_1, hf⟩ := tx_b1_e hf
  refine tx_ci hw (tx_runS S hE hw (c_X0_placeOf_oX0r3 h_1) lk_X0_74 rfl hl.1 (rest := []) rfl (Nat.le_of_ble_eq_true rfl) ⟨by decide, by decide⟩ dX0_manNamed_9 ⟨Nat.zero_le _, Nat.zero_le _⟩) (fun H locs hw => ?_)
  obtain e0 := tx_in1 hf
  rw [← e0]
  exact tx_iret S hr hlk hw dX0_manNamed_12
def f_X7_blame (fu : Nat) (u_K : S32) (u_T : S32) (x1 : Int32) : Option (Int32 × S32) := tx_let (up2 u_T 0 2 x1) fun (u_T_1 : S32) => tx_let (up2 u_T_1 0 3 (u_K 0 3)) fun (u_T_2 : S32) => some ((0 : Int32), u_T_2)
set_option maxHeartbeats 4000000 in
set_option maxRecDepth 100000 in
theorem c_X7_blame {l : Launch} {g : GG} {A : Nat → Prop} {X : va_W} {fu : Nat} {a_T a_K : Nat → Nat} {p_T_1 p_T_4 p_K_0 : Nat} {u_T : S32} {u_K : S32} {x1 : Int32} {r : Int32} {zu_T : S32} (hf : f_X7_blame fu u_K u_T x1 = some (r, zu_T)) : MI l yX7_blame cX7_blame 2 (some .boolean) 0 g A (cl_X7 g a_T (a_K 0) p_T_1 p_T_4 u_T ++ (cl_X8 g a_K p_K_0 u_K ++ X)) [.ref (a_T 0), .int x1] r (cl_X7 g a_T (a_K 0) p_T_1 p_T_4 zu_T ++ (cl_X8 g a_K p_K_0 u_K ++ X)) := by
  refine tx_start (av := [.ref (a_T 0), .int x1]) (by decide) (Nat.le_of_ble_eq_true rfl) ?_
  intro p e s m below meth c ls S hr hlk hE hw hl
  have S : CallFix p m c cX7_blame 2 s (List.toArray [.ref (a_T 0), .int x1]) (Cond.code yX7_blame cX7_blame 2 (some .boolean) :: allW) RX7 := S
  have hx := S.1
  have hb := S.2.1
  have hown := S.2.2.2.1
  have hts : ∀ w ∈ allW, w.before (List.toArray [.ref (a_T 0), .int x1]) s = true := fun w h => S.2.2.2.2 w (List.mem_cons_of_mem _ h)
  have hl : lv_has ls 2 [(0, .ref (a_T 0)), (1, .int x1)] := hl
  unfold f_X7_blame at hf
  refine lv_aload_n hx hb dX7_blame_0 rfl (lv_at hl 0 rfl) ?_
  refine lv_iload_n hx hb dX7_blame_1 rfl (lv_at hl 1 rfl) ?_
  obtain ⟨u_T_1, eu_T_1⟩ : ∃ z : S32, z = up2 u_T 0 2 x1 := ⟨_, rfl⟩
  replace hf := tx_let_e hf eu_T_1
  refine pf_X7_9 (ws' := cl_X7 g a_T (a_K 0) p_T_1 p_T_4 u_T_1 ++ (cl_X8 g a_K p_K_0 u_K ++ X)) S hE hw rfl rfl 0 rfl (Nat.le_of_ble_eq_true rfl) (by rw [eu_T_1]; rfl) dX7_blame_2 (fun H locs hw => ?_)
  refine lv_aload_n hx hb dX7_blame_5 rfl (lv_at hl 0 rfl) ?_
  refine lv_aload_n hx hb dX7_blame_6 rfl (lv_at hl 0 rfl) ?_
  refine gf_X7_23 S hE hw 0 rfl rfl dX7_blame_7 ?_
  refine gf_X7_71 S hE hw 1 rfl rfl dX7_blame_10 ?_
  obtain ⟨u_T_2, eu_T_2⟩ : ∃ z : S32, z = up2 u_T_1 0 3 (u_K 0 3) := ⟨_, rfl⟩
  replace hf := tx_let_e hf eu_T_2
  refine pf_X7_15 (ws' := cl_X7 g a_T (a_K 0) p_T_1 p_T_4 u_T_2 ++ (cl_X8 g a_K p_K_0 u_K ++ X)) S hE hw rfl rfl 0 rfl (Nat.le_of_ble_eq_true rfl) (by rw [eu_T_2]; rfl) dX7_blame_13 (fun H locs hw => ?_)
  refine lv_iconst (v := 0) hx hb dX7_blame_16 (by decide) ?_
  obtain ⟨e0, e1⟩ := tx_in2 hf
  rw [← e0, ← e1]
  exact tx_zret S hr hlk (by decide) hw dX7_blame_17
def f_X7_isNewName_J30 (fu : Nat) (u_K : S32) (u_T : S32) : Option (Int32 × S32) := some ((1 : Int32), u_T)
def f_X7_isNewName (fu : Nat) (u_K : S32) (u_T : S32) (x1 : Int32) : Option (Int32 × S32) := if (u_K 0 4) = (3 : Int32) then (if x1 = (-1 : Int32) then (f_X7_isNewName_J30 fu u_K u_T) else (tx_b2 (f_X7_blame fu u_K u_T (3 : Int32)) fun (r_4 : Int32) (u_T_5 : S32) => if r_4 = (0 : Int32) then (some ((0 : Int32), u_T_5)) else (f_X7_isNewName_J30 fu u_K u_T_5))) else (tx_b2 (f_X7_blame fu u_K u_T (1 : Int32)) fun (r_8 : Int32) (u_T_9 : S32) => tx_bz r_8 <| some (r_8, u_T_9))
set_option maxHeartbeats 4000000 in
set_option maxRecDepth 100000 in
theorem c_X7_isNewName {l : Launch} {g : GG} {A : Nat → Prop} {X : va_W} {fu : Nat} {a_T a_K : Nat → Nat} {p_T_1 p_T_4 p_K_0 : Nat} {u_T : S32} {u_K : S32} {x1 : Int32} {r : Int32} {zu_T : S32} (hf : f_X7_isNewName fu u_K u_T x1 = some (r, zu_T)) : MI l yX7_isNewName cX7_isNewName 2 (some .boolean) 1 g A (cl_X7 g a_T (a_K 0) p_T_1 p_T_4 u_T ++ (cl_X8 g a_K p_K_0 u_K ++ X)) [.ref (a_T 0), .int x1] r (cl_X7 g a_T (a_K 0) p_T_1 p_T_4 zu_T ++ (cl_X8 g a_K p_K_0 u_K ++ X)) := by
  refine tx_start (av := [.ref (a_T 0), .int x1]) (by decide) (Nat.le_of_ble_eq_true rfl) ?_
  intro p e s m below meth c ls S hr hlk hE hw hl
  have S : CallFix p m c cX7_isNewName 2 s (List.toArray [.ref (a_T 0), .int x1]) (Cond.code yX7_isNewName cX7_isNewName 2 (some .boolean) :: allW) RX7 := S
  have hx := S.1
  have hb := S.2.1
  have hown := S.2.2.2.1
  have hts : ∀ w ∈ allW, w.before (List.toArray [.ref (a_T 0), .int x1]) s = true := fun w h => S.2.2.2.2 w (List.mem_cons_of_mem _ h)
  have hl : lv_has ls 2 [(0, .ref (a_T 0)), (1, .int x1)] := hl
  have J30 : ∀ {u_T : S32} {H : Heap} {locs : List Loc} {ls : Array Slot}, f_X7_isNewName_J30 fu u_K u_T = some (r, zu_T) → WD g A s.heap (cl_X7 g a_T (a_K 0) p_T_1 p_T_4 u_T ++ (cl_X8 g a_K p_K_0 u_K ++ X)) H locs → lv_has ls 2 [] → W p l e (rmH 1) s m (List.toArray [.ref (a_T 0), .int x1]) below meth c H locs 0 0 (MQ below (va_Qi (fun r2 (_ : Unit) => r2 = r) (fun _ t => POST g A (cl_X7 g a_T (a_K 0) p_T_1 p_T_4 zu_T ++ (cl_X8 g a_K p_K_0 u_K ++ X)) t) A) (List.toArray [.ref (a_T 0), .int x1]) s 0 0 A) (F0 m 30 ls []) := by
    intro u_T H locs ls hf hw hl
    unfold f_X7_isNewName_J30 at hf
    refine lv_iconst (v := 1) hx hb dX7_isNewName_30 (by decide) ?_
    refine lv_goto (tgt := 35) hx hb dX7_isNewName_31 (by decide) ?_
    obtain ⟨e0, e1⟩ := tx_in2 hf
    rw [← e0, ← e1]
    exact tx_zret S hr hlk (by decide) hw dX7_isNewName_35
  unfold f_X7_isNewName at hf
  refine lv_aload_n hx hb dX7_isNewName_0 rfl (lv_at hl 0 rfl) ?_
  refine gf_X7_23 S hE hw 0 rfl rfl dX7_isNewName_1 ?_
  refine gf_X7_58 S hE hw 1 rfl rfl dX7_isNewName_4 ?_
  refine lv_iconst (v := 3) hx hb dX7_isNewName_7 (by decide) ?_
  refine lv_icmp_eq (tgt := 17) hx hb dX7_isNewName_8 (by decide) (fun h_1 => ?_) (fun h_1 => ?_)
  · replace hf := tx_pos hf h_1
    refine lv_iload_n hx hb dX7_isNewName_17 rfl (lv_at hl 1 rfl) ?_
    refine lv_iconst (v := -1) hx hb dX7_isNewName_18 (by decide) ?_
    refine lv_icmp_eq (tgt := 30) hx hb dX7_isNewName_19 (by decide) (fun h_2 => ?_) (fun h_2 => ?_)
    · replace hf := tx_pos hf h_2
      exact J30 hf hw (lv_sub hl [] rfl)
    · replace hf := tx_neg hf h_2
      refine lv_aload_n hx hb dX7_isNewName_22 rfl (lv_at hl 0 rfl) ?_
      refine lv_iconst (v := 3) hx hb dX7_isNewName_23 (by decide) ?_
      obtain ⟨r_4, u_T_5, h_3, hf⟩ := tx_b2_e hf
      refine tx_ci hw (tx_runV S hE hw (c_X7_blame h_3) lk_X7_76 (q0 := 0) rfl rfl rfl hl.1 (rest := []) rfl (Nat.le_of_ble_eq_true rfl) ⟨by decide, by decide⟩ dX7_isNewName_24 ⟨Nat.zero_le _, Nat.zero_le _⟩) (fun H locs hw => ?_)
      refine lv_if_eq (tgt := 34) hx hb dX7_isNewName_27 (by decide) (fun h_6 => ?_) (fun h_6 => ?_)
      · replace hf := tx_pos hf h_6
        refine lv_iconst (v := 0) hx hb dX7_isNewName_34 (by decide) ?_
        obtain ⟨e0, e1⟩ := tx_in2 hf
        rw [← e0, ← e1]
        exact tx_zret S hr hlk (by decide) hw dX7_isNewName_35
      · replace hf := tx_neg hf h_6
        exact J30 hf hw (lv_sub hl [] rfl)
  · replace hf := tx_neg hf h_1
    refine lv_aload_n hx hb dX7_isNewName_11 rfl (lv_at hl 0 rfl) ?_
    refine lv_iconst (v := 1) hx hb dX7_isNewName_12 (by decide) ?_
    obtain ⟨r_8, u_T_9, h_7, hf⟩ := tx_b2_e hf
    refine tx_ci hw (tx_runV S hE hw (c_X7_blame h_7) lk_X7_76 (q0 := 0) rfl rfl rfl hl.1 (rest := []) rfl (Nat.le_of_ble_eq_true rfl) ⟨by decide, by decide⟩ dX7_isNewName_13 ⟨Nat.zero_le _, Nat.zero_le _⟩) (fun H locs hw => ?_)
    obtain ⟨h_10, hf⟩ := tx_bz_e hf
    obtain ⟨e0, e1⟩ := tx_in2 hf
    rw [← e0, ← e1]
    exact tx_zret S hr hlk h_10 hw dX7_isNewName_16
def f_X7_takeNumber_J39 (fu : Nat) (u_P : S32) (u_T : S32) (u_K : S32) : Option (Int32 × S32 × S32) := tx_b2 (f_X7_blame fu u_K u_T (2 : Int32)) fun (r_12 : Int32) (u_T_13 : S32) => tx_bz r_12 <| some (r_12, u_T_13, u_K)
def f_X7_takeNumber (fu : Nat) (u_P : S32) (u_T : S32) (u_K : S32) (x1 : Int32) (x2 : Int32) : Option (Int32 × S32 × S32) := if (u_K 0 4) = (2 : Int32) then (if (u_K 0 5) < x1 then (f_X7_takeNumber_J39 fu u_P u_T u_K) else (if (u_K 0 5) ≤ x2 then (tx_let (up2 u_T 0 5 (u_K 0 5)) fun (u_T_4 : S32) => tx_b1 (f_X8_advance fu u_P u_K) fun (u_K_6 : S32) => some ((1 : Int32), u_T_4, u_K_6)) else (f_X7_takeNumber_J39 fu u_P u_T u_K))) else (tx_b2 (f_X7_blame fu u_K u_T (1 : Int32)) fun (r_8 : Int32) (u_T_9 : S32) => tx_bz r_8 <| some (r_8, u_T_9, u_K))
set_option maxHeartbeats 4000000 in
set_option maxRecDepth 100000 in
theorem c_X7_takeNumber {l : Launch} {g : GG} {A : Nat → Prop} {X : va_W} {fu : Nat} {a_T a_K a_P : Nat → Nat} {p_T_1 p_T_4 : Nat} {u_T : S32} {u_K : S32} {u_P : S32} {x1 : Int32} {x2 : Int32} {r : Int32} {zu_T : S32} {zu_K : S32} (hf : f_X7_takeNumber fu u_P u_T u_K x1 x2 = some (r, zu_T, zu_K)) : MI l yX7_takeNumber cX7_takeNumber 3 (some .boolean) 3 g A (cl_X7 g a_T (a_K 0) p_T_1 p_T_4 u_T ++ (cl_X8 g a_K (a_P 0) u_K ++ (cl_X6 g a_P u_P ++ X))) [.ref (a_T 0), .int x1, .int x2] r (cl_X7 g a_T (a_K 0) p_T_1 p_T_4 zu_T ++ (cl_X8 g a_K (a_P 0) zu_K ++ (cl_X6 g a_P u_P ++ X))) := by
  refine tx_start (av := [.ref (a_T 0), .int x1, .int x2]) (by decide) (Nat.le_of_ble_eq_true rfl) ?_
  intro p e s m below meth c ls S hr hlk hE hw hl
  have S : CallFix p m c cX7_takeNumber 3 s (List.toArray [.ref (a_T 0), .int x1, .int x2]) (Cond.code yX7_takeNumber cX7_takeNumber 3 (some .boolean) :: allW) RX7 := S
  have hx := S.1
  have hb := S.2.1
  have hown := S.2.2.2.1
  have hts : ∀ w ∈ allW, w.before (List.toArray [.ref (a_T 0), .int x1, .int x2]) s = true := fun w h => S.2.2.2.2 w (List.mem_cons_of_mem _ h)
  have hl : lv_has ls 3 [(0, .ref (a_T 0)), (1, .int x1), (2, .int x2)] := hl
  have J39 : ∀ {u_T : S32} {u_K : S32} {H : Heap} {locs : List Loc} {ls : Array Slot}, f_X7_takeNumber_J39 fu u_P u_T u_K = some (r, zu_T, zu_K) → WD g A s.heap (cl_X7 g a_T (a_K 0) p_T_1 p_T_4 u_T ++ (cl_X8 g a_K (a_P 0) u_K ++ (cl_X6 g a_P u_P ++ X))) H locs → lv_has ls 3 [(0, .ref (a_T 0))] → W p l e (rmH 3) s m (List.toArray [.ref (a_T 0), .int x1, .int x2]) below meth c H locs 0 0 (MQ below (va_Qi (fun r2 (_ : Unit) => r2 = r) (fun _ t => POST g A (cl_X7 g a_T (a_K 0) p_T_1 p_T_4 zu_T ++ (cl_X8 g a_K (a_P 0) zu_K ++ (cl_X6 g a_P u_P ++ X))) t) A) (List.toArray [.ref (a_T 0), .int x1, .int x2]) s 0 0 A) (F0 m 39 ls []) := by
    intro u_T u_K H locs ls hf hw hl
    unfold f_X7_takeNumber_J39 at hf
    refine lv_aload_n hx hb dX7_takeNumber_39 rfl (lv_at hl 0 rfl) ?_
    refine lv_iconst (v := 2) hx hb dX7_takeNumber_40 (by decide) ?_
    obtain ⟨r_12, u_T_13, h_11, hf⟩ := tx_b2_e hf
    refine tx_ci hw (tx_runV S hE hw (c_X7_blame h_11) lk_X7_76 (q0 := 0) rfl rfl rfl hl.1 (rest := []) rfl (Nat.le_of_ble_eq_true rfl) ⟨by decide, by decide⟩ dX7_takeNumber_41 ⟨Nat.zero_le _, Nat.zero_le _⟩) (fun H locs hw => ?_)
    obtain ⟨h_14, hf⟩ := tx_bz_e hf
    obtain ⟨e0, e1, e2⟩ := tx_in3 hf
    rw [← e0, ← e1, ← e2]
    exact tx_zret S hr hlk h_14 hw dX7_takeNumber_44
  unfold f_X7_takeNumber at hf
  refine lv_aload_n hx hb dX7_takeNumber_0 rfl (lv_at hl 0 rfl) ?_
  refine gf_X7_23 S hE hw 0 rfl rfl dX7_takeNumber_1 ?_
  refine gf_X7_58 S hE hw 1 rfl rfl dX7_takeNumber_4 ?_
  refine lv_iconst (v := 2) hx hb dX7_takeNumber_7 (by decide) ?_
  refine lv_icmp_eq (tgt := 17) hx hb dX7_takeNumber_8 (by decide) (fun h_1 => ?_) (fun h_1 => ?_)
  · replace hf := tx_pos hf h_1
    refine lv_aload_n hx hb dX7_takeNumber_17 rfl (lv_at hl 0 rfl) ?_
    refine gf_X7_23 S hE hw 0 rfl rfl dX7_takeNumber_18 ?_
    refine gf_X7_82 S hE hw 1 rfl rfl dX7_takeNumber_21 ?_
    refine lv_iload_n hx hb dX7_takeNumber_24 rfl (lv_at hl 1 rfl) ?_
    refine lv_icmp_lt (tgt := 39) hx hb dX7_takeNumber_25 (by decide) (fun h_2 => ?_) (fun h_2 => ?_)
    · replace hf := tx_pos hf h_2
      exact J39 hf hw (lv_sub hl [0] rfl)
    · replace hf := tx_neg hf h_2
      refine lv_aload_n hx hb dX7_takeNumber_28 rfl (lv_at hl 0 rfl) ?_
      refine gf_X7_23 S hE hw 0 rfl rfl dX7_takeNumber_29 ?_
      refine gf_X7_82 S hE hw 1 rfl rfl dX7_takeNumber_32 ?_
      refine lv_iload_n hx hb dX7_takeNumber_35 rfl (lv_at hl 2 rfl) ?_
      refine lv_icmp_le (tgt := 45) hx hb dX7_takeNumber_36 (by decide) (fun h_3 => ?_) (fun h_3 => ?_)
      · replace hf := tx_pos hf h_3
        refine lv_aload_n hx hb dX7_takeNumber_45 rfl (lv_at hl 0 rfl) ?_
        refine lv_aload_n hx hb dX7_takeNumber_46 rfl (lv_at hl 0 rfl) ?_
        refine gf_X7_23 S hE hw 0 rfl rfl dX7_takeNumber_47 ?_
        refine gf_X7_82 S hE hw 1 rfl rfl dX7_takeNumber_50 ?_
        obtain ⟨u_T_4, eu_T_4⟩ : ∃ z : S32, z = up2 u_T 0 5 (u_K 0 5) := ⟨_, rfl⟩
        replace hf := tx_let_e hf eu_T_4
        refine pf_X7_127 (ws' := cl_X7 g a_T (a_K 0) p_T_1 p_T_4 u_T_4 ++ (cl_X8 g a_K (a_P 0) u_K ++ (cl_X6 g a_P u_P ++ X))) S hE hw rfl rfl 0 rfl (Nat.le_of_ble_eq_true rfl) (by rw [eu_T_4]; rfl) dX7_takeNumber_53 (fun H locs hw => ?_)
        refine lv_aload_n hx hb dX7_takeNumber_56 rfl (lv_at hl 0 rfl) ?_
        refine gf_X7_23 S hE hw 0 rfl rfl dX7_takeNumber_57 ?_
        have hw := hw.u2
        have hw := hw.u2
        obtain ⟨u_K_6, h_5, hf⟩ := tx_b1_e hf
        refine tx_cv hw (tx_runN S hE hw (c_X8_advance h_5) lk_X7_79 (q0 := 0) rfl rfl rfl hl.1 (rest := []) rfl (Nat.le_of_ble_eq_true rfl) ⟨by decide, by decide⟩ dX7_takeNumber_60 ⟨Nat.zero_le _, Nat.zero_le _⟩) (fun H locs hw => ?_)
        refine lv_iconst (v := 1) hx hb dX7_takeNumber_63 (by decide) ?_
        have hw := hw.u1
        have hw := hw.u1
        have hw := hw.u2
        obtain ⟨e0, e1, e2⟩ := tx_in3 hf
        rw [← e0, ← e1, ← e2]
        exact tx_zret S hr hlk (by decide) hw dX7_takeNumber_64
      · replace hf := tx_neg hf h_3
        exact J39 hf hw (lv_sub hl [0] rfl)
  · replace hf := tx_neg hf h_1
    refine lv_aload_n hx hb dX7_takeNumber_11 rfl (lv_at hl 0 rfl) ?_
    refine lv_iconst (v := 1) hx hb dX7_takeNumber_12 (by decide) ?_
    obtain ⟨r_8, u_T_9, h_7, hf⟩ := tx_b2_e hf
    refine tx_ci hw (tx_runV S hE hw (c_X7_blame h_7) lk_X7_76 (q0 := 0) rfl rfl rfl hl.1 (rest := []) rfl (Nat.le_of_ble_eq_true rfl) ⟨by decide, by decide⟩ dX7_takeNumber_13 ⟨Nat.zero_le _, Nat.zero_le _⟩) (fun H locs hw => ?_)
    obtain ⟨h_10, hf⟩ := tx_bz_e hf
    obtain ⟨e0, e1, e2⟩ := tx_in3 hf
    rw [← e0, ← e1, ← e2]
    exact tx_zret S hr hlk h_10 hw dX7_takeNumber_16
def f_X7_takeMan_J18 (fu : Nat) (u_P : S32) (u_T : S32) (u_B : S32) (u_K : S32) : Option (Int32 × S32 × S32 × S32) := tx_b2 (f_X7_blame fu u_K u_T (2 : Int32)) fun (r_32 : Int32) (u_T_33 : S32) => tx_bz r_32 <| some (r_32, u_T_33, u_B, u_K)
def f_X7_takeMan (fu : Nat) (u_P : S32) (u_T : S32) (u_B : S32) (u_K : S32) : Option (Int32 × S32 × S32 × S32) := tx_let (u_B 0 1) fun (y_1 : Int32) => if y_1 < (0 : Int32) then (f_X7_takeMan_J18 fu u_P u_T u_B u_K) else (if y_1 < (6 : Int32) then (tx_b1 (f_X8_advance fu u_P u_K) fun (u_K_5 : S32) => tx_b1 (f_X0_manNamed fu u_B (u_K_5 0 5)) fun (r_7 : Int32) => tx_b2 (f_X7_isNewName fu u_K_5 u_T r_7) fun (r_9 : Int32) (u_T_10 : S32) => if r_9 = (0 : Int32) then (some ((0 : Int32), u_T_10, u_B, u_K_5)) else (tx_ck y_1 6 <| tx_let (up2 u_B 3 y_1.toNatClampNeg (u_K_5 0 5)) fun (u_B_13 : S32) => tx_b1 (f_X8_advance fu u_P u_K_5) fun (u_K_15 : S32) => tx_b3 (f_X7_takeNumber fu u_P u_T_10 u_K_15 (0 : Int32) (999 : Int32)) fun (r_17 : Int32) (u_T_18 : S32) (u_K_19 : S32) => if r_17 = (0 : Int32) then (some ((0 : Int32), u_T_18, u_B_13, u_K_19)) else (tx_ck y_1 6 <| tx_let (up2 u_B_13 4 y_1.toNatClampNeg (u_T_18 0 5)) fun (u_B_22 : S32) => tx_b3 (f_X7_takeNumber fu u_P u_T_18 u_K_19 (0 : Int32) (9 : Int32)) fun (r_24 : Int32) (u_T_25 : S32) (u_K_26 : S32) => if r_24 = (0 : Int32) then (some ((0 : Int32), u_T_25, u_B_22, u_K_26)) else (tx_ck y_1 6 <| tx_let (up2 u_B_22 5 y_1.toNatClampNeg (u_T_25 0 5)) fun (u_B_29 : S32) => tx_let (up2 u_B_29 0 1 ((u_B_29 0 1) + (1 : Int32))) fun (u_B_30 : S32) => some ((1 : Int32), u_T_25, u_B_30, u_K_26))))) else (f_X7_takeMan_J18 fu u_P u_T u_B u_K))
set_option maxHeartbeats 4000000 in
set_option maxRecDepth 100000 in
theorem c_X7_takeMan {l : Launch} {g : GG} {A : Nat → Prop} {X : va_W} {fu : Nat} {a_T a_B a_K a_P : Nat → Nat} {p_T_1 p_B_17 : Nat} {u_T : S32} {u_B : S32} {u_K : S32} {u_P : S32} {r : Int32} {zu_T : S32} {zu_B : S32} {zu_K : S32} (hf : f_X7_takeMan fu u_P u_T u_B u_K = some (r, zu_T, zu_B, zu_K)) : MI l yX7_takeMan cX7_takeMan 2 (some .boolean) 4 g A (cl_X7 g a_T (a_K 0) p_T_1 (a_B 0) u_T ++ (cl_X0 g a_B p_B_17 u_B ++ (cl_X8 g a_K (a_P 0) u_K ++ (cl_X6 g a_P u_P ++ X)))) [.ref (a_T 0)] r (cl_X7 g a_T (a_K 0) p_T_1 (a_B 0) zu_T ++ (cl_X0 g a_B p_B_17 zu_B ++ (cl_X8 g a_K (a_P 0) zu_K ++ (cl_X6 g a_P u_P ++ X)))) := by
  refine tx_start (av := [.ref (a_T 0)]) (by decide) (Nat.le_of_ble_eq_true rfl) ?_
  intro p e s m below meth c ls S hr hlk hE hw hl
  have S : CallFix p m c cX7_takeMan 2 s (List.toArray [.ref (a_T 0)]) (Cond.code yX7_takeMan cX7_takeMan 2 (some .boolean) :: allW) RX7 := S
  have hx := S.1
  have hb := S.2.1
  have hown := S.2.2.2.1
  have hts : ∀ w ∈ allW, w.before (List.toArray [.ref (a_T 0)]) s = true := fun w h => S.2.2.2.2 w (List.mem_cons_of_mem _ h)
  have hl : lv_has ls 2 [(0, .ref (a_T 0))] := hl
  have J18 : ∀ {u_T : S32} {u_B : S32} {u_K : S32} {H : Heap} {locs : List Loc} {ls : Array Slot}, f_X7_takeMan_J18 fu u_P u_T u_B u_K = some (r, zu_T, zu_B, zu_K) → WD g A s.heap (cl_X7 g a_T (a_K 0) p_T_1 (a_B 0) u_T ++ (cl_X0 g a_B p_B_17 u_B ++ (cl_X8 g a_K (a_P 0) u_K ++ (cl_X6 g a_P u_P ++ X)))) H locs → lv_has ls 2 [(0, .ref (a_T 0))] → W p l e (rmH 4) s m (List.toArray [.ref (a_T 0)]) below meth c H locs 0 0 (MQ below (va_Qi (fun r2 (_ : Unit) => r2 = r) (fun _ t => POST g A (cl_X7 g a_T (a_K 0) p_T_1 (a_B 0) zu_T ++ (cl_X0 g a_B p_B_17 zu_B ++ (cl_X8 g a_K (a_P 0) zu_K ++ (cl_X6 g a_P u_P ++ X)))) t) A) (List.toArray [.ref (a_T 0)]) s 0 0 A) (F0 m 18 ls []) := by
    intro u_T u_B u_K H locs ls hf hw hl
    unfold f_X7_takeMan_J18 at hf
    refine lv_aload_n hx hb dX7_takeMan_18 rfl (lv_at hl 0 rfl) ?_
    refine lv_iconst (v := 2) hx hb dX7_takeMan_19 (by decide) ?_
    have hw := hw.u2
    have hw := hw.u1
    obtain ⟨r_32, u_T_33, h_31, hf⟩ := tx_b2_e hf
    refine tx_ci hw (tx_runV S hE hw (c_X7_blame h_31) lk_X7_76 (q0 := 0) rfl rfl rfl hl.1 (rest := []) rfl (Nat.le_of_ble_eq_true rfl) ⟨by decide, by decide⟩ dX7_takeMan_20 ⟨Nat.zero_le _, Nat.zero_le _⟩) (fun H locs hw => ?_)
    have hw := hw.u3
    have hw := hw.u2
    have hw := hw.u3
    have hw := hw.u3
    obtain ⟨h_34, hf⟩ := tx_bz_e hf
    obtain ⟨e0, e1, e2, e3⟩ := tx_in4 hf
    rw [← e0, ← e1, ← e2, ← e3]
    exact tx_zret S hr hlk h_34 hw dX7_takeMan_23
  unfold f_X7_takeMan at hf
  refine lv_aload_n hx hb dX7_takeMan_0 rfl (lv_at hl 0 rfl) ?_
  refine gf_X7_42 S hE hw 0 rfl rfl dX7_takeMan_1 ?_
  refine gf_X7_106 S hE hw 1 rfl rfl dX7_takeMan_4 ?_
  refine lv_topi (fun y_1 ey_1 => ?_)
  replace hf := tx_let_e hf ey_1
  refine lv_istore_n (lv' := [(1, .int y_1), (0, .ref (a_T 0))]) hx hb dX7_takeMan_7 rfl hl (by decide) rfl (fun ls hl => ?_)
  refine lv_iload_n hx hb dX7_takeMan_8 rfl (lv_at hl 0 rfl) ?_
  refine lv_if_lt (tgt := 18) hx hb dX7_takeMan_9 (by decide) (fun h_2 => ?_) (fun h_2 => ?_)
  · replace hf := tx_pos hf h_2
    exact J18 hf hw (lv_sub hl [1] rfl)
  · replace hf := tx_neg hf h_2
    refine lv_iload_n hx hb dX7_takeMan_12 rfl (lv_at hl 0 rfl) ?_
    refine lv_bipush (v := 6) hx hb dX7_takeMan_13 (by decide) ?_
    refine lv_icmp_lt (tgt := 24) hx hb dX7_takeMan_15 (by decide) (fun h_3 => ?_) (fun h_3 => ?_)
    · replace hf := tx_pos hf h_3
      refine lv_aload_n hx hb dX7_takeMan_24 rfl (lv_at hl 1 rfl) ?_
      refine gf_X7_23 S hE hw 0 rfl rfl dX7_takeMan_25 ?_
      have hw := hw.u3
      have hw := hw.u3
      obtain ⟨u_K_5, h_4, hf⟩ := tx_b1_e hf
      refine tx_cv hw (tx_runN S hE hw (c_X8_advance h_4) lk_X7_79 (q0 := 0) rfl rfl rfl hl.1 (rest := []) rfl (Nat.le_of_ble_eq_true rfl) ⟨by decide, by decide⟩ dX7_takeMan_28 ⟨Nat.zero_le _, Nat.zero_le _⟩) (fun H locs hw => ?_)
      refine lv_aload_n hx hb dX7_takeMan_31 rfl (lv_at hl 1 rfl) ?_
      refine lv_aload_n hx hb dX7_takeMan_32 rfl (lv_at hl 1 rfl) ?_
      refine gf_X7_42 S hE hw 3 rfl rfl dX7_takeMan_33 ?_
      refine lv_aload_n hx hb dX7_takeMan_36 rfl (lv_at hl 1 rfl) ?_
      refine gf_X7_23 S hE hw 3 rfl rfl dX7_takeMan_37 ?_
      refine gf_X7_82 S hE hw 0 rfl rfl dX7_takeMan_40 ?_
      have hw := hw.u3
      obtain ⟨r_7, h_6, hf⟩ := tx_b1_e hf
      refine tx_ci hw (tx_runN S hE hw (c_X0_manNamed h_6) lk_X7_109 (q0 := 0) rfl rfl rfl hl.1 (rest := [.ref (a_T 0)]) rfl (Nat.le_of_ble_eq_true rfl) ⟨by decide, by decide⟩ dX7_takeMan_43 ⟨Nat.zero_le _, Nat.zero_le _⟩) (fun H locs hw => ?_)
      have hw := hw.u1
      have hw := hw.u3
      obtain ⟨r_9, u_T_10, h_8, hf⟩ := tx_b2_e hf
      refine tx_ci hw (tx_runV S hE hw (c_X7_isNewName h_8) lk_X7_113 (q0 := 0) rfl rfl rfl hl.1 (rest := []) rfl (Nat.le_of_ble_eq_true rfl) ⟨by decide, by decide⟩ dX7_takeMan_46 ⟨Nat.zero_le _, Nat.zero_le _⟩) (fun H locs hw => ?_)
      refine lv_if_ne (tgt := 54) hx hb dX7_takeMan_49 (by decide) (fun h_11 => ?_) (fun h_11 => ?_)
      · replace hf := tx_neg hf h_11
        refine lv_aload_n hx hb dX7_takeMan_54 rfl (lv_at hl 1 rfl) ?_
        refine gf_X7_42 S hE hw 0 rfl rfl dX7_takeMan_55 ?_
        refine gf_X7_116 S hE hw 2 rfl rfl dX7_takeMan_58 ?_
        refine lv_iload_n hx hb dX7_takeMan_61 rfl (lv_at hl 0 rfl) ?_
        refine lv_aload_n hx hb dX7_takeMan_62 rfl (lv_at hl 1 rfl) ?_
        refine gf_X7_23 S hE hw 0 rfl rfl dX7_takeMan_63 ?_
        refine gf_X7_82 S hE hw 1 rfl rfl dX7_takeMan_66 ?_
        obtain ⟨h_12, hf⟩ := tx_ck_e hf
        obtain ⟨u_B_13, eu_B_13⟩ : ∃ z : S32, z = up2 u_B 3 y_1.toNatClampNeg (u_K_5 0 5) := ⟨_, rfl⟩
        replace hf := tx_let_e hf eu_B_13
        refine tx_iast (ws' := cl_X7 g a_T (a_K 0) p_T_1 (a_B 0) u_T_10 ++ (cl_X8 g a_K (a_P 0) u_K_5 ++ (cl_X0 g a_B p_B_17 u_B_13 ++ (cl_X6 g a_P u_P ++ X)))) S hE hw 3 rfl h_12 (by rw [eu_B_13]; rfl) dX7_takeMan_69 (fun H locs hw => ?_)
        refine lv_aload_n hx hb dX7_takeMan_70 rfl (lv_at hl 1 rfl) ?_
        refine gf_X7_23 S hE hw 0 rfl rfl dX7_takeMan_71 ?_
        have hw := hw.u3
        have hw := hw.u2
        obtain ⟨u_K_15, h_14, hf⟩ := tx_b1_e hf
        refine tx_cv hw (tx_runN S hE hw (c_X8_advance h_14) lk_X7_79 (q0 := 0) rfl rfl rfl hl.1 (rest := []) rfl (Nat.le_of_ble_eq_true rfl) ⟨by decide, by decide⟩ dX7_takeMan_74 ⟨Nat.zero_le _, Nat.zero_le _⟩) (fun H locs hw => ?_)
        refine lv_aload_n hx hb dX7_takeMan_77 rfl (lv_at hl 1 rfl) ?_
        refine lv_iconst (v := 0) hx hb dX7_takeMan_78 (by decide) ?_
        refine lv_sipush (v := 999) hx hb dX7_takeMan_79 (by decide) ?_
        have hw := hw.u1
        have hw := hw.u1
        have hw := hw.u2
        obtain ⟨r_17, u_T_18, u_K_19, h_16, hf⟩ := tx_b3_e hf
        refine tx_ci hw (tx_runV S hE hw (c_X7_takeNumber h_16) lk_X7_120 (q0 := 0) rfl rfl rfl hl.1 (rest := []) rfl (Nat.le_of_ble_eq_true rfl) ⟨by decide, by decide⟩ dX7_takeMan_82 ⟨Nat.zero_le _, Nat.zero_le _⟩) (fun H locs hw => ?_)
        refine lv_if_ne (tgt := 90) hx hb dX7_takeMan_85 (by decide) (fun h_20 => ?_) (fun h_20 => ?_)
        · replace hf := tx_neg hf h_20
          refine lv_aload_n hx hb dX7_takeMan_90 rfl (lv_at hl 1 rfl) ?_
          refine gf_X7_42 S hE hw 0 rfl rfl dX7_takeMan_91 ?_
          refine gf_X7_124 S hE hw 4 rfl rfl dX7_takeMan_94 ?_
          refine lv_iload_n hx hb dX7_takeMan_97 rfl (lv_at hl 0 rfl) ?_
          refine lv_aload_n hx hb dX7_takeMan_98 rfl (lv_at hl 1 rfl) ?_
          refine gf_X7_127 S hE hw 0 rfl rfl dX7_takeMan_99 ?_
          obtain ⟨h_21, hf⟩ := tx_ck_e hf
          obtain ⟨u_B_22, eu_B_22⟩ : ∃ z : S32, z = up2 u_B_13 4 y_1.toNatClampNeg (u_T_18 0 5) := ⟨_, rfl⟩
          replace hf := tx_let_e hf eu_B_22
          refine tx_iast (ws' := cl_X7 g a_T (a_K 0) p_T_1 (a_B 0) u_T_18 ++ (cl_X8 g a_K (a_P 0) u_K_19 ++ (cl_X6 g a_P u_P ++ (cl_X0 g a_B p_B_17 u_B_22 ++ X)))) S hE hw 6 rfl h_21 (by rw [eu_B_22]; rfl) dX7_takeMan_102 (fun H locs hw => ?_)
          refine lv_aload_n hx hb dX7_takeMan_103 rfl (lv_at hl 1 rfl) ?_
          refine lv_iconst (v := 0) hx hb dX7_takeMan_104 (by decide) ?_
          refine lv_bipush (v := 9) hx hb dX7_takeMan_105 (by decide) ?_
          obtain ⟨r_24, u_T_25, u_K_26, h_23, hf⟩ := tx_b3_e hf
          refine tx_ci hw (tx_runV S hE hw (c_X7_takeNumber h_23) lk_X7_120 (q0 := 0) rfl rfl rfl hl.1 (rest := []) rfl (Nat.le_of_ble_eq_true rfl) ⟨by decide, by decide⟩ dX7_takeMan_107 ⟨Nat.zero_le _, Nat.zero_le _⟩) (fun H locs hw => ?_)
          refine lv_if_ne (tgt := 115) hx hb dX7_takeMan_110 (by decide) (fun h_27 => ?_) (fun h_27 => ?_)
          · replace hf := tx_neg hf h_27
            refine lv_aload_n hx hb dX7_takeMan_115 rfl (lv_at hl 1 rfl) ?_
            refine gf_X7_42 S hE hw 0 rfl rfl dX7_takeMan_116 ?_
            refine gf_X7_130 S hE hw 4 rfl rfl dX7_takeMan_119 ?_
            refine lv_iload_n hx hb dX7_takeMan_122 rfl (lv_at hl 0 rfl) ?_
            refine lv_aload_n hx hb dX7_takeMan_123 rfl (lv_at hl 1 rfl) ?_
            refine gf_X7_127 S hE hw 0 rfl rfl dX7_takeMan_124 ?_
            obtain ⟨h_28, hf⟩ := tx_ck_e hf
            obtain ⟨u_B_29, eu_B_29⟩ : ∃ z : S32, z = up2 u_B_22 5 y_1.toNatClampNeg (u_T_25 0 5) := ⟨_, rfl⟩
            replace hf := tx_let_e hf eu_B_29
            refine tx_iast (ws' := cl_X7 g a_T (a_K 0) p_T_1 (a_B 0) u_T_25 ++ (cl_X8 g a_K (a_P 0) u_K_26 ++ (cl_X6 g a_P u_P ++ (cl_X0 g a_B p_B_17 u_B_29 ++ X)))) S hE hw 7 rfl h_28 (by rw [eu_B_29]; rfl) dX7_takeMan_127 (fun H locs hw => ?_)
            refine lv_aload_n hx hb dX7_takeMan_128 rfl (lv_at hl 1 rfl) ?_
            refine gf_X7_42 S hE hw 0 rfl rfl dX7_takeMan_129 ?_
            refine lv_dup hx hb dX7_takeMan_132 rfl ?_
            refine gf_X7_106 S hE hw 4 rfl rfl dX7_takeMan_133 ?_
            refine lv_iconst (v := 1) hx hb dX7_takeMan_136 (by decide) ?_
            refine lv_iadd hx hb dX7_takeMan_137 ?_
            obtain ⟨u_B_30, eu_B_30⟩ : ∃ z : S32, z = up2 u_B_29 0 1 ((u_B_29 0 1) + (1 : Int32)) := ⟨_, rfl⟩
            replace hf := tx_let_e hf eu_B_30
            refine pf_X7_106 (ws' := cl_X7 g a_T (a_K 0) p_T_1 (a_B 0) u_T_25 ++ (cl_X8 g a_K (a_P 0) u_K_26 ++ (cl_X6 g a_P u_P ++ (cl_X0 g a_B p_B_17 u_B_30 ++ X)))) S hE hw rfl rfl 4 rfl (Nat.le_of_ble_eq_true rfl) (by rw [eu_B_30]; rfl) dX7_takeMan_138 (fun H locs hw => ?_)
            refine lv_iconst (v := 1) hx hb dX7_takeMan_141 (by decide) ?_
            have hw := hw.u2
            have hw := hw.u2
            have hw := hw.u3
            have hw := hw.u3
            obtain ⟨e0, e1, e2, e3⟩ := tx_in4 hf
            rw [← e0, ← e1, ← e2, ← e3]
            exact tx_zret S hr hlk (by decide) hw dX7_takeMan_142
          · replace hf := tx_pos hf h_27
            refine lv_iconst (v := 0) hx hb dX7_takeMan_113 (by decide) ?_
            have hw := hw.u2
            have hw := hw.u2
            have hw := hw.u3
            have hw := hw.u3
            obtain ⟨e0, e1, e2, e3⟩ := tx_in4 hf
            rw [← e0, ← e1, ← e2, ← e3]
            exact tx_zret S hr hlk (by decide) hw dX7_takeMan_114
        · replace hf := tx_pos hf h_20
          refine lv_iconst (v := 0) hx hb dX7_takeMan_88 (by decide) ?_
          have hw := hw.u2
          have hw := hw.u2
          have hw := hw.u3
          have hw := hw.u3
          obtain ⟨e0, e1, e2, e3⟩ := tx_in4 hf
          rw [← e0, ← e1, ← e2, ← e3]
          exact tx_zret S hr hlk (by decide) hw dX7_takeMan_89
      · replace hf := tx_pos hf h_11
        refine lv_iconst (v := 0) hx hb dX7_takeMan_52 (by decide) ?_
        have hw := hw.u3
        have hw := hw.u2
        have hw := hw.u3
        have hw := hw.u3
        obtain ⟨e0, e1, e2, e3⟩ := tx_in4 hf
        rw [← e0, ← e1, ← e2, ← e3]
        exact tx_zret S hr hlk (by decide) hw dX7_takeMan_53
    · replace hf := tx_neg hf h_3
      exact J18 hf hw (lv_sub hl [1] rfl)
def f_X7_takeThought_J18 (fu : Nat) (u_P : S32) (u_T : S32) (u_B : S32) (u_K : S32) : Option (Int32 × S32 × S32 × S32) := tx_b2 (f_X7_blame fu u_K u_T (2 : Int32)) fun (r_45 : Int32) (u_T_46 : S32) => tx_bz r_45 <| some (r_45, u_T_46, u_B, u_K)
def f_X7_takeThought (fu : Nat) (u_P : S32) (u_T : S32) (u_B : S32) (u_K : S32) : Option (Int32 × S32 × S32 × S32) := tx_let (u_B 0 5) fun (y_1 : Int32) => if y_1 < (0 : Int32) then (f_X7_takeThought_J18 fu u_P u_T u_B u_K) else (if y_1 < (12 : Int32) then (tx_b1 (f_X8_advance fu u_P u_K) fun (u_K_5 : S32) => if (u_K_5 0 4) = (3 : Int32) then (tx_b1 (f_X0_manNamed fu u_B (u_K_5 0 5)) fun (r_8 : Int32) => if r_8 = (-1 : Int32) then (tx_b2 (f_X7_blame fu u_K_5 u_T (4 : Int32)) fun (r_37 : Int32) (u_T_38 : S32) => tx_bz r_37 <| some (r_37, u_T_38, u_B, u_K_5)) else (tx_ck y_1 12 <| tx_let (up2 u_B 7 y_1.toNatClampNeg r_8) fun (u_B_11 : S32) => tx_b1 (f_X8_advance fu u_P u_K_5) fun (u_K_13 : S32) => tx_b3 (f_X7_takeNumber fu u_P u_T u_K_13 (1 : Int32) (99 : Int32)) fun (r_15 : Int32) (u_T_16 : S32) (u_K_17 : S32) => if r_15 = (0 : Int32) then (some ((0 : Int32), u_T_16, u_B_11, u_K_17)) else (tx_ck y_1 12 <| tx_let (up2 u_B_11 8 y_1.toNatClampNeg (u_T_16 0 5)) fun (u_B_20 : S32) => tx_b3 (f_X7_takeNumber fu u_P u_T_16 u_K_17 (0 : Int32) (99 : Int32)) fun (r_22 : Int32) (u_T_23 : S32) (u_K_24 : S32) => if r_22 = (0 : Int32) then (some ((0 : Int32), u_T_23, u_B_20, u_K_24)) else (tx_ck y_1 12 <| tx_let (up2 u_B_20 9 y_1.toNatClampNeg (u_T_23 0 5)) fun (u_B_27 : S32) => tx_b3 (f_X7_takeNumber fu u_P u_T_23 u_K_24 (0 : Int32) (3 : Int32)) fun (r_29 : Int32) (u_T_30 : S32) (u_K_31 : S32) => if r_29 = (0 : Int32) then (some ((0 : Int32), u_T_30, u_B_27, u_K_31)) else (tx_ck y_1 12 <| tx_let (up2 u_B_27 10 y_1.toNatClampNeg (u_T_30 0 5)) fun (u_B_34 : S32) => tx_let (up2 u_B_34 0 5 ((u_B_34 0 5) + (1 : Int32))) fun (u_B_35 : S32) => some ((1 : Int32), u_T_30, u_B_35, u_K_31)))))) else (tx_b2 (f_X7_blame fu u_K_5 u_T (1 : Int32)) fun (r_41 : Int32) (u_T_42 : S32) => tx_bz r_41 <| some (r_41, u_T_42, u_B, u_K_5))) else (f_X7_takeThought_J18 fu u_P u_T u_B u_K))
set_option maxHeartbeats 4000000 in
set_option maxRecDepth 100000 in
theorem c_X7_takeThought {l : Launch} {g : GG} {A : Nat → Prop} {X : va_W} {fu : Nat} {a_T a_B a_K a_P : Nat → Nat} {p_T_1 p_B_17 : Nat} {u_T : S32} {u_B : S32} {u_K : S32} {u_P : S32} {r : Int32} {zu_T : S32} {zu_B : S32} {zu_K : S32} (hf : f_X7_takeThought fu u_P u_T u_B u_K = some (r, zu_T, zu_B, zu_K)) : MI l yX7_takeThought cX7_takeThought 3 (some .boolean) 4 g A (cl_X7 g a_T (a_K 0) p_T_1 (a_B 0) u_T ++ (cl_X0 g a_B p_B_17 u_B ++ (cl_X8 g a_K (a_P 0) u_K ++ (cl_X6 g a_P u_P ++ X)))) [.ref (a_T 0)] r (cl_X7 g a_T (a_K 0) p_T_1 (a_B 0) zu_T ++ (cl_X0 g a_B p_B_17 zu_B ++ (cl_X8 g a_K (a_P 0) zu_K ++ (cl_X6 g a_P u_P ++ X)))) := by
  refine tx_start (av := [.ref (a_T 0)]) (by decide) (Nat.le_of_ble_eq_true rfl) ?_
  intro p e s m below meth c ls S hr hlk hE hw hl
  have S : CallFix p m c cX7_takeThought 3 s (List.toArray [.ref (a_T 0)]) (Cond.code yX7_takeThought cX7_takeThought 3 (some .boolean) :: allW) RX7 := S
  have hx := S.1
  have hb := S.2.1
  have hown := S.2.2.2.1
  have hts : ∀ w ∈ allW, w.before (List.toArray [.ref (a_T 0)]) s = true := fun w h => S.2.2.2.2 w (List.mem_cons_of_mem _ h)
  have hl : lv_has ls 3 [(0, .ref (a_T 0))] := hl
  have J18 : ∀ {u_T : S32} {u_B : S32} {u_K : S32} {H : Heap} {locs : List Loc} {ls : Array Slot}, f_X7_takeThought_J18 fu u_P u_T u_B u_K = some (r, zu_T, zu_B, zu_K) → WD g A s.heap (cl_X7 g a_T (a_K 0) p_T_1 (a_B 0) u_T ++ (cl_X0 g a_B p_B_17 u_B ++ (cl_X8 g a_K (a_P 0) u_K ++ (cl_X6 g a_P u_P ++ X)))) H locs → lv_has ls 3 [(0, .ref (a_T 0))] → W p l e (rmH 4) s m (List.toArray [.ref (a_T 0)]) below meth c H locs 0 0 (MQ below (va_Qi (fun r2 (_ : Unit) => r2 = r) (fun _ t => POST g A (cl_X7 g a_T (a_K 0) p_T_1 (a_B 0) zu_T ++ (cl_X0 g a_B p_B_17 zu_B ++ (cl_X8 g a_K (a_P 0) zu_K ++ (cl_X6 g a_P u_P ++ X)))) t) A) (List.toArray [.ref (a_T 0)]) s 0 0 A) (F0 m 18 ls []) := by
    intro u_T u_B u_K H locs ls hf hw hl
    unfold f_X7_takeThought_J18 at hf
    refine lv_aload_n hx hb dX7_takeThought_18 rfl (lv_at hl 0 rfl) ?_
    refine lv_iconst (v := 2) hx hb dX7_takeThought_19 (by decide) ?_
    have hw := hw.u2
    have hw := hw.u1
    obtain ⟨r_45, u_T_46, h_44, hf⟩ := tx_b2_e hf
    refine tx_ci hw (tx_runV S hE hw (c_X7_blame h_44) lk_X7_76 (q0 := 0) rfl rfl rfl hl.1 (rest := []) rfl (Nat.le_of_ble_eq_true rfl) ⟨by decide, by decide⟩ dX7_takeThought_20 ⟨Nat.zero_le _, Nat.zero_le _⟩) (fun H locs hw => ?_)
    have hw := hw.u3
    have hw := hw.u2
    have hw := hw.u3
    have hw := hw.u3
    obtain ⟨h_47, hf⟩ := tx_bz_e hf
    obtain ⟨e0, e1, e2, e3⟩ := tx_in4 hf
    rw [← e0, ← e1, ← e2, ← e3]
    exact tx_zret S hr hlk h_47 hw dX7_takeThought_23
  unfold f_X7_takeThought at hf
  refine lv_aload_n hx hb dX7_takeThought_0 rfl (lv_at hl 0 rfl) ?_
  refine gf_X7_42 S hE hw 0 rfl rfl dX7_takeThought_1 ?_
  refine gf_X7_148 S hE hw 1 rfl rfl dX7_takeThought_4 ?_
  refine lv_topi (fun y_1 ey_1 => ?_)
  replace hf := tx_let_e hf ey_1
  refine lv_istore_n (lv' := [(1, .int y_1), (0, .ref (a_T 0))]) hx hb dX7_takeThought_7 rfl hl (by decide) rfl (fun ls hl => ?_)
  refine lv_iload_n hx hb dX7_takeThought_8 rfl (lv_at hl 0 rfl) ?_
  refine lv_if_lt (tgt := 18) hx hb dX7_takeThought_9 (by decide) (fun h_2 => ?_) (fun h_2 => ?_)
  · replace hf := tx_pos hf h_2
    exact J18 hf hw (lv_sub hl [1] rfl)
  · replace hf := tx_neg hf h_2
    refine lv_iload_n hx hb dX7_takeThought_12 rfl (lv_at hl 0 rfl) ?_
    refine lv_bipush (v := 12) hx hb dX7_takeThought_13 (by decide) ?_
    refine lv_icmp_lt (tgt := 24) hx hb dX7_takeThought_15 (by decide) (fun h_3 => ?_) (fun h_3 => ?_)
    · replace hf := tx_pos hf h_3
      refine lv_aload_n hx hb dX7_takeThought_24 rfl (lv_at hl 1 rfl) ?_
      refine gf_X7_23 S hE hw 0 rfl rfl dX7_takeThought_25 ?_
      have hw := hw.u3
      have hw := hw.u3
      obtain ⟨u_K_5, h_4, hf⟩ := tx_b1_e hf
      refine tx_cv hw (tx_runN S hE hw (c_X8_advance h_4) lk_X7_79 (q0 := 0) rfl rfl rfl hl.1 (rest := []) rfl (Nat.le_of_ble_eq_true rfl) ⟨by decide, by decide⟩ dX7_takeThought_28 ⟨Nat.zero_le _, Nat.zero_le _⟩) (fun H locs hw => ?_)
      refine lv_aload_n hx hb dX7_takeThought_31 rfl (lv_at hl 1 rfl) ?_
      refine gf_X7_23 S hE hw 3 rfl rfl dX7_takeThought_32 ?_
      refine gf_X7_58 S hE hw 0 rfl rfl dX7_takeThought_35 ?_
      refine lv_iconst (v := 3) hx hb dX7_takeThought_38 (by decide) ?_
      refine lv_icmp_eq (tgt := 48) hx hb dX7_takeThought_39 (by decide) (fun h_6 => ?_) (fun h_6 => ?_)
      · replace hf := tx_pos hf h_6
        refine lv_aload_n hx hb dX7_takeThought_48 rfl (lv_at hl 1 rfl) ?_
        refine gf_X7_42 S hE hw 3 rfl rfl dX7_takeThought_49 ?_
        refine lv_aload_n hx hb dX7_takeThought_52 rfl (lv_at hl 1 rfl) ?_
        refine gf_X7_23 S hE hw 3 rfl rfl dX7_takeThought_53 ?_
        refine gf_X7_82 S hE hw 0 rfl rfl dX7_takeThought_56 ?_
        have hw := hw.u3
        obtain ⟨r_8, h_7, hf⟩ := tx_b1_e hf
        refine tx_ci hw (tx_runN S hE hw (c_X0_manNamed h_7) lk_X7_109 (q0 := 0) rfl rfl rfl hl.1 (rest := []) rfl (Nat.le_of_ble_eq_true rfl) ⟨by decide, by decide⟩ dX7_takeThought_59 ⟨Nat.zero_le _, Nat.zero_le _⟩) (fun H locs hw => ?_)
        refine lv_istore_n (lv' := [(2, .int r_8), (1, .int y_1), (0, .ref (a_T 0))]) hx hb dX7_takeThought_62 rfl hl (by decide) rfl (fun ls hl => ?_)
        refine lv_iload_n hx hb dX7_takeThought_63 rfl (lv_at hl 0 rfl) ?_
        refine lv_iconst (v := -1) hx hb dX7_takeThought_64 (by decide) ?_
        refine lv_icmp_ne (tgt := 74) hx hb dX7_takeThought_65 (by decide) (fun h_9 => ?_) (fun h_9 => ?_)
        · replace hf := tx_neg hf h_9
          refine lv_aload_n hx hb dX7_takeThought_74 rfl (lv_at hl 2 rfl) ?_
          refine gf_X7_42 S hE hw 14 rfl rfl dX7_takeThought_75 ?_
          refine gf_X7_151 S hE hw 0 rfl rfl dX7_takeThought_78 ?_
          refine lv_iload_n hx hb dX7_takeThought_81 rfl (lv_at hl 1 rfl) ?_
          refine lv_iload_n hx hb dX7_takeThought_82 rfl (lv_at hl 0 rfl) ?_
          obtain ⟨h_10, hf⟩ := tx_ck_e hf
          obtain ⟨u_B_11, eu_B_11⟩ : ∃ z : S32, z = up2 u_B 7 y_1.toNatClampNeg r_8 := ⟨_, rfl⟩
          replace hf := tx_let_e hf eu_B_11
          refine tx_iast (ws' := cl_X0 g a_B p_B_17 u_B_11 ++ (cl_X8 g a_K (a_P 0) u_K_5 ++ (cl_X6 g a_P u_P ++ (cl_X7 g a_T (a_K 0) p_T_1 (a_B 0) u_T ++ X)))) S hE hw 4 rfl h_10 (by rw [eu_B_11]; rfl) dX7_takeThought_83 (fun H locs hw => ?_)
          refine lv_aload_n hx hb dX7_takeThought_84 rfl (lv_at hl 2 rfl) ?_
          refine gf_X7_23 S hE hw 14 rfl rfl dX7_takeThought_85 ?_
          have hw := hw.u2
          have hw := hw.u2
          obtain ⟨u_K_13, h_12, hf⟩ := tx_b1_e hf
          refine tx_cv hw (tx_runN S hE hw (c_X8_advance h_12) lk_X7_79 (q0 := 0) rfl rfl rfl hl.1 (rest := []) rfl (Nat.le_of_ble_eq_true rfl) ⟨by decide, by decide⟩ dX7_takeThought_88 ⟨Nat.zero_le _, Nat.zero_le _⟩) (fun H locs hw => ?_)
          refine lv_aload_n hx hb dX7_takeThought_91 rfl (lv_at hl 2 rfl) ?_
          refine lv_iconst (v := 1) hx hb dX7_takeThought_92 (by decide) ?_
          refine lv_bipush (v := 99) hx hb dX7_takeThought_93 (by decide) ?_
          have hw := hw.u1
          have hw := hw.u1
          have hw := hw.u3
          obtain ⟨r_15, u_T_16, u_K_17, h_14, hf⟩ := tx_b3_e hf
          refine tx_ci hw (tx_runV S hE hw (c_X7_takeNumber h_14) lk_X7_120 (q0 := 0) rfl rfl rfl hl.1 (rest := []) rfl (Nat.le_of_ble_eq_true rfl) ⟨by decide, by decide⟩ dX7_takeThought_95 ⟨Nat.zero_le _, Nat.zero_le _⟩) (fun H locs hw => ?_)
          refine lv_if_ne (tgt := 103) hx hb dX7_takeThought_98 (by decide) (fun h_18 => ?_) (fun h_18 => ?_)
          · replace hf := tx_neg hf h_18
            refine lv_aload_n hx hb dX7_takeThought_103 rfl (lv_at hl 2 rfl) ?_
            refine gf_X7_42 S hE hw 0 rfl rfl dX7_takeThought_104 ?_
            refine gf_X7_154 S hE hw 4 rfl rfl dX7_takeThought_107 ?_
            refine lv_iload_n hx hb dX7_takeThought_110 rfl (lv_at hl 1 rfl) ?_
            refine lv_aload_n hx hb dX7_takeThought_111 rfl (lv_at hl 2 rfl) ?_
            refine gf_X7_127 S hE hw 0 rfl rfl dX7_takeThought_112 ?_
            obtain ⟨h_19, hf⟩ := tx_ck_e hf
            obtain ⟨u_B_20, eu_B_20⟩ : ∃ z : S32, z = up2 u_B_11 8 y_1.toNatClampNeg (u_T_16 0 5) := ⟨_, rfl⟩
            replace hf := tx_let_e hf eu_B_20
            refine tx_iast (ws' := cl_X7 g a_T (a_K 0) p_T_1 (a_B 0) u_T_16 ++ (cl_X8 g a_K (a_P 0) u_K_17 ++ (cl_X6 g a_P u_P ++ (cl_X0 g a_B p_B_17 u_B_20 ++ X)))) S hE hw 9 rfl h_19 (by rw [eu_B_20]; rfl) dX7_takeThought_115 (fun H locs hw => ?_)
            refine lv_aload_n hx hb dX7_takeThought_116 rfl (lv_at hl 2 rfl) ?_
            refine lv_iconst (v := 0) hx hb dX7_takeThought_117 (by decide) ?_
            refine lv_bipush (v := 99) hx hb dX7_takeThought_118 (by decide) ?_
            obtain ⟨r_22, u_T_23, u_K_24, h_21, hf⟩ := tx_b3_e hf
            refine tx_ci hw (tx_runV S hE hw (c_X7_takeNumber h_21) lk_X7_120 (q0 := 0) rfl rfl rfl hl.1 (rest := []) rfl (Nat.le_of_ble_eq_true rfl) ⟨by decide, by decide⟩ dX7_takeThought_120 ⟨Nat.zero_le _, Nat.zero_le _⟩) (fun H locs hw => ?_)
            refine lv_if_ne (tgt := 128) hx hb dX7_takeThought_123 (by decide) (fun h_25 => ?_) (fun h_25 => ?_)
            · replace hf := tx_neg hf h_25
              refine lv_aload_n hx hb dX7_takeThought_128 rfl (lv_at hl 2 rfl) ?_
              refine gf_X7_42 S hE hw 0 rfl rfl dX7_takeThought_129 ?_
              refine gf_X7_157 S hE hw 4 rfl rfl dX7_takeThought_132 ?_
              refine lv_iload_n hx hb dX7_takeThought_135 rfl (lv_at hl 1 rfl) ?_
              refine lv_aload_n hx hb dX7_takeThought_136 rfl (lv_at hl 2 rfl) ?_
              refine gf_X7_127 S hE hw 0 rfl rfl dX7_takeThought_137 ?_
              obtain ⟨h_26, hf⟩ := tx_ck_e hf
              obtain ⟨u_B_27, eu_B_27⟩ : ∃ z : S32, z = up2 u_B_20 9 y_1.toNatClampNeg (u_T_23 0 5) := ⟨_, rfl⟩
              replace hf := tx_let_e hf eu_B_27
              refine tx_iast (ws' := cl_X7 g a_T (a_K 0) p_T_1 (a_B 0) u_T_23 ++ (cl_X8 g a_K (a_P 0) u_K_24 ++ (cl_X6 g a_P u_P ++ (cl_X0 g a_B p_B_17 u_B_27 ++ X)))) S hE hw 10 rfl h_26 (by rw [eu_B_27]; rfl) dX7_takeThought_140 (fun H locs hw => ?_)
              refine lv_aload_n hx hb dX7_takeThought_141 rfl (lv_at hl 2 rfl) ?_
              refine lv_iconst (v := 0) hx hb dX7_takeThought_142 (by decide) ?_
              refine lv_iconst (v := 3) hx hb dX7_takeThought_143 (by decide) ?_
              obtain ⟨r_29, u_T_30, u_K_31, h_28, hf⟩ := tx_b3_e hf
              refine tx_ci hw (tx_runV S hE hw (c_X7_takeNumber h_28) lk_X7_120 (q0 := 0) rfl rfl rfl hl.1 (rest := []) rfl (Nat.le_of_ble_eq_true rfl) ⟨by decide, by decide⟩ dX7_takeThought_144 ⟨Nat.zero_le _, Nat.zero_le _⟩) (fun H locs hw => ?_)
              refine lv_if_ne (tgt := 152) hx hb dX7_takeThought_147 (by decide) (fun h_32 => ?_) (fun h_32 => ?_)
              · replace hf := tx_neg hf h_32
                refine lv_aload_n hx hb dX7_takeThought_152 rfl (lv_at hl 2 rfl) ?_
                refine gf_X7_42 S hE hw 0 rfl rfl dX7_takeThought_153 ?_
                refine gf_X7_160 S hE hw 4 rfl rfl dX7_takeThought_156 ?_
                refine lv_iload_n hx hb dX7_takeThought_159 rfl (lv_at hl 1 rfl) ?_
                refine lv_aload_n hx hb dX7_takeThought_160 rfl (lv_at hl 2 rfl) ?_
                refine gf_X7_127 S hE hw 0 rfl rfl dX7_takeThought_161 ?_
                obtain ⟨h_33, hf⟩ := tx_ck_e hf
                obtain ⟨u_B_34, eu_B_34⟩ : ∃ z : S32, z = up2 u_B_27 10 y_1.toNatClampNeg (u_T_30 0 5) := ⟨_, rfl⟩
                replace hf := tx_let_e hf eu_B_34
                refine tx_iast (ws' := cl_X7 g a_T (a_K 0) p_T_1 (a_B 0) u_T_30 ++ (cl_X8 g a_K (a_P 0) u_K_31 ++ (cl_X6 g a_P u_P ++ (cl_X0 g a_B p_B_17 u_B_34 ++ X)))) S hE hw 11 rfl h_33 (by rw [eu_B_34]; rfl) dX7_takeThought_164 (fun H locs hw => ?_)
                refine lv_aload_n hx hb dX7_takeThought_165 rfl (lv_at hl 2 rfl) ?_
                refine gf_X7_42 S hE hw 0 rfl rfl dX7_takeThought_166 ?_
                refine lv_dup hx hb dX7_takeThought_169 rfl ?_
                refine gf_X7_148 S hE hw 4 rfl rfl dX7_takeThought_170 ?_
                refine lv_iconst (v := 1) hx hb dX7_takeThought_173 (by decide) ?_
                refine lv_iadd hx hb dX7_takeThought_174 ?_
                obtain ⟨u_B_35, eu_B_35⟩ : ∃ z : S32, z = up2 u_B_34 0 5 ((u_B_34 0 5) + (1 : Int32)) := ⟨_, rfl⟩
                replace hf := tx_let_e hf eu_B_35
                refine pf_X7_148 (ws' := cl_X7 g a_T (a_K 0) p_T_1 (a_B 0) u_T_30 ++ (cl_X8 g a_K (a_P 0) u_K_31 ++ (cl_X6 g a_P u_P ++ (cl_X0 g a_B p_B_17 u_B_35 ++ X)))) S hE hw rfl rfl 4 rfl (Nat.le_of_ble_eq_true rfl) (by rw [eu_B_35]; rfl) dX7_takeThought_175 (fun H locs hw => ?_)
                refine lv_iconst (v := 1) hx hb dX7_takeThought_178 (by decide) ?_
                have hw := hw.u2
                have hw := hw.u2
                have hw := hw.u3
                have hw := hw.u3
                obtain ⟨e0, e1, e2, e3⟩ := tx_in4 hf
                rw [← e0, ← e1, ← e2, ← e3]
                exact tx_zret S hr hlk (by decide) hw dX7_takeThought_179
              · replace hf := tx_pos hf h_32
                refine lv_iconst (v := 0) hx hb dX7_takeThought_150 (by decide) ?_
                have hw := hw.u2
                have hw := hw.u2
                have hw := hw.u3
                have hw := hw.u3
                obtain ⟨e0, e1, e2, e3⟩ := tx_in4 hf
                rw [← e0, ← e1, ← e2, ← e3]
                exact tx_zret S hr hlk (by decide) hw dX7_takeThought_151
            · replace hf := tx_pos hf h_25
              refine lv_iconst (v := 0) hx hb dX7_takeThought_126 (by decide) ?_
              have hw := hw.u2
              have hw := hw.u2
              have hw := hw.u3
              have hw := hw.u3
              obtain ⟨e0, e1, e2, e3⟩ := tx_in4 hf
              rw [← e0, ← e1, ← e2, ← e3]
              exact tx_zret S hr hlk (by decide) hw dX7_takeThought_127
          · replace hf := tx_pos hf h_18
            refine lv_iconst (v := 0) hx hb dX7_takeThought_101 (by decide) ?_
            have hw := hw.u2
            have hw := hw.u2
            have hw := hw.u3
            have hw := hw.u3
            obtain ⟨e0, e1, e2, e3⟩ := tx_in4 hf
            rw [← e0, ← e1, ← e2, ← e3]
            exact tx_zret S hr hlk (by decide) hw dX7_takeThought_102
        · replace hf := tx_pos hf h_9
          refine lv_aload_n hx hb dX7_takeThought_68 rfl (lv_at hl 2 rfl) ?_
          refine lv_iconst (v := 4) hx hb dX7_takeThought_69 (by decide) ?_
          have hw := hw.u1
          have hw := hw.u3
          obtain ⟨r_37, u_T_38, h_36, hf⟩ := tx_b2_e hf
          refine tx_ci hw (tx_runV S hE hw (c_X7_blame h_36) lk_X7_76 (q0 := 0) rfl rfl rfl hl.1 (rest := []) rfl (Nat.le_of_ble_eq_true rfl) ⟨by decide, by decide⟩ dX7_takeThought_70 ⟨Nat.zero_le _, Nat.zero_le _⟩) (fun H locs hw => ?_)
          have hw := hw.u3
          have hw := hw.u2
          have hw := hw.u3
          have hw := hw.u3
          obtain ⟨h_39, hf⟩ := tx_bz_e hf
          obtain ⟨e0, e1, e2, e3⟩ := tx_in4 hf
          rw [← e0, ← e1, ← e2, ← e3]
          exact tx_zret S hr hlk h_39 hw dX7_takeThought_73
      · replace hf := tx_neg hf h_6
        refine lv_aload_n hx hb dX7_takeThought_42 rfl (lv_at hl 1 rfl) ?_
        refine lv_iconst (v := 1) hx hb dX7_takeThought_43 (by decide) ?_
        have hw := hw.u2
        obtain ⟨r_41, u_T_42, h_40, hf⟩ := tx_b2_e hf
        refine tx_ci hw (tx_runV S hE hw (c_X7_blame h_40) lk_X7_76 (q0 := 0) rfl rfl rfl hl.1 (rest := []) rfl (Nat.le_of_ble_eq_true rfl) ⟨by decide, by decide⟩ dX7_takeThought_44 ⟨Nat.zero_le _, Nat.zero_le _⟩) (fun H locs hw => ?_)
        have hw := hw.u2
        have hw := hw.u2
        have hw := hw.u3
        have hw := hw.u3
        obtain ⟨h_43, hf⟩ := tx_bz_e hf
        obtain ⟨e0, e1, e2, e3⟩ := tx_in4 hf
        rw [← e0, ← e1, ← e2, ← e3]
        exact tx_zret S hr hlk h_43 hw dX7_takeThought_47
    · replace hf := tx_neg hf h_3
      exact J18 hf hw (lv_sub hl [1] rfl)
def f_X0_placeOf_oX0r12_J2 (fu : Nat) (u_B : S32) (K2 : Int32 → Int32 → Int32 → Option (Int32)) (w1 : Int32) (w2 : Int32) (w3 : Int32) : Option (Int32) := if w1 ≤ w3 then (some (-1 : Int32)) else (if (4 : Int32) ≤ w3 then (some (-1 : Int32)) else (tx_ck w3 4 <| if (u_B 12 w3.toNatClampNeg) = w2 then (some w3) else (tx_let (w3 + (1 : Int32)) fun (y_5 : Int32) => K2 w1 w2 y_5)))
def f_X0_placeOf_oX0r12_L2 (fu : Nat) (u_B : S32) : Nat → Int32 → Int32 → Int32 → Option (Int32)
  | 0 => fun _ _ _ => none
  | n + 1 => f_X0_placeOf_oX0r12_J2 fu u_B (f_X0_placeOf_oX0r12_L2 fu u_B n)
def f_X0_placeOf_oX0r12 (fu : Nat) (u_B : S32) (x1 : Int32) (x2 : Int32) : Option (Int32) := f_X0_placeOf_oX0r12_L2 fu u_B fu x1 x2 (0 : Int32)
set_option maxHeartbeats 4000000 in
set_option maxRecDepth 100000 in
theorem c_X0_placeOf_oX0r12 {l : Launch} {g : GG} {A : Nat → Prop} {X : va_W} {fu : Nat} {a_B : Nat → Nat} {p_B_17 : Nat} {u_B : S32} {x1 : Int32} {x2 : Int32} {r : Int32} (hf : f_X0_placeOf_oX0r12 fu u_B x1 x2 = some r) : MI l yX0_placeOf cX0_placeOf 4 (some .int) 0 g A (cl_X0 g a_B p_B_17 u_B ++ X) [.ref (a_B 12), .int x1, .int x2] r (cl_X0 g a_B p_B_17 u_B ++ X) := by
  refine tx_start (av := [.ref (a_B 12), .int x1, .int x2]) (by decide) (Nat.le_of_ble_eq_true rfl) ?_
  intro p e s m below meth c ls S hr hlk hE hw hl
  have S : CallFix p m c cX0_placeOf 4 s (List.toArray [.ref (a_B 12), .int x1, .int x2]) (Cond.code yX0_placeOf cX0_placeOf 4 (some .int) :: allW) RX0 := S
  have hx := S.1
  have hb := S.2.1
  have hown := S.2.2.2.1
  have hts : ∀ w ∈ allW, w.before (List.toArray [.ref (a_B 12), .int x1, .int x2]) s = true := fun w h => S.2.2.2.2 w (List.mem_cons_of_mem _ h)
  have hl : lv_has ls 4 [(0, .ref (a_B 12)), (1, .int x1), (2, .int x2)] := hl
  have J2 : ∀ {K2 : Int32 → Int32 → Int32 → Option (Int32)} (hK2 : ∀ {w1 : Int32} {w2 : Int32} {w3 : Int32} {H : Heap} {locs : List Loc} {ls : Array Slot}, K2 w1 w2 w3 = some r → WD g A s.heap (cl_X0 g a_B p_B_17 u_B ++ X) H locs → lv_has ls 4 [(0, .ref (a_B 12)), (1, .int w1), (2, .int w2), (3, .int w3)] → W p l e (rmH 0) s m (List.toArray [.ref (a_B 12), .int x1, .int x2]) below meth c H locs 0 0 (MQ below (va_Qi (fun r2 (_ : Unit) => r2 = r) (fun _ t => POST g A (cl_X0 g a_B p_B_17 u_B ++ X) t) A) (List.toArray [.ref (a_B 12), .int x1, .int x2]) s 0 0 A) (F0 m 2 ls [])), ∀ {w1 : Int32} {w2 : Int32} {w3 : Int32} {H : Heap} {locs : List Loc} {ls : Array Slot}, f_X0_placeOf_oX0r12_J2 fu u_B K2 w1 w2 w3 = some r → WD g A s.heap (cl_X0 g a_B p_B_17 u_B ++ X) H locs → lv_has ls 4 [(0, .ref (a_B 12)), (1, .int w1), (2, .int w2), (3, .int w3)] → W p l e (rmH 0) s m (List.toArray [.ref (a_B 12), .int x1, .int x2]) below meth c H locs 0 0 (MQ below (va_Qi (fun r2 (_ : Unit) => r2 = r) (fun _ t => POST g A (cl_X0 g a_B p_B_17 u_B ++ X) t) A) (List.toArray [.ref (a_B 12), .int x1, .int x2]) s 0 0 A) (F0 m 2 ls []) := by
    intro K2 hK2 w1 w2 w3 H locs ls hf hw hl
    unfold f_X0_placeOf_oX0r12_J2 at hf
    refine lv_iload_n hx hb dX0_placeOf_2 rfl (lv_at hl 3 rfl) ?_
    refine lv_iload_n hx hb dX0_placeOf_3 rfl (lv_at hl 1 rfl) ?_
    refine lv_icmp_ge (tgt := 28) hx hb dX0_placeOf_4 (by decide) (fun h_1 => ?_) (fun h_1 => ?_)
    · replace hf := tx_pos hf h_1
      refine lv_iconst (v := -1) hx hb dX0_placeOf_28 (by decide) ?_
      obtain e0 := tx_in1 hf
      rw [← e0]
      exact tx_iret S hr hlk hw dX0_placeOf_29
    · replace hf := tx_neg hf h_1
      refine lv_iload_n hx hb dX0_placeOf_7 rfl (lv_at hl 3 rfl) ?_
      refine lv_aload_n hx hb dX0_placeOf_8 rfl (lv_at hl 0 rfl) ?_
      refine tx_alen (v := 4) S hE hw 8 1 rfl rfl rfl dX0_placeOf_9 ?_
      refine lv_icmp_ge (tgt := 28) hx hb dX0_placeOf_10 (by decide) (fun h_2 => ?_) (fun h_2 => ?_)
      · replace hf := tx_pos hf h_2
        refine lv_iconst (v := -1) hx hb dX0_placeOf_28 (by decide) ?_
        obtain e0 := tx_in1 hf
        rw [← e0]
        exact tx_iret S hr hlk hw dX0_placeOf_29
      · replace hf := tx_neg hf h_2
        refine lv_aload_n hx hb dX0_placeOf_13 rfl (lv_at hl 0 rfl) ?_
        refine lv_iload_n hx hb dX0_placeOf_14 rfl (lv_at hl 3 rfl) ?_
        obtain ⟨h_3, hf⟩ := tx_ck_e hf
        refine tx_iald S hE hw 8 rfl h_3 dX0_placeOf_15 ?_
        refine lv_iload_n hx hb dX0_placeOf_16 rfl (lv_at hl 2 rfl) ?_
        refine lv_icmp_ne (tgt := 22) hx hb dX0_placeOf_17 (by decide) (fun h_4 => ?_) (fun h_4 => ?_)
        · replace hf := tx_neg hf h_4
          obtain ⟨y_5, ey_5⟩ : ∃ y : Int32, y = w3 + (1 : Int32) := ⟨_, rfl⟩
          replace hf := tx_let_e hf ey_5
          refine lv_iinc (v := y_5) (lv' := [(3, .int y_5), (0, .ref (a_B 12)), (1, .int w1), (2, .int w2)]) hx hb dX0_placeOf_22 hl (k := 3) rfl (by rw [ey_5]; rfl) (by decide) rfl (fun ls hl => ?_)
          refine lv_goto (tgt := 2) hx hb dX0_placeOf_25 (by decide) ?_
          exact hK2 hf hw (lv_sub hl [1, 2, 3, 0] rfl)
        · replace hf := tx_pos hf h_4
          refine lv_iload_n hx hb dX0_placeOf_20 rfl (lv_at hl 3 rfl) ?_
          obtain e0 := tx_in1 hf
          rw [← e0]
          exact tx_iret S hr hlk hw dX0_placeOf_21
  have L2 : ∀ (n : Nat), ∀ {w1 : Int32} {w2 : Int32} {w3 : Int32} {H : Heap} {locs : List Loc} {ls : Array Slot}, f_X0_placeOf_oX0r12_L2 fu u_B n w1 w2 w3 = some r → WD g A s.heap (cl_X0 g a_B p_B_17 u_B ++ X) H locs → lv_has ls 4 [(0, .ref (a_B 12)), (1, .int w1), (2, .int w2), (3, .int w3)] → W p l e (rmH 0) s m (List.toArray [.ref (a_B 12), .int x1, .int x2]) below meth c H locs 0 0 (MQ below (va_Qi (fun r2 (_ : Unit) => r2 = r) (fun _ t => POST g A (cl_X0 g a_B p_B_17 u_B ++ X) t) A) (List.toArray [.ref (a_B 12), .int x1, .int x2]) s 0 0 A) (F0 m 2 ls []) := by
    intro  n
    induction n with
    | zero => intro w1 w2 w3 H locs ls hf; exact absurd hf (by intro q; cases q)
    | succ n ih => exact fun hf hw hl => J2 ih hf hw hl
  unfold f_X0_placeOf_oX0r12 at hf
  refine lv_iconst (v := 0) hx hb dX0_placeOf_0 (by decide) ?_
  refine lv_istore_n (lv' := [(3, .int (0 : Int32)), (0, .ref (a_B 12)), (1, .int x1), (2, .int x2)]) hx hb dX0_placeOf_1 rfl hl (by decide) rfl (fun ls hl => ?_)
  exact L2 fu hf hw (lv_sub hl [1, 2, 3, 0] rfl)
def f_X0_readerNamed (fu : Nat) (u_T : S32) (x1 : Int32) : Option (Int32) := tx_b1 (f_X0_placeOf_oX0r12 fu u_T (u_T 0 10) x1) fun (r_2 : Int32) => some r_2
set_option maxHeartbeats 4000000 in
set_option maxRecDepth 100000 in
theorem c_X0_readerNamed {l : Launch} {g : GG} {A : Nat → Prop} {X : va_W} {fu : Nat} {a_T : Nat → Nat} {p_T_17 : Nat} {u_T : S32} {x1 : Int32} {r : Int32} (hf : f_X0_readerNamed fu u_T x1 = some r) : MI l yX0_readerNamed cX0_readerNamed 2 (some .int) 1 g A (cl_X0 g a_T p_T_17 u_T ++ X) [.ref (a_T 0), .int x1] r (cl_X0 g a_T p_T_17 u_T ++ X) := by
  refine tx_start (av := [.ref (a_T 0), .int x1]) (by decide) (Nat.le_of_ble_eq_true rfl) ?_
  intro p e s m below meth c ls S hr hlk hE hw hl
  have S : CallFix p m c cX0_readerNamed 2 s (List.toArray [.ref (a_T 0), .int x1]) (Cond.code yX0_readerNamed cX0_readerNamed 2 (some .int) :: allW) RX0 := S
  have hx := S.1
  have hb := S.2.1
  have hown := S.2.2.2.1
  have hts : ∀ w ∈ allW, w.before (List.toArray [.ref (a_T 0), .int x1]) s = true := fun w h => S.2.2.2.2 w (List.mem_cons_of_mem _ h)
  have hl : lv_has ls 2 [(0, .ref (a_T 0)), (1, .int x1)] := hl
  unfold f_X0_readerNamed at hf
  refine lv_aload_n hx hb dX0_readerNamed_0 rfl (lv_at hl 0 rfl) ?_
  refine gf_X0_33 S hE hw 0 rfl rfl dX0_readerNamed_1 ?_
  refine lv_aload_n hx hb dX0_readerNamed_4 rfl (lv_at hl 0 rfl) ?_
  refine gf_X0_65 S hE hw 0 rfl rfl dX0_readerNamed_5 ?_
  refine lv_iload_n hx hb dX0_readerNamed_8 rfl (lv_at hl 1 rfl) ?_
  obtain ⟨r_2, h_1, hf⟩ := tx_b1_e hf
  refine tx_ci hw (tx_runS S hE hw (c_X0_placeOf_oX0r12 h_1) lk_X0_74 rfl hl.1 (rest := []) rfl (Nat.le_of_ble_eq_true rfl) ⟨by decide, by decide⟩ dX0_readerNamed_9 ⟨Nat.zero_le _, Nat.zero_le _⟩) (fun H locs hw => ?_)
  obtain e0 := tx_in1 hf
  rw [← e0]
  exact tx_iret S hr hlk hw dX0_readerNamed_12
def f_X7_takeReader_J17 (fu : Nat) (u_P : S32) (u_T : S32) (u_B : S32) (u_K : S32) : Option (Int32 × S32 × S32 × S32) := tx_b2 (f_X7_blame fu u_K u_T (2 : Int32)) fun (r_32 : Int32) (u_T_33 : S32) => tx_bz r_32 <| some (r_32, u_T_33, u_B, u_K)
def f_X7_takeReader (fu : Nat) (u_P : S32) (u_T : S32) (u_B : S32) (u_K : S32) : Option (Int32 × S32 × S32 × S32) := tx_let (u_B 0 10) fun (y_1 : Int32) => if y_1 < (0 : Int32) then (f_X7_takeReader_J17 fu u_P u_T u_B u_K) else (if y_1 < (4 : Int32) then (tx_b1 (f_X8_advance fu u_P u_K) fun (u_K_5 : S32) => tx_b1 (f_X0_readerNamed fu u_B (u_K_5 0 5)) fun (r_7 : Int32) => tx_b2 (f_X7_isNewName fu u_K_5 u_T r_7) fun (r_9 : Int32) (u_T_10 : S32) => if r_9 = (0 : Int32) then (some ((0 : Int32), u_T_10, u_B, u_K_5)) else (tx_ck y_1 4 <| tx_let (up2 u_B 12 y_1.toNatClampNeg (u_K_5 0 5)) fun (u_B_13 : S32) => tx_b1 (f_X8_advance fu u_P u_K_5) fun (u_K_15 : S32) => tx_b3 (f_X7_takeNumber fu u_P u_T_10 u_K_15 (0 : Int32) (9 : Int32)) fun (r_17 : Int32) (u_T_18 : S32) (u_K_19 : S32) => if r_17 = (0 : Int32) then (some ((0 : Int32), u_T_18, u_B_13, u_K_19)) else (tx_ck y_1 4 <| tx_let (up2 u_B_13 13 y_1.toNatClampNeg (u_T_18 0 5)) fun (u_B_22 : S32) => tx_b3 (f_X7_takeNumber fu u_P u_T_18 u_K_19 (0 : Int32) (15 : Int32)) fun (r_24 : Int32) (u_T_25 : S32) (u_K_26 : S32) => if r_24 = (0 : Int32) then (some ((0 : Int32), u_T_25, u_B_22, u_K_26)) else (tx_ck y_1 4 <| tx_let (up2 u_B_22 14 y_1.toNatClampNeg (u_T_25 0 5)) fun (u_B_29 : S32) => tx_let (up2 u_B_29 0 10 ((u_B_29 0 10) + (1 : Int32))) fun (u_B_30 : S32) => some ((1 : Int32), u_T_25, u_B_30, u_K_26))))) else (f_X7_takeReader_J17 fu u_P u_T u_B u_K))
set_option maxHeartbeats 4000000 in
set_option maxRecDepth 100000 in
theorem c_X7_takeReader {l : Launch} {g : GG} {A : Nat → Prop} {X : va_W} {fu : Nat} {a_T a_B a_K a_P : Nat → Nat} {p_T_1 p_B_17 : Nat} {u_T : S32} {u_B : S32} {u_K : S32} {u_P : S32} {r : Int32} {zu_T : S32} {zu_B : S32} {zu_K : S32} (hf : f_X7_takeReader fu u_P u_T u_B u_K = some (r, zu_T, zu_B, zu_K)) : MI l yX7_takeReader cX7_takeReader 2 (some .boolean) 4 g A (cl_X7 g a_T (a_K 0) p_T_1 (a_B 0) u_T ++ (cl_X0 g a_B p_B_17 u_B ++ (cl_X8 g a_K (a_P 0) u_K ++ (cl_X6 g a_P u_P ++ X)))) [.ref (a_T 0)] r (cl_X7 g a_T (a_K 0) p_T_1 (a_B 0) zu_T ++ (cl_X0 g a_B p_B_17 zu_B ++ (cl_X8 g a_K (a_P 0) zu_K ++ (cl_X6 g a_P u_P ++ X)))) := by
  refine tx_start (av := [.ref (a_T 0)]) (by decide) (Nat.le_of_ble_eq_true rfl) ?_
  intro p e s m below meth c ls S hr hlk hE hw hl
  have S : CallFix p m c cX7_takeReader 2 s (List.toArray [.ref (a_T 0)]) (Cond.code yX7_takeReader cX7_takeReader 2 (some .boolean) :: allW) RX7 := S
  have hx := S.1
  have hb := S.2.1
  have hown := S.2.2.2.1
  have hts : ∀ w ∈ allW, w.before (List.toArray [.ref (a_T 0)]) s = true := fun w h => S.2.2.2.2 w (List.mem_cons_of_mem _ h)
  have hl : lv_has ls 2 [(0, .ref (a_T 0))] := hl
  have J17 : ∀ {u_T : S32} {u_B : S32} {u_K : S32} {H : Heap} {locs : List Loc} {ls : Array Slot}, f_X7_takeReader_J17 fu u_P u_T u_B u_K = some (r, zu_T, zu_B, zu_K) → WD g A s.heap (cl_X7 g a_T (a_K 0) p_T_1 (a_B 0) u_T ++ (cl_X0 g a_B p_B_17 u_B ++ (cl_X8 g a_K (a_P 0) u_K ++ (cl_X6 g a_P u_P ++ X)))) H locs → lv_has ls 2 [(0, .ref (a_T 0))] → W p l e (rmH 4) s m (List.toArray [.ref (a_T 0)]) below meth c H locs 0 0 (MQ below (va_Qi (fun r2 (_ : Unit) => r2 = r) (fun _ t => POST g A (cl_X7 g a_T (a_K 0) p_T_1 (a_B 0) zu_T ++ (cl_X0 g a_B p_B_17 zu_B ++ (cl_X8 g a_K (a_P 0) zu_K ++ (cl_X6 g a_P u_P ++ X)))) t) A) (List.toArray [.ref (a_T 0)]) s 0 0 A) (F0 m 17 ls []) := by
    intro u_T u_B u_K H locs ls hf hw hl
    unfold f_X7_takeReader_J17 at hf
    refine lv_aload_n hx hb dX7_takeReader_17 rfl (lv_at hl 0 rfl) ?_
    refine lv_iconst (v := 2) hx hb dX7_takeReader_18 (by decide) ?_
    have hw := hw.u2
    have hw := hw.u1
    obtain ⟨r_32, u_T_33, h_31, hf⟩ := tx_b2_e hf
    refine tx_ci hw (tx_runV S hE hw (c_X7_blame h_31) lk_X7_76 (q0 := 0) rfl rfl rfl hl.1 (rest := []) rfl (Nat.le_of_ble_eq_true rfl) ⟨by decide, by decide⟩ dX7_takeReader_19 ⟨Nat.zero_le _, Nat.zero_le _⟩) (fun H locs hw => ?_)
    have hw := hw.u3
    have hw := hw.u2
    have hw := hw.u3
    have hw := hw.u3
    obtain ⟨h_34, hf⟩ := tx_bz_e hf
    obtain ⟨e0, e1, e2, e3⟩ := tx_in4 hf
    rw [← e0, ← e1, ← e2, ← e3]
    exact tx_zret S hr hlk h_34 hw dX7_takeReader_22
  unfold f_X7_takeReader at hf
  refine lv_aload_n hx hb dX7_takeReader_0 rfl (lv_at hl 0 rfl) ?_
  refine gf_X7_42 S hE hw 0 rfl rfl dX7_takeReader_1 ?_
  refine gf_X7_133 S hE hw 1 rfl rfl dX7_takeReader_4 ?_
  refine lv_topi (fun y_1 ey_1 => ?_)
  replace hf := tx_let_e hf ey_1
  refine lv_istore_n (lv' := [(1, .int y_1), (0, .ref (a_T 0))]) hx hb dX7_takeReader_7 rfl hl (by decide) rfl (fun ls hl => ?_)
  refine lv_iload_n hx hb dX7_takeReader_8 rfl (lv_at hl 0 rfl) ?_
  refine lv_if_lt (tgt := 17) hx hb dX7_takeReader_9 (by decide) (fun h_2 => ?_) (fun h_2 => ?_)
  · replace hf := tx_pos hf h_2
    exact J17 hf hw (lv_sub hl [1] rfl)
  · replace hf := tx_neg hf h_2
    refine lv_iload_n hx hb dX7_takeReader_12 rfl (lv_at hl 0 rfl) ?_
    refine lv_iconst (v := 4) hx hb dX7_takeReader_13 (by decide) ?_
    refine lv_icmp_lt (tgt := 23) hx hb dX7_takeReader_14 (by decide) (fun h_3 => ?_) (fun h_3 => ?_)
    · replace hf := tx_pos hf h_3
      refine lv_aload_n hx hb dX7_takeReader_23 rfl (lv_at hl 1 rfl) ?_
      refine gf_X7_23 S hE hw 0 rfl rfl dX7_takeReader_24 ?_
      have hw := hw.u3
      have hw := hw.u3
      obtain ⟨u_K_5, h_4, hf⟩ := tx_b1_e hf
      refine tx_cv hw (tx_runN S hE hw (c_X8_advance h_4) lk_X7_79 (q0 := 0) rfl rfl rfl hl.1 (rest := []) rfl (Nat.le_of_ble_eq_true rfl) ⟨by decide, by decide⟩ dX7_takeReader_27 ⟨Nat.zero_le _, Nat.zero_le _⟩) (fun H locs hw => ?_)
      refine lv_aload_n hx hb dX7_takeReader_30 rfl (lv_at hl 1 rfl) ?_
      refine lv_aload_n hx hb dX7_takeReader_31 rfl (lv_at hl 1 rfl) ?_
      refine gf_X7_42 S hE hw 3 rfl rfl dX7_takeReader_32 ?_
      refine lv_aload_n hx hb dX7_takeReader_35 rfl (lv_at hl 1 rfl) ?_
      refine gf_X7_23 S hE hw 3 rfl rfl dX7_takeReader_36 ?_
      refine gf_X7_82 S hE hw 0 rfl rfl dX7_takeReader_39 ?_
      have hw := hw.u3
      obtain ⟨r_7, h_6, hf⟩ := tx_b1_e hf
      refine tx_ci hw (tx_runN S hE hw (c_X0_readerNamed h_6) lk_X7_136 (q0 := 0) rfl rfl rfl hl.1 (rest := [.ref (a_T 0)]) rfl (Nat.le_of_ble_eq_true rfl) ⟨by decide, by decide⟩ dX7_takeReader_42 ⟨Nat.zero_le _, Nat.zero_le _⟩) (fun H locs hw => ?_)
      have hw := hw.u1
      have hw := hw.u3
      obtain ⟨r_9, u_T_10, h_8, hf⟩ := tx_b2_e hf
      refine tx_ci hw (tx_runV S hE hw (c_X7_isNewName h_8) lk_X7_113 (q0 := 0) rfl rfl rfl hl.1 (rest := []) rfl (Nat.le_of_ble_eq_true rfl) ⟨by decide, by decide⟩ dX7_takeReader_45 ⟨Nat.zero_le _, Nat.zero_le _⟩) (fun H locs hw => ?_)
      refine lv_if_ne (tgt := 53) hx hb dX7_takeReader_48 (by decide) (fun h_11 => ?_) (fun h_11 => ?_)
      · replace hf := tx_neg hf h_11
        refine lv_aload_n hx hb dX7_takeReader_53 rfl (lv_at hl 1 rfl) ?_
        refine gf_X7_42 S hE hw 0 rfl rfl dX7_takeReader_54 ?_
        refine gf_X7_139 S hE hw 2 rfl rfl dX7_takeReader_57 ?_
        refine lv_iload_n hx hb dX7_takeReader_60 rfl (lv_at hl 0 rfl) ?_
        refine lv_aload_n hx hb dX7_takeReader_61 rfl (lv_at hl 1 rfl) ?_
        refine gf_X7_23 S hE hw 0 rfl rfl dX7_takeReader_62 ?_
        refine gf_X7_82 S hE hw 1 rfl rfl dX7_takeReader_65 ?_
        obtain ⟨h_12, hf⟩ := tx_ck_e hf
        obtain ⟨u_B_13, eu_B_13⟩ : ∃ z : S32, z = up2 u_B 12 y_1.toNatClampNeg (u_K_5 0 5) := ⟨_, rfl⟩
        replace hf := tx_let_e hf eu_B_13
        refine tx_iast (ws' := cl_X7 g a_T (a_K 0) p_T_1 (a_B 0) u_T_10 ++ (cl_X8 g a_K (a_P 0) u_K_5 ++ (cl_X0 g a_B p_B_17 u_B_13 ++ (cl_X6 g a_P u_P ++ X)))) S hE hw 10 rfl h_12 (by rw [eu_B_13]; rfl) dX7_takeReader_68 (fun H locs hw => ?_)
        refine lv_aload_n hx hb dX7_takeReader_69 rfl (lv_at hl 1 rfl) ?_
        refine gf_X7_23 S hE hw 0 rfl rfl dX7_takeReader_70 ?_
        have hw := hw.u3
        have hw := hw.u2
        obtain ⟨u_K_15, h_14, hf⟩ := tx_b1_e hf
        refine tx_cv hw (tx_runN S hE hw (c_X8_advance h_14) lk_X7_79 (q0 := 0) rfl rfl rfl hl.1 (rest := []) rfl (Nat.le_of_ble_eq_true rfl) ⟨by decide, by decide⟩ dX7_takeReader_73 ⟨Nat.zero_le _, Nat.zero_le _⟩) (fun H locs hw => ?_)
        refine lv_aload_n hx hb dX7_takeReader_76 rfl (lv_at hl 1 rfl) ?_
        refine lv_iconst (v := 0) hx hb dX7_takeReader_77 (by decide) ?_
        refine lv_bipush (v := 9) hx hb dX7_takeReader_78 (by decide) ?_
        have hw := hw.u1
        have hw := hw.u1
        have hw := hw.u2
        obtain ⟨r_17, u_T_18, u_K_19, h_16, hf⟩ := tx_b3_e hf
        refine tx_ci hw (tx_runV S hE hw (c_X7_takeNumber h_16) lk_X7_120 (q0 := 0) rfl rfl rfl hl.1 (rest := []) rfl (Nat.le_of_ble_eq_true rfl) ⟨by decide, by decide⟩ dX7_takeReader_80 ⟨Nat.zero_le _, Nat.zero_le _⟩) (fun H locs hw => ?_)
        refine lv_if_ne (tgt := 88) hx hb dX7_takeReader_83 (by decide) (fun h_20 => ?_) (fun h_20 => ?_)
        · replace hf := tx_neg hf h_20
          refine lv_aload_n hx hb dX7_takeReader_88 rfl (lv_at hl 1 rfl) ?_
          refine gf_X7_42 S hE hw 0 rfl rfl dX7_takeReader_89 ?_
          refine gf_X7_142 S hE hw 4 rfl rfl dX7_takeReader_92 ?_
          refine lv_iload_n hx hb dX7_takeReader_95 rfl (lv_at hl 0 rfl) ?_
          refine lv_aload_n hx hb dX7_takeReader_96 rfl (lv_at hl 1 rfl) ?_
          refine gf_X7_127 S hE hw 0 rfl rfl dX7_takeReader_97 ?_
          obtain ⟨h_21, hf⟩ := tx_ck_e hf
          obtain ⟨u_B_22, eu_B_22⟩ : ∃ z : S32, z = up2 u_B_13 13 y_1.toNatClampNeg (u_T_18 0 5) := ⟨_, rfl⟩
          replace hf := tx_let_e hf eu_B_22
          refine tx_iast (ws' := cl_X7 g a_T (a_K 0) p_T_1 (a_B 0) u_T_18 ++ (cl_X8 g a_K (a_P 0) u_K_19 ++ (cl_X6 g a_P u_P ++ (cl_X0 g a_B p_B_17 u_B_22 ++ X)))) S hE hw 13 rfl h_21 (by rw [eu_B_22]; rfl) dX7_takeReader_100 (fun H locs hw => ?_)
          refine lv_aload_n hx hb dX7_takeReader_101 rfl (lv_at hl 1 rfl) ?_
          refine lv_iconst (v := 0) hx hb dX7_takeReader_102 (by decide) ?_
          refine lv_bipush (v := 15) hx hb dX7_takeReader_103 (by decide) ?_
          obtain ⟨r_24, u_T_25, u_K_26, h_23, hf⟩ := tx_b3_e hf
          refine tx_ci hw (tx_runV S hE hw (c_X7_takeNumber h_23) lk_X7_120 (q0 := 0) rfl rfl rfl hl.1 (rest := []) rfl (Nat.le_of_ble_eq_true rfl) ⟨by decide, by decide⟩ dX7_takeReader_105 ⟨Nat.zero_le _, Nat.zero_le _⟩) (fun H locs hw => ?_)
          refine lv_if_ne (tgt := 113) hx hb dX7_takeReader_108 (by decide) (fun h_27 => ?_) (fun h_27 => ?_)
          · replace hf := tx_neg hf h_27
            refine lv_aload_n hx hb dX7_takeReader_113 rfl (lv_at hl 1 rfl) ?_
            refine gf_X7_42 S hE hw 0 rfl rfl dX7_takeReader_114 ?_
            refine gf_X7_145 S hE hw 4 rfl rfl dX7_takeReader_117 ?_
            refine lv_iload_n hx hb dX7_takeReader_120 rfl (lv_at hl 0 rfl) ?_
            refine lv_aload_n hx hb dX7_takeReader_121 rfl (lv_at hl 1 rfl) ?_
            refine gf_X7_127 S hE hw 0 rfl rfl dX7_takeReader_122 ?_
            obtain ⟨h_28, hf⟩ := tx_ck_e hf
            obtain ⟨u_B_29, eu_B_29⟩ : ∃ z : S32, z = up2 u_B_22 14 y_1.toNatClampNeg (u_T_25 0 5) := ⟨_, rfl⟩
            replace hf := tx_let_e hf eu_B_29
            refine tx_iast (ws' := cl_X7 g a_T (a_K 0) p_T_1 (a_B 0) u_T_25 ++ (cl_X8 g a_K (a_P 0) u_K_26 ++ (cl_X6 g a_P u_P ++ (cl_X0 g a_B p_B_17 u_B_29 ++ X)))) S hE hw 14 rfl h_28 (by rw [eu_B_29]; rfl) dX7_takeReader_125 (fun H locs hw => ?_)
            refine lv_aload_n hx hb dX7_takeReader_126 rfl (lv_at hl 1 rfl) ?_
            refine gf_X7_42 S hE hw 0 rfl rfl dX7_takeReader_127 ?_
            refine lv_dup hx hb dX7_takeReader_130 rfl ?_
            refine gf_X7_133 S hE hw 4 rfl rfl dX7_takeReader_131 ?_
            refine lv_iconst (v := 1) hx hb dX7_takeReader_134 (by decide) ?_
            refine lv_iadd hx hb dX7_takeReader_135 ?_
            obtain ⟨u_B_30, eu_B_30⟩ : ∃ z : S32, z = up2 u_B_29 0 10 ((u_B_29 0 10) + (1 : Int32)) := ⟨_, rfl⟩
            replace hf := tx_let_e hf eu_B_30
            refine pf_X7_133 (ws' := cl_X7 g a_T (a_K 0) p_T_1 (a_B 0) u_T_25 ++ (cl_X8 g a_K (a_P 0) u_K_26 ++ (cl_X6 g a_P u_P ++ (cl_X0 g a_B p_B_17 u_B_30 ++ X)))) S hE hw rfl rfl 4 rfl (Nat.le_of_ble_eq_true rfl) (by rw [eu_B_30]; rfl) dX7_takeReader_136 (fun H locs hw => ?_)
            refine lv_iconst (v := 1) hx hb dX7_takeReader_139 (by decide) ?_
            have hw := hw.u2
            have hw := hw.u2
            have hw := hw.u3
            have hw := hw.u3
            obtain ⟨e0, e1, e2, e3⟩ := tx_in4 hf
            rw [← e0, ← e1, ← e2, ← e3]
            exact tx_zret S hr hlk (by decide) hw dX7_takeReader_140
          · replace hf := tx_pos hf h_27
            refine lv_iconst (v := 0) hx hb dX7_takeReader_111 (by decide) ?_
            have hw := hw.u2
            have hw := hw.u2
            have hw := hw.u3
            have hw := hw.u3
            obtain ⟨e0, e1, e2, e3⟩ := tx_in4 hf
            rw [← e0, ← e1, ← e2, ← e3]
            exact tx_zret S hr hlk (by decide) hw dX7_takeReader_112
        · replace hf := tx_pos hf h_20
          refine lv_iconst (v := 0) hx hb dX7_takeReader_86 (by decide) ?_
          have hw := hw.u2
          have hw := hw.u2
          have hw := hw.u3
          have hw := hw.u3
          obtain ⟨e0, e1, e2, e3⟩ := tx_in4 hf
          rw [← e0, ← e1, ← e2, ← e3]
          exact tx_zret S hr hlk (by decide) hw dX7_takeReader_87
      · replace hf := tx_pos hf h_11
        refine lv_iconst (v := 0) hx hb dX7_takeReader_51 (by decide) ?_
        have hw := hw.u3
        have hw := hw.u2
        have hw := hw.u3
        have hw := hw.u3
        obtain ⟨e0, e1, e2, e3⟩ := tx_in4 hf
        rw [← e0, ← e1, ← e2, ← e3]
        exact tx_zret S hr hlk (by decide) hw dX7_takeReader_52
    · replace hf := tx_neg hf h_3
      exact J17 hf hw (lv_sub hl [1] rfl)
def f_X7_takeOnce (fu : Nat) (u_P : S32) (u_T : S32) (u_K : S32) : Option (Int32 × S32 × S32) := tx_let ((1 : Int32) <<< ((u_K 0 5) &&& 31)) fun (y_1 : Int32) => if ((u_T 0 6) &&& y_1) = (0 : Int32) then (tx_let (up2 u_T 0 6 ((u_T 0 6) ||| y_1)) fun (u_T_3 : S32) => tx_b1 (f_X8_advance fu u_P u_K) fun (u_K_5 : S32) => some ((1 : Int32), u_T_3, u_K_5)) else (tx_b2 (f_X7_blame fu u_K u_T (3 : Int32)) fun (r_7 : Int32) (u_T_8 : S32) => tx_bz r_7 <| some (r_7, u_T_8, u_K))
set_option maxHeartbeats 4000000 in
set_option maxRecDepth 100000 in
theorem c_X7_takeOnce {l : Launch} {g : GG} {A : Nat → Prop} {X : va_W} {fu : Nat} {a_T a_K a_P : Nat → Nat} {p_T_1 p_T_4 : Nat} {u_T : S32} {u_K : S32} {u_P : S32} {r : Int32} {zu_T : S32} {zu_K : S32} (hf : f_X7_takeOnce fu u_P u_T u_K = some (r, zu_T, zu_K)) : MI l yX7_takeOnce cX7_takeOnce 2 (some .boolean) 3 g A (cl_X7 g a_T (a_K 0) p_T_1 p_T_4 u_T ++ (cl_X8 g a_K (a_P 0) u_K ++ (cl_X6 g a_P u_P ++ X))) [.ref (a_T 0)] r (cl_X7 g a_T (a_K 0) p_T_1 p_T_4 zu_T ++ (cl_X8 g a_K (a_P 0) zu_K ++ (cl_X6 g a_P u_P ++ X))) := by
  refine tx_start (av := [.ref (a_T 0)]) (by decide) (Nat.le_of_ble_eq_true rfl) ?_
  intro p e s m below meth c ls S hr hlk hE hw hl
  have S : CallFix p m c cX7_takeOnce 2 s (List.toArray [.ref (a_T 0)]) (Cond.code yX7_takeOnce cX7_takeOnce 2 (some .boolean) :: allW) RX7 := S
  have hx := S.1
  have hb := S.2.1
  have hown := S.2.2.2.1
  have hts : ∀ w ∈ allW, w.before (List.toArray [.ref (a_T 0)]) s = true := fun w h => S.2.2.2.2 w (List.mem_cons_of_mem _ h)
  have hl : lv_has ls 2 [(0, .ref (a_T 0))] := hl
  unfold f_X7_takeOnce at hf
  refine lv_iconst (v := 1) hx hb dX7_takeOnce_0 (by decide) ?_
  refine lv_aload_n hx hb dX7_takeOnce_1 rfl (lv_at hl 0 rfl) ?_
  refine gf_X7_23 S hE hw 0 rfl rfl dX7_takeOnce_2 ?_
  refine gf_X7_82 S hE hw 1 rfl rfl dX7_takeOnce_5 ?_
  refine lv_ishl hx hb dX7_takeOnce_8 ?_
  refine lv_topi (fun y_1 ey_1 => ?_)
  replace hf := tx_let_e hf ey_1
  refine lv_istore_n (lv' := [(1, .int y_1), (0, .ref (a_T 0))]) hx hb dX7_takeOnce_9 rfl hl (by decide) rfl (fun ls hl => ?_)
  refine lv_aload_n hx hb dX7_takeOnce_10 rfl (lv_at hl 1 rfl) ?_
  refine gf_X7_49 S hE hw 0 rfl rfl dX7_takeOnce_11 ?_
  refine lv_iload_n hx hb dX7_takeOnce_14 rfl (lv_at hl 0 rfl) ?_
  refine lv_iand hx hb dX7_takeOnce_15 ?_
  refine lv_if_eq (tgt := 25) hx hb dX7_takeOnce_16 (by decide) (fun h_2 => ?_) (fun h_2 => ?_)
  · replace hf := tx_pos hf h_2
    refine lv_aload_n hx hb dX7_takeOnce_25 rfl (lv_at hl 1 rfl) ?_
    refine lv_dup hx hb dX7_takeOnce_26 rfl ?_
    refine gf_X7_49 S hE hw 0 rfl rfl dX7_takeOnce_27 ?_
    refine lv_iload_n hx hb dX7_takeOnce_30 rfl (lv_at hl 0 rfl) ?_
    refine lv_ior hx hb dX7_takeOnce_31 ?_
    obtain ⟨u_T_3, eu_T_3⟩ : ∃ z : S32, z = up2 u_T 0 6 ((u_T 0 6) ||| y_1) := ⟨_, rfl⟩
    replace hf := tx_let_e hf eu_T_3
    refine pf_X7_49 (ws' := cl_X7 g a_T (a_K 0) p_T_1 p_T_4 u_T_3 ++ (cl_X8 g a_K (a_P 0) u_K ++ (cl_X6 g a_P u_P ++ X))) S hE hw rfl rfl 0 rfl (Nat.le_of_ble_eq_true rfl) (by rw [eu_T_3]; rfl) dX7_takeOnce_32 (fun H locs hw => ?_)
    refine lv_aload_n hx hb dX7_takeOnce_35 rfl (lv_at hl 1 rfl) ?_
    refine gf_X7_23 S hE hw 0 rfl rfl dX7_takeOnce_36 ?_
    have hw := hw.u2
    have hw := hw.u2
    obtain ⟨u_K_5, h_4, hf⟩ := tx_b1_e hf
    refine tx_cv hw (tx_runN S hE hw (c_X8_advance h_4) lk_X7_79 (q0 := 0) rfl rfl rfl hl.1 (rest := []) rfl (Nat.le_of_ble_eq_true rfl) ⟨by decide, by decide⟩ dX7_takeOnce_39 ⟨Nat.zero_le _, Nat.zero_le _⟩) (fun H locs hw => ?_)
    refine lv_iconst (v := 1) hx hb dX7_takeOnce_42 (by decide) ?_
    have hw := hw.u1
    have hw := hw.u1
    have hw := hw.u2
    obtain ⟨e0, e1, e2⟩ := tx_in3 hf
    rw [← e0, ← e1, ← e2]
    exact tx_zret S hr hlk (by decide) hw dX7_takeOnce_43
  · replace hf := tx_neg hf h_2
    refine lv_aload_n hx hb dX7_takeOnce_19 rfl (lv_at hl 1 rfl) ?_
    refine lv_iconst (v := 3) hx hb dX7_takeOnce_20 (by decide) ?_
    obtain ⟨r_7, u_T_8, h_6, hf⟩ := tx_b2_e hf
    refine tx_ci hw (tx_runV S hE hw (c_X7_blame h_6) lk_X7_76 (q0 := 0) rfl rfl rfl hl.1 (rest := []) rfl (Nat.le_of_ble_eq_true rfl) ⟨by decide, by decide⟩ dX7_takeOnce_21 ⟨Nat.zero_le _, Nat.zero_le _⟩) (fun H locs hw => ?_)
    obtain ⟨h_9, hf⟩ := tx_bz_e hf
    obtain ⟨e0, e1, e2⟩ := tx_in3 hf
    rw [← e0, ← e1, ← e2]
    exact tx_zret S hr hlk h_9 hw dX7_takeOnce_24
def f_X7_takeRate (fu : Nat) (u_P : S32) (u_T : S32) (u_K : S32) (u_B : S32) : Option (Int32 × S32 × S32 × S32) := tx_b3 (f_X7_takeOnce fu u_P u_T u_K) fun (r_2 : Int32) (u_T_3 : S32) (u_K_4 : S32) => if r_2 = (0 : Int32) then (some ((0 : Int32), u_T_3, u_K_4, u_B)) else (tx_b3 (f_X7_takeNumber fu u_P u_T_3 u_K_4 (0 : Int32) (100 : Int32)) fun (r_7 : Int32) (u_T_8 : S32) (u_K_9 : S32) => if r_7 = (0 : Int32) then (some ((0 : Int32), u_T_8, u_K_9, u_B)) else (tx_let (up2 u_B 0 14 (u_T_8 0 5)) fun (u_B_11 : S32) => some ((1 : Int32), u_T_8, u_K_9, u_B_11)))
set_option maxHeartbeats 4000000 in
set_option maxRecDepth 100000 in
theorem c_X7_takeRate {l : Launch} {g : GG} {A : Nat → Prop} {X : va_W} {fu : Nat} {a_T a_K a_P a_B : Nat → Nat} {p_T_1 p_B_17 : Nat} {u_T : S32} {u_K : S32} {u_P : S32} {u_B : S32} {r : Int32} {zu_T : S32} {zu_K : S32} {zu_B : S32} (hf : f_X7_takeRate fu u_P u_T u_K u_B = some (r, zu_T, zu_K, zu_B)) : MI l yX7_takeRate cX7_takeRate 1 (some .boolean) 4 g A (cl_X7 g a_T (a_K 0) p_T_1 (a_B 0) u_T ++ (cl_X8 g a_K (a_P 0) u_K ++ (cl_X6 g a_P u_P ++ (cl_X0 g a_B p_B_17 u_B ++ X)))) [.ref (a_T 0)] r (cl_X7 g a_T (a_K 0) p_T_1 (a_B 0) zu_T ++ (cl_X8 g a_K (a_P 0) zu_K ++ (cl_X6 g a_P u_P ++ (cl_X0 g a_B p_B_17 zu_B ++ X)))) := by
  refine tx_start (av := [.ref (a_T 0)]) (by decide) (Nat.le_of_ble_eq_true rfl) ?_
  intro p e s m below meth c ls S hr hlk hE hw hl
  have S : CallFix p m c cX7_takeRate 1 s (List.toArray [.ref (a_T 0)]) (Cond.code yX7_takeRate cX7_takeRate 1 (some .boolean) :: allW) RX7 := S
  have hx := S.1
  have hb := S.2.1
  have hown := S.2.2.2.1
  have hts : ∀ w ∈ allW, w.before (List.toArray [.ref (a_T 0)]) s = true := fun w h => S.2.2.2.2 w (List.mem_cons_of_mem _ h)
  have hl : lv_has ls 1 [(0, .ref (a_T 0))] := hl
  unfold f_X7_takeRate at hf
  refine lv_aload_n hx hb dX7_takeRate_0 rfl (lv_at hl 0 rfl) ?_
  obtain ⟨r_2, u_T_3, u_K_4, h_1, hf⟩ := tx_b3_e hf
  refine tx_ci hw (tx_runV S hE hw (c_X7_takeOnce h_1) lk_X7_163 (q0 := 0) rfl rfl rfl hl.1 (rest := []) rfl (Nat.le_of_ble_eq_true rfl) ⟨by decide, by decide⟩ dX7_takeRate_1 ⟨Nat.zero_le _, Nat.zero_le _⟩) (fun H locs hw => ?_)
  refine lv_if_eq (tgt := 17) hx hb dX7_takeRate_4 (by decide) (fun h_5 => ?_) (fun h_5 => ?_)
  · replace hf := tx_pos hf h_5
    refine lv_iconst (v := 0) hx hb dX7_takeRate_17 (by decide) ?_
    obtain ⟨e0, e1, e2, e3⟩ := tx_in4 hf
    rw [← e0, ← e1, ← e2, ← e3]
    exact tx_zret S hr hlk (by decide) hw dX7_takeRate_18
  · replace hf := tx_neg hf h_5
    refine lv_aload_n hx hb dX7_takeRate_7 rfl (lv_at hl 0 rfl) ?_
    refine lv_iconst (v := 0) hx hb dX7_takeRate_8 (by decide) ?_
    refine lv_bipush (v := 100) hx hb dX7_takeRate_9 (by decide) ?_
    obtain ⟨r_7, u_T_8, u_K_9, h_6, hf⟩ := tx_b3_e hf
    refine tx_ci hw (tx_runV S hE hw (c_X7_takeNumber h_6) lk_X7_120 (q0 := 0) rfl rfl rfl hl.1 (rest := []) rfl (Nat.le_of_ble_eq_true rfl) ⟨by decide, by decide⟩ dX7_takeRate_11 ⟨Nat.zero_le _, Nat.zero_le _⟩) (fun H locs hw => ?_)
    refine lv_if_ne (tgt := 19) hx hb dX7_takeRate_14 (by decide) (fun h_10 => ?_) (fun h_10 => ?_)
    · replace hf := tx_neg hf h_10
      refine lv_aload_n hx hb dX7_takeRate_19 rfl (lv_at hl 0 rfl) ?_
      refine gf_X7_42 S hE hw 0 rfl rfl dX7_takeRate_20 ?_
      refine lv_aload_n hx hb dX7_takeRate_23 rfl (lv_at hl 0 rfl) ?_
      refine gf_X7_127 S hE hw 0 rfl rfl dX7_takeRate_24 ?_
      obtain ⟨u_B_11, eu_B_11⟩ : ∃ z : S32, z = up2 u_B 0 14 (u_T_8 0 5) := ⟨_, rfl⟩
      replace hf := tx_let_e hf eu_B_11
      refine pf_X7_166 (ws' := cl_X7 g a_T (a_K 0) p_T_1 (a_B 0) u_T_8 ++ (cl_X8 g a_K (a_P 0) u_K_9 ++ (cl_X6 g a_P u_P ++ (cl_X0 g a_B p_B_17 u_B_11 ++ X)))) S hE hw rfl rfl 4 rfl (Nat.le_of_ble_eq_true rfl) (by rw [eu_B_11]; rfl) dX7_takeRate_27 (fun H locs hw => ?_)
      refine lv_iconst (v := 1) hx hb dX7_takeRate_30 (by decide) ?_
      obtain ⟨e0, e1, e2, e3⟩ := tx_in4 hf
      rw [← e0, ← e1, ← e2, ← e3]
      exact tx_zret S hr hlk (by decide) hw dX7_takeRate_31
    · replace hf := tx_pos hf h_10
      refine lv_iconst (v := 0) hx hb dX7_takeRate_17 (by decide) ?_
      obtain ⟨e0, e1, e2, e3⟩ := tx_in4 hf
      rw [← e0, ← e1, ← e2, ← e3]
      exact tx_zret S hr hlk (by decide) hw dX7_takeRate_18
def f_X7_takeDull (fu : Nat) (u_P : S32) (u_T : S32) (u_K : S32) (u_B : S32) : Option (Int32 × S32 × S32 × S32) := tx_b3 (f_X7_takeOnce fu u_P u_T u_K) fun (r_2 : Int32) (u_T_3 : S32) (u_K_4 : S32) => if r_2 = (0 : Int32) then (some ((0 : Int32), u_T_3, u_K_4, u_B)) else (tx_b3 (f_X7_takeNumber fu u_P u_T_3 u_K_4 (1 : Int32) (99 : Int32)) fun (r_7 : Int32) (u_T_8 : S32) (u_K_9 : S32) => if r_7 = (0 : Int32) then (some ((0 : Int32), u_T_8, u_K_9, u_B)) else (tx_let (up2 u_B 0 15 (u_T_8 0 5)) fun (u_B_11 : S32) => some ((1 : Int32), u_T_8, u_K_9, u_B_11)))
set_option maxHeartbeats 4000000 in
set_option maxRecDepth 100000 in
theorem c_X7_takeDull {l : Launch} {g : GG} {A : Nat → Prop} {X : va_W} {fu : Nat} {a_T a_K a_P a_B : Nat → Nat} {p_T_1 p_B_17 : Nat} {u_T : S32} {u_K : S32} {u_P : S32} {u_B : S32} {r : Int32} {zu_T : S32} {zu_K : S32} {zu_B : S32} (hf : f_X7_takeDull fu u_P u_T u_K u_B = some (r, zu_T, zu_K, zu_B)) : MI l yX7_takeDull cX7_takeDull 1 (some .boolean) 4 g A (cl_X7 g a_T (a_K 0) p_T_1 (a_B 0) u_T ++ (cl_X8 g a_K (a_P 0) u_K ++ (cl_X6 g a_P u_P ++ (cl_X0 g a_B p_B_17 u_B ++ X)))) [.ref (a_T 0)] r (cl_X7 g a_T (a_K 0) p_T_1 (a_B 0) zu_T ++ (cl_X8 g a_K (a_P 0) zu_K ++ (cl_X6 g a_P u_P ++ (cl_X0 g a_B p_B_17 zu_B ++ X)))) := by
  refine tx_start (av := [.ref (a_T 0)]) (by decide) (Nat.le_of_ble_eq_true rfl) ?_
  intro p e s m below meth c ls S hr hlk hE hw hl
  have S : CallFix p m c cX7_takeDull 1 s (List.toArray [.ref (a_T 0)]) (Cond.code yX7_takeDull cX7_takeDull 1 (some .boolean) :: allW) RX7 := S
  have hx := S.1
  have hb := S.2.1
  have hown := S.2.2.2.1
  have hts : ∀ w ∈ allW, w.before (List.toArray [.ref (a_T 0)]) s = true := fun w h => S.2.2.2.2 w (List.mem_cons_of_mem _ h)
  have hl : lv_has ls 1 [(0, .ref (a_T 0))] := hl
  unfold f_X7_takeDull at hf
  refine lv_aload_n hx hb dX7_takeDull_0 rfl (lv_at hl 0 rfl) ?_
  obtain ⟨r_2, u_T_3, u_K_4, h_1, hf⟩ := tx_b3_e hf
  refine tx_ci hw (tx_runV S hE hw (c_X7_takeOnce h_1) lk_X7_163 (q0 := 0) rfl rfl rfl hl.1 (rest := []) rfl (Nat.le_of_ble_eq_true rfl) ⟨by decide, by decide⟩ dX7_takeDull_1 ⟨Nat.zero_le _, Nat.zero_le _⟩) (fun H locs hw => ?_)
  refine lv_if_eq (tgt := 17) hx hb dX7_takeDull_4 (by decide) (fun h_5 => ?_) (fun h_5 => ?_)
  · replace hf := tx_pos hf h_5
    refine lv_iconst (v := 0) hx hb dX7_takeDull_17 (by decide) ?_
    obtain ⟨e0, e1, e2, e3⟩ := tx_in4 hf
    rw [← e0, ← e1, ← e2, ← e3]
    exact tx_zret S hr hlk (by decide) hw dX7_takeDull_18
  · replace hf := tx_neg hf h_5
    refine lv_aload_n hx hb dX7_takeDull_7 rfl (lv_at hl 0 rfl) ?_
    refine lv_iconst (v := 1) hx hb dX7_takeDull_8 (by decide) ?_
    refine lv_bipush (v := 99) hx hb dX7_takeDull_9 (by decide) ?_
    obtain ⟨r_7, u_T_8, u_K_9, h_6, hf⟩ := tx_b3_e hf
    refine tx_ci hw (tx_runV S hE hw (c_X7_takeNumber h_6) lk_X7_120 (q0 := 0) rfl rfl rfl hl.1 (rest := []) rfl (Nat.le_of_ble_eq_true rfl) ⟨by decide, by decide⟩ dX7_takeDull_11 ⟨Nat.zero_le _, Nat.zero_le _⟩) (fun H locs hw => ?_)
    refine lv_if_ne (tgt := 19) hx hb dX7_takeDull_14 (by decide) (fun h_10 => ?_) (fun h_10 => ?_)
    · replace hf := tx_neg hf h_10
      refine lv_aload_n hx hb dX7_takeDull_19 rfl (lv_at hl 0 rfl) ?_
      refine gf_X7_42 S hE hw 0 rfl rfl dX7_takeDull_20 ?_
      refine lv_aload_n hx hb dX7_takeDull_23 rfl (lv_at hl 0 rfl) ?_
      refine gf_X7_127 S hE hw 0 rfl rfl dX7_takeDull_24 ?_
      obtain ⟨u_B_11, eu_B_11⟩ : ∃ z : S32, z = up2 u_B 0 15 (u_T_8 0 5) := ⟨_, rfl⟩
      replace hf := tx_let_e hf eu_B_11
      refine pf_X7_169 (ws' := cl_X7 g a_T (a_K 0) p_T_1 (a_B 0) u_T_8 ++ (cl_X8 g a_K (a_P 0) u_K_9 ++ (cl_X6 g a_P u_P ++ (cl_X0 g a_B p_B_17 u_B_11 ++ X)))) S hE hw rfl rfl 4 rfl (Nat.le_of_ble_eq_true rfl) (by rw [eu_B_11]; rfl) dX7_takeDull_27 (fun H locs hw => ?_)
      refine lv_iconst (v := 1) hx hb dX7_takeDull_30 (by decide) ?_
      obtain ⟨e0, e1, e2, e3⟩ := tx_in4 hf
      rw [← e0, ← e1, ← e2, ← e3]
      exact tx_zret S hr hlk (by decide) hw dX7_takeDull_31
    · replace hf := tx_pos hf h_10
      refine lv_iconst (v := 0) hx hb dX7_takeDull_17 (by decide) ?_
      obtain ⟨e0, e1, e2, e3⟩ := tx_in4 hf
      rw [← e0, ← e1, ← e2, ← e3]
      exact tx_zret S hr hlk (by decide) hw dX7_takeDull_18
def f_X7_takeSeed (fu : Nat) (u_P : S32) (u_T : S32) (u_K : S32) (u_B : S32) : Option (Int32 × S32 × S32 × S32) := tx_b3 (f_X7_takeOnce fu u_P u_T u_K) fun (r_2 : Int32) (u_T_3 : S32) (u_K_4 : S32) => if r_2 = (0 : Int32) then (some ((0 : Int32), u_T_3, u_K_4, u_B)) else (tx_b3 (f_X7_takeNumber fu u_P u_T_3 u_K_4 (0 : Int32) (99999 : Int32)) fun (r_7 : Int32) (u_T_8 : S32) (u_K_9 : S32) => if r_7 = (0 : Int32) then (some ((0 : Int32), u_T_8, u_K_9, u_B)) else (tx_let (up2 u_B 0 16 (u_T_8 0 5)) fun (u_B_11 : S32) => some ((1 : Int32), u_T_8, u_K_9, u_B_11)))
set_option maxHeartbeats 4000000 in
set_option maxRecDepth 100000 in
theorem c_X7_takeSeed {l : Launch} {g : GG} {A : Nat → Prop} {X : va_W} {fu : Nat} {a_T a_K a_P a_B : Nat → Nat} {p_T_1 p_B_17 : Nat} {u_T : S32} {u_K : S32} {u_P : S32} {u_B : S32} {r : Int32} {zu_T : S32} {zu_K : S32} {zu_B : S32} (hf : f_X7_takeSeed fu u_P u_T u_K u_B = some (r, zu_T, zu_K, zu_B)) : MI l yX7_takeSeed cX7_takeSeed 1 (some .boolean) 4 g A (cl_X7 g a_T (a_K 0) p_T_1 (a_B 0) u_T ++ (cl_X8 g a_K (a_P 0) u_K ++ (cl_X6 g a_P u_P ++ (cl_X0 g a_B p_B_17 u_B ++ X)))) [.ref (a_T 0)] r (cl_X7 g a_T (a_K 0) p_T_1 (a_B 0) zu_T ++ (cl_X8 g a_K (a_P 0) zu_K ++ (cl_X6 g a_P u_P ++ (cl_X0 g a_B p_B_17 zu_B ++ X)))) := by
  refine tx_start (av := [.ref (a_T 0)]) (by decide) (Nat.le_of_ble_eq_true rfl) ?_
  intro p e s m below meth c ls S hr hlk hE hw hl
  have S : CallFix p m c cX7_takeSeed 1 s (List.toArray [.ref (a_T 0)]) (Cond.code yX7_takeSeed cX7_takeSeed 1 (some .boolean) :: allW) RX7 := S
  have hx := S.1
  have hb := S.2.1
  have hown := S.2.2.2.1
  have hts : ∀ w ∈ allW, w.before (List.toArray [.ref (a_T 0)]) s = true := fun w h => S.2.2.2.2 w (List.mem_cons_of_mem _ h)
  have hl : lv_has ls 1 [(0, .ref (a_T 0))] := hl
  unfold f_X7_takeSeed at hf
  refine lv_aload_n hx hb dX7_takeSeed_0 rfl (lv_at hl 0 rfl) ?_
  obtain ⟨r_2, u_T_3, u_K_4, h_1, hf⟩ := tx_b3_e hf
  refine tx_ci hw (tx_runV S hE hw (c_X7_takeOnce h_1) lk_X7_163 (q0 := 0) rfl rfl rfl hl.1 (rest := []) rfl (Nat.le_of_ble_eq_true rfl) ⟨by decide, by decide⟩ dX7_takeSeed_1 ⟨Nat.zero_le _, Nat.zero_le _⟩) (fun H locs hw => ?_)
  refine lv_if_eq (tgt := 17) hx hb dX7_takeSeed_4 (by decide) (fun h_5 => ?_) (fun h_5 => ?_)
  · replace hf := tx_pos hf h_5
    refine lv_iconst (v := 0) hx hb dX7_takeSeed_17 (by decide) ?_
    obtain ⟨e0, e1, e2, e3⟩ := tx_in4 hf
    rw [← e0, ← e1, ← e2, ← e3]
    exact tx_zret S hr hlk (by decide) hw dX7_takeSeed_18
  · replace hf := tx_neg hf h_5
    refine lv_aload_n hx hb dX7_takeSeed_7 rfl (lv_at hl 0 rfl) ?_
    refine lv_iconst (v := 0) hx hb dX7_takeSeed_8 (by decide) ?_
    refine lv_ldc (v := 99999) hx hb hown (hts _ kw_624) dX7_takeSeed_9 ?_
    obtain ⟨r_7, u_T_8, u_K_9, h_6, hf⟩ := tx_b3_e hf
    refine tx_ci hw (tx_runV S hE hw (c_X7_takeNumber h_6) lk_X7_120 (q0 := 0) rfl rfl rfl hl.1 (rest := []) rfl (Nat.le_of_ble_eq_true rfl) ⟨by decide, by decide⟩ dX7_takeSeed_11 ⟨Nat.zero_le _, Nat.zero_le _⟩) (fun H locs hw => ?_)
    refine lv_if_ne (tgt := 19) hx hb dX7_takeSeed_14 (by decide) (fun h_10 => ?_) (fun h_10 => ?_)
    · replace hf := tx_neg hf h_10
      refine lv_aload_n hx hb dX7_takeSeed_19 rfl (lv_at hl 0 rfl) ?_
      refine gf_X7_42 S hE hw 0 rfl rfl dX7_takeSeed_20 ?_
      refine lv_aload_n hx hb dX7_takeSeed_23 rfl (lv_at hl 0 rfl) ?_
      refine gf_X7_127 S hE hw 0 rfl rfl dX7_takeSeed_24 ?_
      obtain ⟨u_B_11, eu_B_11⟩ : ∃ z : S32, z = up2 u_B 0 16 (u_T_8 0 5) := ⟨_, rfl⟩
      replace hf := tx_let_e hf eu_B_11
      refine pf_X7_173 (ws' := cl_X7 g a_T (a_K 0) p_T_1 (a_B 0) u_T_8 ++ (cl_X8 g a_K (a_P 0) u_K_9 ++ (cl_X6 g a_P u_P ++ (cl_X0 g a_B p_B_17 u_B_11 ++ X)))) S hE hw rfl rfl 4 rfl (Nat.le_of_ble_eq_true rfl) (by rw [eu_B_11]; rfl) dX7_takeSeed_27 (fun H locs hw => ?_)
      refine lv_iconst (v := 1) hx hb dX7_takeSeed_30 (by decide) ?_
      obtain ⟨e0, e1, e2, e3⟩ := tx_in4 hf
      rw [← e0, ← e1, ← e2, ← e3]
      exact tx_zret S hr hlk (by decide) hw dX7_takeSeed_31
    · replace hf := tx_pos hf h_10
      refine lv_iconst (v := 0) hx hb dX7_takeSeed_17 (by decide) ?_
      obtain ⟨e0, e1, e2, e3⟩ := tx_in4 hf
      rw [← e0, ← e1, ← e2, ← e3]
      exact tx_zret S hr hlk (by decide) hw dX7_takeSeed_18
def f_X5_isTold (fu : Nat) (u_T : S32) (v_T : S64) (x1 : Int32) : Option (Int32) := if x1 < (0 : Int32) then (some (0 : Int32)) else (if (3 : Int32) ≤ x1 then (some (0 : Int32)) else (tx_ck x1 3 <| if (u_T 3 x1.toNatClampNeg) = (-1 : Int32) then (some (0 : Int32)) else (some (1 : Int32))))
set_option maxHeartbeats 4000000 in
set_option maxRecDepth 100000 in
theorem c_X5_isTold {l : Launch} {g : GG} {A : Nat → Prop} {X : va_W} {fu : Nat} {a_T : Nat → Nat} {u_T : S32} {v_T : S64} {x1 : Int32} {r : Int32} (hf : f_X5_isTold fu u_T v_T x1 = some r) : MI l yX5_isTold cX5_isTold 2 (some .boolean) 0 g A (cl_X5 g a_T u_T v_T ++ X) [.ref (a_T 0), .int x1] r (cl_X5 g a_T u_T v_T ++ X) := by
  refine tx_start (av := [.ref (a_T 0), .int x1]) (by decide) (Nat.le_of_ble_eq_true rfl) ?_
  intro p e s m below meth c ls S hr hlk hE hw hl
  have S : CallFix p m c cX5_isTold 2 s (List.toArray [.ref (a_T 0), .int x1]) (Cond.code yX5_isTold cX5_isTold 2 (some .boolean) :: allW) RX5 := S
  have hx := S.1
  have hb := S.2.1
  have hown := S.2.2.2.1
  have hts : ∀ w ∈ allW, w.before (List.toArray [.ref (a_T 0), .int x1]) s = true := fun w h => S.2.2.2.2 w (List.mem_cons_of_mem _ h)
  have hl : lv_has ls 2 [(0, .ref (a_T 0)), (1, .int x1)] := hl
  unfold f_X5_isTold at hf
  refine lv_iload_n hx hb dX5_isTold_0 rfl (lv_at hl 1 rfl) ?_
  refine lv_if_lt (tgt := 23) hx hb dX5_isTold_1 (by decide) (fun h_1 => ?_) (fun h_1 => ?_)
  · replace hf := tx_pos hf h_1
    refine lv_iconst (v := 0) hx hb dX5_isTold_23 (by decide) ?_
    obtain e0 := tx_in1 hf
    rw [← e0]
    exact tx_zret S hr hlk (by decide) hw dX5_isTold_24
  · replace hf := tx_neg hf h_1
    refine lv_iload_n hx hb dX5_isTold_4 rfl (lv_at hl 1 rfl) ?_
    refine lv_iconst (v := 3) hx hb dX5_isTold_5 (by decide) ?_
    refine lv_icmp_ge (tgt := 23) hx hb dX5_isTold_6 (by decide) (fun h_2 => ?_) (fun h_2 => ?_)
    · replace hf := tx_pos hf h_2
      refine lv_iconst (v := 0) hx hb dX5_isTold_23 (by decide) ?_
      obtain e0 := tx_in1 hf
      rw [← e0]
      exact tx_zret S hr hlk (by decide) hw dX5_isTold_24
    · replace hf := tx_neg hf h_2
      refine lv_aload_n hx hb dX5_isTold_9 rfl (lv_at hl 0 rfl) ?_
      refine gf_X5_18 S hE hw 0 rfl rfl dX5_isTold_10 ?_
      refine lv_iload_n hx hb dX5_isTold_13 rfl (lv_at hl 1 rfl) ?_
      obtain ⟨h_3, hf⟩ := tx_ck_e hf
      refine tx_iald S hE hw 3 rfl h_3 dX5_isTold_14 ?_
      refine lv_iconst (v := -1) hx hb dX5_isTold_15 (by decide) ?_
      refine lv_icmp_eq (tgt := 23) hx hb dX5_isTold_16 (by decide) (fun h_4 => ?_) (fun h_4 => ?_)
      · replace hf := tx_pos hf h_4
        refine lv_iconst (v := 0) hx hb dX5_isTold_23 (by decide) ?_
        obtain e0 := tx_in1 hf
        rw [← e0]
        exact tx_zret S hr hlk (by decide) hw dX5_isTold_24
      · replace hf := tx_neg hf h_4
        refine lv_iconst (v := 1) hx hb dX5_isTold_19 (by decide) ?_
        refine lv_goto (tgt := 24) hx hb dX5_isTold_20 (by decide) ?_
        obtain e0 := tx_in1 hf
        rw [← e0]
        exact tx_zret S hr hlk (by decide) hw dX5_isTold_24
def f_X5_open (fu : Nat) (v_T : S64) (u_T : S32) (x1 : Int32) : Option (S32) := if x1 < (0 : Int32) then (some u_T) else (if (3 : Int32) ≤ x1 then (some u_T) else (tx_ck x1 3 <| tx_let (up2 u_T 3 x1.toNatClampNeg (u_T 0 5)) fun (u_T_4 : S32) => tx_ck x1 3 <| tx_let (up2 u_T_4 4 x1.toNatClampNeg (u_T_4 0 5)) fun (u_T_6 : S32) => some u_T_6))
set_option maxHeartbeats 4000000 in
set_option maxRecDepth 100000 in
theorem c_X5_open {l : Launch} {g : GG} {A : Nat → Prop} {X : va_W} {fu : Nat} {a_T : Nat → Nat} {u_T : S32} {v_T : S64} {x1 : Int32} {zu_T : S32} (hf : f_X5_open fu v_T u_T x1 = some zu_T) : MV l yX5_open cX5_open 2 none 0 g A (cl_X5 g a_T u_T v_T ++ X) [.ref (a_T 0), .int x1] (cl_X5 g a_T zu_T v_T ++ X) := by
  refine tx_start (av := [.ref (a_T 0), .int x1]) (by decide) (Nat.le_of_ble_eq_true rfl) ?_
  intro p e s m below meth c ls S hr hlk hE hw hl
  have S : CallFix p m c cX5_open 2 s (List.toArray [.ref (a_T 0), .int x1]) (Cond.code yX5_open cX5_open 2 none :: allW) RX5 := S
  have hx := S.1
  have hb := S.2.1
  have hown := S.2.2.2.1
  have hts : ∀ w ∈ allW, w.before (List.toArray [.ref (a_T 0), .int x1]) s = true := fun w h => S.2.2.2.2 w (List.mem_cons_of_mem _ h)
  have hl : lv_has ls 2 [(0, .ref (a_T 0)), (1, .int x1)] := hl
  unfold f_X5_open at hf
  refine lv_iload_n hx hb dX5_open_0 rfl (lv_at hl 1 rfl) ?_
  refine lv_if_lt (tgt := 29) hx hb dX5_open_1 (by decide) (fun h_1 => ?_) (fun h_1 => ?_)
  · replace hf := tx_pos hf h_1
    obtain e0 := tx_in1 hf
    rw [← e0]
    exact tx_vret S hr hlk hw dX5_open_29
  · replace hf := tx_neg hf h_1
    refine lv_iload_n hx hb dX5_open_4 rfl (lv_at hl 1 rfl) ?_
    refine lv_iconst (v := 3) hx hb dX5_open_5 (by decide) ?_
    refine lv_icmp_ge (tgt := 29) hx hb dX5_open_6 (by decide) (fun h_2 => ?_) (fun h_2 => ?_)
    · replace hf := tx_pos hf h_2
      obtain e0 := tx_in1 hf
      rw [← e0]
      exact tx_vret S hr hlk hw dX5_open_29
    · replace hf := tx_neg hf h_2
      refine lv_aload_n hx hb dX5_open_9 rfl (lv_at hl 0 rfl) ?_
      refine gf_X5_18 S hE hw 0 rfl rfl dX5_open_10 ?_
      refine lv_iload_n hx hb dX5_open_13 rfl (lv_at hl 1 rfl) ?_
      refine lv_aload_n hx hb dX5_open_14 rfl (lv_at hl 0 rfl) ?_
      refine gf_X5_28 S hE hw 0 rfl rfl dX5_open_15 ?_
      obtain ⟨h_3, hf⟩ := tx_ck_e hf
      obtain ⟨u_T_4, eu_T_4⟩ : ∃ z : S32, z = up2 u_T 3 x1.toNatClampNeg (u_T 0 5) := ⟨_, rfl⟩
      replace hf := tx_let_e hf eu_T_4
      refine tx_iast (ws' := cl_X5 g a_T u_T_4 v_T ++ X) S hE hw 3 rfl h_3 (by rw [eu_T_4]; rfl) dX5_open_18 (fun H locs hw => ?_)
      refine lv_aload_n hx hb dX5_open_19 rfl (lv_at hl 0 rfl) ?_
      refine gf_X5_21 S hE hw 0 rfl rfl dX5_open_20 ?_
      refine lv_iload_n hx hb dX5_open_23 rfl (lv_at hl 1 rfl) ?_
      refine lv_aload_n hx hb dX5_open_24 rfl (lv_at hl 0 rfl) ?_
      refine gf_X5_28 S hE hw 0 rfl rfl dX5_open_25 ?_
      obtain ⟨h_5, hf⟩ := tx_ck_e hf
      obtain ⟨u_T_6, eu_T_6⟩ : ∃ z : S32, z = up2 u_T_4 4 x1.toNatClampNeg (u_T_4 0 5) := ⟨_, rfl⟩
      replace hf := tx_let_e hf eu_T_6
      refine tx_iast (ws' := cl_X5 g a_T u_T_6 v_T ++ X) S hE hw 4 rfl h_5 (by rw [eu_T_6]; rfl) dX5_open_28 (fun H locs hw => ?_)
      obtain e0 := tx_in1 hf
      rw [← e0]
      exact tx_vret S hr hlk hw dX5_open_29
def f_X4_expectOperand (fu : Nat) (u_T : S32) (x1 : Int32) : Option (S32) := tx_let (up2 u_T 0 6 (1 : Int32)) fun (u_T_1 : S32) => tx_bz x1 <| tx_let (up2 u_T_1 0 7 x1) fun (u_T_3 : S32) => some u_T_3
set_option maxHeartbeats 4000000 in
set_option maxRecDepth 100000 in
theorem c_X4_expectOperand {l : Launch} {g : GG} {A : Nat → Prop} {X : va_W} {fu : Nat} {a_T : Nat → Nat} {p_T_0 p_T_8 : Nat} {u_T : S32} {x1 : Int32} {zu_T : S32} (hf : f_X4_expectOperand fu  u_T x1 = some zu_T) : MV l yX4_expectOperand cX4_expectOperand 2 none 0 g A (cl_X4 g a_T p_T_0 p_T_8 u_T ++ X) [.ref (a_T 0), .int x1] (cl_X4 g a_T p_T_0 p_T_8 zu_T ++ X) := by
  refine tx_start (av := [.ref (a_T 0), .int x1]) (by decide) (Nat.le_of_ble_eq_true rfl) ?_
  intro p e s m below meth c ls S hr hlk hE hw hl
  have S : CallFix p m c cX4_expectOperand 2 s (List.toArray [.ref (a_T 0), .int x1]) (Cond.code yX4_expectOperand cX4_expectOperand 2 none :: allW) RX4 := S
  have hx := S.1
  have hb := S.2.1
  have hown := S.2.2.2.1
  have hts : ∀ w ∈ allW, w.before (List.toArray [.ref (a_T 0), .int x1]) s = true := fun w h => S.2.2.2.2 w (List.mem_cons_of_mem _ h)
  have hl : lv_has ls 2 [(0, .ref (a_T 0)), (1, .int x1)] := hl
  unfold f_X4_expectOperand at hf
  refine lv_aload_n hx hb dX4_expectOperand_0 rfl (lv_at hl 0 rfl) ?_
  refine lv_iconst (v := 1) hx hb dX4_expectOperand_1 (by decide) ?_
  obtain ⟨u_T_1, eu_T_1⟩ : ∃ z : S32, z = up2 u_T 0 6 (1 : Int32) := ⟨_, rfl⟩
  replace hf := tx_let_e hf eu_T_1
  refine pf_X4_51 (ws' := cl_X4 g a_T p_T_0 p_T_8 u_T_1 ++ X) S hE hw (by decide) (by decide) 0 rfl (Nat.le_of_ble_eq_true rfl) (by rw [eu_T_1]; rfl) dX4_expectOperand_2 (fun H locs hw => ?_)
  refine lv_aload_n hx hb dX4_expectOperand_5 rfl (lv_at hl 0 rfl) ?_
  refine lv_iload_n hx hb dX4_expectOperand_6 rfl (lv_at hl 1 rfl) ?_
  obtain ⟨h_2, hf⟩ := tx_bz_e hf
  obtain ⟨u_T_3, eu_T_3⟩ : ∃ z : S32, z = up2 u_T_1 0 7 x1 := ⟨_, rfl⟩
  replace hf := tx_let_e hf eu_T_3
  refine pf_X4_80 (ws' := cl_X4 g a_T p_T_0 p_T_8 u_T_3 ++ X) S hE hw (tx_bz_n h_2) (tx_bz_f h_2) 0 rfl (Nat.le_of_ble_eq_true rfl) (by rw [eu_T_3]; rfl) dX4_expectOperand_7 (fun H locs hw => ?_)
  obtain e0 := tx_in1 hf
  rw [← e0]
  exact tx_vret S hr hlk hw dX4_expectOperand_10
def f_X8_isSign (fu : Nat) (u_T : S32) (x1 : Int32) : Option (Int32) := if (u_T 0 4) = (5 : Int32) then (if (u_T 0 5) = x1 then (some (1 : Int32)) else (some (0 : Int32))) else (some (0 : Int32))
set_option maxHeartbeats 4000000 in
set_option maxRecDepth 100000 in
theorem c_X8_isSign {l : Launch} {g : GG} {A : Nat → Prop} {X : va_W} {fu : Nat} {a_T : Nat → Nat} {p_T_0 : Nat} {u_T : S32} {x1 : Int32} {r : Int32} (hf : f_X8_isSign fu u_T x1 = some r) : MI l yX8_isSign cX8_isSign 2 (some .boolean) 0 g A (cl_X8 g a_T p_T_0 u_T ++ X) [.ref (a_T 0), .int x1] r (cl_X8 g a_T p_T_0 u_T ++ X) := by
  refine tx_start (av := [.ref (a_T 0), .int x1]) (by decide) (Nat.le_of_ble_eq_true rfl) ?_
  intro p e s m below meth c ls S hr hlk hE hw hl
  have S : CallFix p m c cX8_isSign 2 s (List.toArray [.ref (a_T 0), .int x1]) (Cond.code yX8_isSign cX8_isSign 2 (some .boolean) :: allW) RX8 := S
  have hx := S.1
  have hb := S.2.1
  have hown := S.2.2.2.1
  have hts : ∀ w ∈ allW, w.before (List.toArray [.ref (a_T 0), .int x1]) s = true := fun w h => S.2.2.2.2 w (List.mem_cons_of_mem _ h)
  have hl : lv_has ls 2 [(0, .ref (a_T 0)), (1, .int x1)] := hl
  unfold f_X8_isSign at hf
  refine lv_aload_n hx hb dX8_isSign_0 rfl (lv_at hl 0 rfl) ?_
  refine gf_X8_25 S hE hw 0 rfl rfl dX8_isSign_1 ?_
  refine lv_iconst (v := 5) hx hb dX8_isSign_4 (by decide) ?_
  refine lv_icmp_ne (tgt := 20) hx hb dX8_isSign_5 (by decide) (fun h_1 => ?_) (fun h_1 => ?_)
  · replace hf := tx_neg hf h_1
    refine lv_iconst (v := 0) hx hb dX8_isSign_20 (by decide) ?_
    obtain e0 := tx_in1 hf
    rw [← e0]
    exact tx_zret S hr hlk (by decide) hw dX8_isSign_21
  · replace hf := tx_pos hf h_1
    refine lv_aload_n hx hb dX8_isSign_8 rfl (lv_at hl 0 rfl) ?_
    refine gf_X8_28 S hE hw 0 rfl rfl dX8_isSign_9 ?_
    refine lv_iload_n hx hb dX8_isSign_12 rfl (lv_at hl 1 rfl) ?_
    refine lv_icmp_ne (tgt := 20) hx hb dX8_isSign_13 (by decide) (fun h_2 => ?_) (fun h_2 => ?_)
    · replace hf := tx_neg hf h_2
      refine lv_iconst (v := 0) hx hb dX8_isSign_20 (by decide) ?_
      obtain e0 := tx_in1 hf
      rw [← e0]
      exact tx_zret S hr hlk (by decide) hw dX8_isSign_21
    · replace hf := tx_pos hf h_2
      refine lv_iconst (v := 1) hx hb dX8_isSign_16 (by decide) ?_
      refine lv_goto (tgt := 21) hx hb dX8_isSign_17 (by decide) ?_
      obtain e0 := tx_in1 hf
      rw [← e0]
      exact tx_zret S hr hlk (by decide) hw dX8_isSign_21
def f_X4_rankOf (fu : Nat) (x0 : Int32) : Option (Int32) := if x0 < (0 : Int32) then (some (0 : Int32)) else (if (15 : Int32) ≤ x0 then (some (0 : Int32)) else (tx_ck x0 15 <| some (tx_ranks x0.toNatClampNeg)))
set_option maxHeartbeats 4000000 in
set_option maxRecDepth 100000 in
theorem c_X4_rankOf {l : Launch} {g : GG} {A : Nat → Prop} {X : va_W} {fu : Nat} {x0 : Int32} {r : Int32} (hf : f_X4_rankOf fu  x0 = some r) : MI l yX4_rankOf cX4_rankOf 1 (some .int) 0 g A (X) [.int x0] r (X) := by
  refine tx_start (av := [.int x0]) (by decide) (Nat.le_of_ble_eq_true rfl) ?_
  intro p e s m below meth c ls S hr hlk hE hw hl
  have S : CallFix p m c cX4_rankOf 1 s (List.toArray [.int x0]) (Cond.code yX4_rankOf cX4_rankOf 1 (some .int) :: allW) RX4 := S
  have hx := S.1
  have hb := S.2.1
  have hown := S.2.2.2.1
  have hts : ∀ w ∈ allW, w.before (List.toArray [.int x0]) s = true := fun w h => S.2.2.2.2 w (List.mem_cons_of_mem _ h)
  have hl : lv_has ls 1 [(0, .int x0)] := hl
  unfold f_X4_rankOf at hf
  refine lv_iload_n hx hb dX4_rankOf_0 rfl (lv_at hl 0 rfl) ?_
  refine lv_if_lt (tgt := 20) hx hb dX4_rankOf_1 (by decide) (fun h_1 => ?_) (fun h_1 => ?_)
  · replace hf := tx_pos hf h_1
    refine lv_iconst (v := 0) hx hb dX4_rankOf_20 (by decide) ?_
    obtain e0 := tx_in1 hf
    rw [← e0]
    exact tx_iret S hr hlk hw dX4_rankOf_21
  · replace hf := tx_neg hf h_1
    refine lv_iload_n hx hb dX4_rankOf_4 rfl (lv_at hl 0 rfl) ?_
    refine va_gets hx hb hE.2.1.2.1.1 hw.2.2 hown (hts _ kw_656) (fun _ h => h) dX4_rankOf_5 ?_
    refine va_tlen (v := 15) hx hb hE.2.1.2.1.2 hw.2.2 (by decide) dX4_rankOf_8 ?_
    refine lv_icmp_ge (tgt := 20) hx hb dX4_rankOf_9 (by decide) (fun h_2 => ?_) (fun h_2 => ?_)
    · replace hf := tx_pos hf h_2
      refine lv_iconst (v := 0) hx hb dX4_rankOf_20 (by decide) ?_
      obtain e0 := tx_in1 hf
      rw [← e0]
      exact tx_iret S hr hlk hw dX4_rankOf_21
    · replace hf := tx_neg hf h_2
      refine va_gets hx hb hE.2.1.2.1.1 hw.2.2 hown (hts _ kw_656) (fun _ h => h) dX4_rankOf_12 ?_
      refine lv_iload_n hx hb dX4_rankOf_15 rfl (lv_at hl 0 rfl) ?_
      obtain ⟨h_3, hf⟩ := tx_ck_e hf
      refine va_ti hx hb hE.2.1.2.1.2 hw.2.2 h_3 rfl dX4_rankOf_16 ?_
      refine lv_goto (tgt := 21) hx hb dX4_rankOf_17 (by decide) ?_
      obtain e0 := tx_in1 hf
      rw [← e0]
      exact tx_iret S hr hlk hw dX4_rankOf_21
def f_X5_add (fu : Nat) (v_T : S64) (u_T : S32) (x1 : Int32) (x2 : Int32) : Option (S32) := if (u_T 0 5) < (0 : Int32) then (some u_T) else (if (64 : Int32) ≤ (u_T 0 5) then (some u_T) else (tx_ck (u_T 0 5) 64 <| tx_let (up2 u_T 1 (u_T 0 5).toNatClampNeg x1) fun (u_T_4 : S32) => tx_ck (u_T_4 0 5) 64 <| tx_let (up2 u_T_4 2 (u_T_4 0 5).toNatClampNeg x2) fun (u_T_6 : S32) => tx_let (up2 u_T_6 0 5 ((u_T_6 0 5) + (1 : Int32))) fun (u_T_7 : S32) => some u_T_7))
set_option maxHeartbeats 4000000 in
set_option maxRecDepth 100000 in
theorem c_X5_add {l : Launch} {g : GG} {A : Nat → Prop} {X : va_W} {fu : Nat} {a_T : Nat → Nat} {u_T : S32} {v_T : S64} {x1 : Int32} {x2 : Int32} {zu_T : S32} (hf : f_X5_add fu v_T u_T x1 x2 = some zu_T) : MV l yX5_add cX5_add 3 none 0 g A (cl_X5 g a_T u_T v_T ++ X) [.ref (a_T 0), .int x1, .int x2] (cl_X5 g a_T zu_T v_T ++ X) := by
  refine tx_start (av := [.ref (a_T 0), .int x1, .int x2]) (by decide) (Nat.le_of_ble_eq_true rfl) ?_
  intro p e s m below meth c ls S hr hlk hE hw hl
  have S : CallFix p m c cX5_add 3 s (List.toArray [.ref (a_T 0), .int x1, .int x2]) (Cond.code yX5_add cX5_add 3 none :: allW) RX5 := S
  have hx := S.1
  have hb := S.2.1
  have hown := S.2.2.2.1
  have hts : ∀ w ∈ allW, w.before (List.toArray [.ref (a_T 0), .int x1, .int x2]) s = true := fun w h => S.2.2.2.2 w (List.mem_cons_of_mem _ h)
  have hl : lv_has ls 3 [(0, .ref (a_T 0)), (1, .int x1), (2, .int x2)] := hl
  unfold f_X5_add at hf
  refine lv_aload_n hx hb dX5_add_0 rfl (lv_at hl 0 rfl) ?_
  refine gf_X5_28 S hE hw 0 rfl rfl dX5_add_1 ?_
  refine lv_if_lt (tgt := 46) hx hb dX5_add_4 (by decide) (fun h_1 => ?_) (fun h_1 => ?_)
  · replace hf := tx_pos hf h_1
    obtain e0 := tx_in1 hf
    rw [← e0]
    exact tx_vret S hr hlk hw dX5_add_46
  · replace hf := tx_neg hf h_1
    refine lv_aload_n hx hb dX5_add_7 rfl (lv_at hl 0 rfl) ?_
    refine gf_X5_28 S hE hw 0 rfl rfl dX5_add_8 ?_
    refine lv_bipush (v := 64) hx hb dX5_add_11 (by decide) ?_
    refine lv_icmp_ge (tgt := 46) hx hb dX5_add_13 (by decide) (fun h_2 => ?_) (fun h_2 => ?_)
    · replace hf := tx_pos hf h_2
      obtain e0 := tx_in1 hf
      rw [← e0]
      exact tx_vret S hr hlk hw dX5_add_46
    · replace hf := tx_neg hf h_2
      refine lv_aload_n hx hb dX5_add_16 rfl (lv_at hl 0 rfl) ?_
      refine gf_X5_11 S hE hw 0 rfl rfl dX5_add_17 ?_
      refine lv_aload_n hx hb dX5_add_20 rfl (lv_at hl 0 rfl) ?_
      refine gf_X5_28 S hE hw 0 rfl rfl dX5_add_21 ?_
      refine lv_iload_n hx hb dX5_add_24 rfl (lv_at hl 1 rfl) ?_
      obtain ⟨h_3, hf⟩ := tx_ck_e hf
      obtain ⟨u_T_4, eu_T_4⟩ : ∃ z : S32, z = up2 u_T 1 (u_T 0 5).toNatClampNeg x1 := ⟨_, rfl⟩
      replace hf := tx_let_e hf eu_T_4
      refine tx_iast (ws' := cl_X5 g a_T u_T_4 v_T ++ X) S hE hw 1 rfl h_3 (by rw [eu_T_4]; rfl) dX5_add_25 (fun H locs hw => ?_)
      refine lv_aload_n hx hb dX5_add_26 rfl (lv_at hl 0 rfl) ?_
      refine gf_X5_15 S hE hw 0 rfl rfl dX5_add_27 ?_
      refine lv_aload_n hx hb dX5_add_30 rfl (lv_at hl 0 rfl) ?_
      refine gf_X5_28 S hE hw 0 rfl rfl dX5_add_31 ?_
      refine lv_iload_n hx hb dX5_add_34 rfl (lv_at hl 2 rfl) ?_
      obtain ⟨h_5, hf⟩ := tx_ck_e hf
      obtain ⟨u_T_6, eu_T_6⟩ : ∃ z : S32, z = up2 u_T_4 2 (u_T_4 0 5).toNatClampNeg x2 := ⟨_, rfl⟩
      replace hf := tx_let_e hf eu_T_6
      refine tx_iast (ws' := cl_X5 g a_T u_T_6 v_T ++ X) S hE hw 2 rfl h_5 (by rw [eu_T_6]; rfl) dX5_add_35 (fun H locs hw => ?_)
      refine lv_aload_n hx hb dX5_add_36 rfl (lv_at hl 0 rfl) ?_
      refine lv_dup hx hb dX5_add_37 rfl ?_
      refine gf_X5_28 S hE hw 0 rfl rfl dX5_add_38 ?_
      refine lv_iconst (v := 1) hx hb dX5_add_41 (by decide) ?_
      refine lv_iadd hx hb dX5_add_42 ?_
      obtain ⟨u_T_7, eu_T_7⟩ : ∃ z : S32, z = up2 u_T_6 0 5 ((u_T_6 0 5) + (1 : Int32)) := ⟨_, rfl⟩
      replace hf := tx_let_e hf eu_T_7
      refine pf_X5_28 (ws' := cl_X5 g a_T u_T_7 v_T ++ X) S hE hw rfl rfl 0 rfl (Nat.le_of_ble_eq_true rfl) (by rw [eu_T_7]; rfl) dX5_add_43 (fun H locs hw => ?_)
      obtain e0 := tx_in1 hf
      rw [← e0]
      exact tx_vret S hr hlk hw dX5_add_46
def f_X4_release_J0 (fu : Nat) (v_L : S64) (K0 : S32 → S32 → Int32 → Option (S32 × S32)) (u_T : S32) (u_L : S32) (w1 : Int32) : Option (S32 × S32) := if (u_T 0 2) ≤ (0 : Int32) then (some (u_T, u_L)) else (if (72 : Int32) < (u_T 0 2) then (some (u_T, u_L)) else (tx_ck ((u_T 0 2) - (1 : Int32)) 72 <| tx_b1 (f_X4_rankOf fu (u_T 2 ((u_T 0 2) - (1 : Int32)).toNatClampNeg)) fun (r_5 : Int32) => if r_5 < w1 then (some (u_T, u_L)) else (tx_let (up2 u_T 0 2 ((u_T 0 2) - (1 : Int32))) fun (u_T_7 : S32) => tx_ck (u_T_7 0 2) 72 <| tx_b1 (f_X5_add fu v_L u_L (u_T_7 2 (u_T_7 0 2).toNatClampNeg) (0 : Int32)) fun (u_L_10 : S32) => K0 u_T_7 u_L_10 w1)))
def f_X4_release_L0 (fu : Nat) (v_L : S64) : Nat → S32 → S32 → Int32 → Option (S32 × S32)
  | 0 => fun _ _ _ => none
  | n + 1 => f_X4_release_J0 fu v_L (f_X4_release_L0 fu v_L n)
def f_X4_release (fu : Nat) (v_L : S64) (u_T : S32) (u_L : S32) (x1 : Int32) : Option (S32 × S32) := f_X4_release_L0 fu v_L fu u_T u_L x1
set_option maxHeartbeats 4000000 in
set_option maxRecDepth 100000 in
theorem c_X4_release {l : Launch} {g : GG} {A : Nat → Prop} {X : va_W} {fu : Nat} {a_T a_L : Nat → Nat} {p_T_0 : Nat} {u_T : S32} {u_L : S32} {v_L : S64} {x1 : Int32} {zu_T : S32} {zu_L : S32} (hf : f_X4_release fu v_L u_T u_L x1 = some (zu_T, zu_L)) : MV l yX4_release cX4_release 2 none 1 g A (cl_X4 g a_T p_T_0 (a_L 0) u_T ++ (cl_X5 g a_L u_L v_L ++ X)) [.ref (a_T 0), .int x1] (cl_X4 g a_T p_T_0 (a_L 0) zu_T ++ (cl_X5 g a_L zu_L v_L ++ X)) := by
  refine tx_start (av := [.ref (a_T 0), .int x1]) (by decide) (Nat.le_of_ble_eq_true rfl) ?_
  intro p e s m below meth c ls S hr hlk hE hw hl
  have S : CallFix p m c cX4_release 2 s (List.toArray [.ref (a_T 0), .int x1]) (Cond.code yX4_release cX4_release 2 none :: allW) RX4 := S
  have hx := S.1
  have hb := S.2.1
  have hown := S.2.2.2.1
  have hts : ∀ w ∈ allW, w.before (List.toArray [.ref (a_T 0), .int x1]) s = true := fun w h => S.2.2.2.2 w (List.mem_cons_of_mem _ h)
  have hl : lv_has ls 2 [(0, .ref (a_T 0)), (1, .int x1)] := hl
  have J0 : ∀ {K0 : S32 → S32 → Int32 → Option (S32 × S32)} (hK0 : ∀ {u_T : S32} {u_L : S32} {w1 : Int32} {H : Heap} {locs : List Loc} {ls : Array Slot}, K0 u_T u_L w1 = some (zu_T, zu_L) → WD g A s.heap (cl_X4 g a_T p_T_0 (a_L 0) u_T ++ (cl_X5 g a_L u_L v_L ++ X)) H locs → lv_has ls 2 [(0, .ref (a_T 0)), (1, .int w1)] → W p l e (rmH 1) s m (List.toArray [.ref (a_T 0), .int x1]) below meth c H locs 0 0 (MQ below (va_Qv (fun (_ : Unit) => True) (fun _ t => POST g A (cl_X4 g a_T p_T_0 (a_L 0) zu_T ++ (cl_X5 g a_L zu_L v_L ++ X)) t) A) (List.toArray [.ref (a_T 0), .int x1]) s 0 0 A) (F0 m 0 ls [])), ∀ {u_T : S32} {u_L : S32} {w1 : Int32} {H : Heap} {locs : List Loc} {ls : Array Slot}, f_X4_release_J0 fu v_L K0 u_T u_L w1 = some (zu_T, zu_L) → WD g A s.heap (cl_X4 g a_T p_T_0 (a_L 0) u_T ++ (cl_X5 g a_L u_L v_L ++ X)) H locs → lv_has ls 2 [(0, .ref (a_T 0)), (1, .int w1)] → W p l e (rmH 1) s m (List.toArray [.ref (a_T 0), .int x1]) below meth c H locs 0 0 (MQ below (va_Qv (fun (_ : Unit) => True) (fun _ t => POST g A (cl_X4 g a_T p_T_0 (a_L 0) zu_T ++ (cl_X5 g a_L zu_L v_L ++ X)) t) A) (List.toArray [.ref (a_T 0), .int x1]) s 0 0 A) (F0 m 0 ls []) := by
    intro K0 hK0 u_T u_L w1 H locs ls hf hw hl
    unfold f_X4_release_J0 at hf
    refine lv_aload_n hx hb dX4_release_0 rfl (lv_at hl 0 rfl) ?_
    refine gf_X4_33 S hE hw 0 rfl rfl dX4_release_1 ?_
    refine lv_if_le (tgt := 64) hx hb dX4_release_4 (by decide) (fun h_1 => ?_) (fun h_1 => ?_)
    · replace hf := tx_pos hf h_1
      obtain ⟨e0, e1⟩ := tx_in2 hf
      rw [← e0, ← e1]
      exact tx_vret S hr hlk hw dX4_release_64
    · replace hf := tx_neg hf h_1
      refine lv_aload_n hx hb dX4_release_7 rfl (lv_at hl 0 rfl) ?_
      refine gf_X4_33 S hE hw 0 rfl rfl dX4_release_8 ?_
      refine lv_bipush (v := 72) hx hb dX4_release_11 (by decide) ?_
      refine lv_icmp_gt (tgt := 64) hx hb dX4_release_13 (by decide) (fun h_2 => ?_) (fun h_2 => ?_)
      · replace hf := tx_pos hf h_2
        obtain ⟨e0, e1⟩ := tx_in2 hf
        rw [← e0, ← e1]
        exact tx_vret S hr hlk hw dX4_release_64
      · replace hf := tx_neg hf h_2
        refine lv_aload_n hx hb dX4_release_16 rfl (lv_at hl 0 rfl) ?_
        refine gf_X4_13 S hE hw 0 rfl rfl dX4_release_17 ?_
        refine lv_aload_n hx hb dX4_release_20 rfl (lv_at hl 0 rfl) ?_
        refine gf_X4_33 S hE hw 0 rfl rfl dX4_release_21 ?_
        refine lv_iconst (v := 1) hx hb dX4_release_24 (by decide) ?_
        refine lv_isub hx hb dX4_release_25 ?_
        obtain ⟨h_3, hf⟩ := tx_ck_e hf
        refine tx_iald S hE hw 1 rfl h_3 dX4_release_26 ?_
        obtain ⟨r_5, h_4, hf⟩ := tx_b1_e hf
        refine tx_ci hw (tx_runS S hE hw (c_X4_rankOf h_4) lk_X4_108 rfl hl.1 (rest := []) rfl (Nat.le_of_ble_eq_true rfl) ⟨by decide, by decide⟩ dX4_release_27 ⟨Nat.zero_le _, Nat.zero_le _⟩) (fun H locs hw => ?_)
        refine lv_iload_n hx hb dX4_release_30 rfl (lv_at hl 1 rfl) ?_
        refine lv_icmp_lt (tgt := 64) hx hb dX4_release_31 (by decide) (fun h_6 => ?_) (fun h_6 => ?_)
        · replace hf := tx_pos hf h_6
          obtain ⟨e0, e1⟩ := tx_in2 hf
          rw [← e0, ← e1]
          exact tx_vret S hr hlk hw dX4_release_64
        · replace hf := tx_neg hf h_6
          refine lv_aload_n hx hb dX4_release_34 rfl (lv_at hl 0 rfl) ?_
          refine lv_dup hx hb dX4_release_35 rfl ?_
          refine gf_X4_33 S hE hw 0 rfl rfl dX4_release_36 ?_
          refine lv_iconst (v := 1) hx hb dX4_release_39 (by decide) ?_
          refine lv_isub hx hb dX4_release_40 ?_
          obtain ⟨u_T_7, eu_T_7⟩ : ∃ z : S32, z = up2 u_T 0 2 ((u_T 0 2) - (1 : Int32)) := ⟨_, rfl⟩
          replace hf := tx_let_e hf eu_T_7
          refine pf_X4_33 (ws' := cl_X4 g a_T p_T_0 (a_L 0) u_T_7 ++ (cl_X5 g a_L u_L v_L ++ X)) S hE hw rfl rfl 0 rfl (Nat.le_of_ble_eq_true rfl) (by rw [eu_T_7]; rfl) dX4_release_41 (fun H locs hw => ?_)
          refine lv_aload_n hx hb dX4_release_44 rfl (lv_at hl 0 rfl) ?_
          refine gf_X4_25 S hE hw 0 rfl rfl dX4_release_45 ?_
          refine lv_aload_n hx hb dX4_release_48 rfl (lv_at hl 0 rfl) ?_
          refine gf_X4_13 S hE hw 0 rfl rfl dX4_release_49 ?_
          refine lv_aload_n hx hb dX4_release_52 rfl (lv_at hl 0 rfl) ?_
          refine gf_X4_33 S hE hw 0 rfl rfl dX4_release_53 ?_
          obtain ⟨h_8, hf⟩ := tx_ck_e hf
          refine tx_iald S hE hw 1 rfl h_8 dX4_release_56 ?_
          refine lv_iconst (v := 0) hx hb dX4_release_57 (by decide) ?_
          have hw := hw.u1
          obtain ⟨u_L_10, h_9, hf⟩ := tx_b1_e hf
          refine tx_cv hw (tx_runN S hE hw (c_X5_add h_9) lk_X4_98 (q0 := 0) rfl rfl rfl hl.1 (rest := []) rfl (Nat.le_of_ble_eq_true rfl) ⟨by decide, by decide⟩ dX4_release_58 ⟨Nat.zero_le _, Nat.zero_le _⟩) (fun H locs hw => ?_)
          refine lv_goto (tgt := 0) hx hb dX4_release_61 (by decide) ?_
          have hw := hw.u1
          exact hK0 hf hw (lv_sub hl [0, 1] rfl)
  have L0 : ∀ (n : Nat), ∀ {u_T : S32} {u_L : S32} {w1 : Int32} {H : Heap} {locs : List Loc} {ls : Array Slot}, f_X4_release_L0 fu v_L n u_T u_L w1 = some (zu_T, zu_L) → WD g A s.heap (cl_X4 g a_T p_T_0 (a_L 0) u_T ++ (cl_X5 g a_L u_L v_L ++ X)) H locs → lv_has ls 2 [(0, .ref (a_T 0)), (1, .int w1)] → W p l e (rmH 1) s m (List.toArray [.ref (a_T 0), .int x1]) below meth c H locs 0 0 (MQ below (va_Qv (fun (_ : Unit) => True) (fun _ t => POST g A (cl_X4 g a_T p_T_0 (a_L 0) zu_T ++ (cl_X5 g a_L zu_L v_L ++ X)) t) A) (List.toArray [.ref (a_T 0), .int x1]) s 0 0 A) (F0 m 0 ls []) := by
    intro  n
    induction n with
    | zero => intro u_T u_L w1 H locs ls hf; exact absurd hf (by intro q; cases q)
    | succ n ih => exact fun hf hw hl => J0 ih hf hw hl
  unfold f_X4_release at hf
  exact L0 fu hf hw (lv_sub hl [0, 1] rfl)
