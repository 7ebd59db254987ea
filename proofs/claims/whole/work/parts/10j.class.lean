def f_X3_restAt (fu : Nat) (u_T : S32) (x1 : Int32) : Option (Int32) := if x1 < (0 : Int32) then (some (-2 : Int32)) else (if (u_T 0 1) ≤ x1 then (some (-2 : Int32)) else (if (4 : Int32) ≤ x1 then (some (-2 : Int32)) else (tx_ck x1 4 <| some (u_T 1 x1.toNatClampNeg))))
set_option maxHeartbeats 4000000 in
set_option maxRecDepth 100000 in
theorem c_X3_restAt {l : Launch} {g : GG} {A : Nat → Prop} {X : va_W} {fu : Nat} {a_T : Nat → Nat} {u_T : S32} {x1 : Int32} {r : Int32} (hf : f_X3_restAt fu u_T x1 = some r) : MI l yX3_restAt cX3_restAt 2 (some .int) 0 g A (cl_X3 g a_T u_T ++ X) [.ref (a_T 0), .int x1] r (cl_X3 g a_T u_T ++ X) := by
  refine tx_start (av := [.ref (a_T 0), .int x1]) (by decide) (Nat.le_of_ble_eq_true rfl) ?_
  intro p e s m below meth c ls S hr hlk hE hw hl
  have S : CallFix p m c cX3_restAt 2 s (List.toArray [.ref (a_T 0), .int x1]) (Cond.code yX3_restAt cX3_restAt 2 (some .int) :: allW) RX3 := S
  have hx := S.1
  have hb := S.2.1
  have hown := S.2.2.2.1
  have hts : ∀ w ∈ allW, w.before (List.toArray [.ref (a_T 0), .int x1]) s = true := fun w h => S.2.2.2.2 w (List.mem_cons_of_mem _ h)
  have hl : lv_has ls 2 [(0, .ref (a_T 0)), (1, .int x1)] := hl
  unfold f_X3_restAt at hf
  refine lv_iload_n hx hb dX3_restAt_0 rfl (lv_at hl 1 rfl) ?_
  refine lv_if_lt (tgt := 30) hx hb dX3_restAt_1 (by decide) (fun h_1 => ?_) (fun h_1 => ?_)
  · replace hf := tx_pos hf h_1
    refine lv_bipush (v := -2) hx hb dX3_restAt_30 (by decide) ?_
    obtain e0 := tx_in1 hf
    rw [← e0]
    exact tx_iret S hr hlk hw dX3_restAt_32
  · replace hf := tx_neg hf h_1
    refine lv_iload_n hx hb dX3_restAt_4 rfl (lv_at hl 1 rfl) ?_
    refine lv_aload_n hx hb dX3_restAt_5 rfl (lv_at hl 0 rfl) ?_
    refine gf_X3_25 S hE hw 0 rfl rfl dX3_restAt_6 ?_
    refine lv_icmp_ge (tgt := 30) hx hb dX3_restAt_9 (by decide) (fun h_2 => ?_) (fun h_2 => ?_)
    · replace hf := tx_pos hf h_2
      refine lv_bipush (v := -2) hx hb dX3_restAt_30 (by decide) ?_
      obtain e0 := tx_in1 hf
      rw [← e0]
      exact tx_iret S hr hlk hw dX3_restAt_32
    · replace hf := tx_neg hf h_2
      refine lv_iload_n hx hb dX3_restAt_12 rfl (lv_at hl 1 rfl) ?_
      refine lv_aload_n hx hb dX3_restAt_13 rfl (lv_at hl 0 rfl) ?_
      refine gf_X3_15 S hE hw 0 rfl rfl dX3_restAt_14 ?_
      refine tx_alen (v := 4) S hE hw 1 1 rfl rfl rfl dX3_restAt_17 ?_
      refine lv_icmp_ge (tgt := 30) hx hb dX3_restAt_18 (by decide) (fun h_3 => ?_) (fun h_3 => ?_)
      · replace hf := tx_pos hf h_3
        refine lv_bipush (v := -2) hx hb dX3_restAt_30 (by decide) ?_
        obtain e0 := tx_in1 hf
        rw [← e0]
        exact tx_iret S hr hlk hw dX3_restAt_32
      · replace hf := tx_neg hf h_3
        refine lv_aload_n hx hb dX3_restAt_21 rfl (lv_at hl 0 rfl) ?_
        refine gf_X3_15 S hE hw 0 rfl rfl dX3_restAt_22 ?_
        refine lv_iload_n hx hb dX3_restAt_25 rfl (lv_at hl 1 rfl) ?_
        obtain ⟨h_4, hf⟩ := tx_ck_e hf
        refine tx_iald S hE hw 1 rfl h_4 dX3_restAt_26 ?_
        refine lv_goto (tgt := 32) hx hb dX3_restAt_27 (by decide) ?_
        obtain e0 := tx_in1 hf
        rw [← e0]
        exact tx_iret S hr hlk hw dX3_restAt_32
def f_X11_rest (fu : Nat) (u_T : S32) (u_W : S32) (u_B : S32) (u_G : S32) (x1 : Int32) : Option (Int32 × S32) := if (0 : Int32) ≤ x1 then (tx_b1 (f_X10_heldWorth fu u_W u_B) fun (r_3 : Int32) => tx_b1 (f_X3_play fu u_G r_3 (u_W 0 2)) fun (u_G_5 : S32) => tx_b1 (f_X3_restAt fu u_G_5 x1) fun (r_7 : Int32) => some (r_7, u_G_5)) else (some ((-1 : Int32), u_G))
set_option maxHeartbeats 4000000 in
set_option maxRecDepth 100000 in
theorem c_X11_rest {l : Launch} {g : GG} {A : Nat → Prop} {X : va_W} {fu : Nat} {a_T a_W a_B a_G : Nat → Nat} {p_T_0 p_T_2 p_T_3 p_T_5 p_T_6 p_T_7 p_T_8 p_W_16 p_B_17 : Nat} {u_T : S32} {u_W : S32} {u_B : S32} {u_G : S32} {x1 : Int32} {r : Int32} {zu_G : S32} (hf : f_X11_rest fu u_T u_W u_B u_G x1 = some (r, zu_G)) : MI l yX11_rest cX11_rest 2 (some .int) 4 g A (cl_X11 g a_T p_T_0 (a_B 0) p_T_2 p_T_3 (a_W 0) p_T_5 p_T_6 p_T_7 p_T_8 (a_G 0) u_T ++ (cl_X10 g a_W (a_B 0) p_W_16 u_W ++ (cl_X0 g a_B p_B_17 u_B ++ (cl_X3 g a_G u_G ++ X)))) [.ref (a_T 0), .int x1] r (cl_X11 g a_T p_T_0 (a_B 0) p_T_2 p_T_3 (a_W 0) p_T_5 p_T_6 p_T_7 p_T_8 (a_G 0) u_T ++ (cl_X10 g a_W (a_B 0) p_W_16 u_W ++ (cl_X0 g a_B p_B_17 u_B ++ (cl_X3 g a_G zu_G ++ X)))) := by
  refine tx_start (av := [.ref (a_T 0), .int x1]) (by decide) (Nat.le_of_ble_eq_true rfl) ?_
  intro p e s m below meth c ls S hr hlk hE hw hl
  have S : CallFix p m c cX11_rest 2 s (List.toArray [.ref (a_T 0), .int x1]) (Cond.code yX11_rest cX11_rest 2 (some .int) :: allW) RX11 := S
  have hx := S.1
  have hb := S.2.1
  have hown := S.2.2.2.1
  have hts : ∀ w ∈ allW, w.before (List.toArray [.ref (a_T 0), .int x1]) s = true := fun w h => S.2.2.2.2 w (List.mem_cons_of_mem _ h)
  have hl : lv_has ls 2 [(0, .ref (a_T 0)), (1, .int x1)] := hl
  unfold f_X11_rest at hf
  refine lv_iload_n hx hb dX11_rest_0 rfl (lv_at hl 1 rfl) ?_
  refine lv_if_ge (tgt := 6) hx hb dX11_rest_1 (by decide) (fun h_1 => ?_) (fun h_1 => ?_)
  · replace hf := tx_pos hf h_1
    refine lv_aload_n hx hb dX11_rest_6 rfl (lv_at hl 0 rfl) ?_
    refine gf_X11_73 S hE hw 0 rfl rfl dX11_rest_7 ?_
    refine lv_aload_n hx hb dX11_rest_10 rfl (lv_at hl 0 rfl) ?_
    refine gf_X11_42 S hE hw 0 rfl rfl dX11_rest_11 ?_
    have hw := hw.u2
    have hw := hw.u2
    obtain ⟨r_3, h_2, hf⟩ := tx_b1_e hf
    refine tx_ci hw (tx_runN S hE hw (c_X10_heldWorth h_2) lk_X11_259 (q0 := 0) rfl rfl rfl hl.1 (rest := [.ref (a_G 0)]) rfl (Nat.le_of_ble_eq_true rfl) ⟨by decide, by decide⟩ dX11_rest_14 ⟨Nat.zero_le _, Nat.zero_le _⟩) (fun H locs hw => ?_)
    refine lv_aload_n hx hb dX11_rest_17 rfl (lv_at hl 0 rfl) ?_
    refine gf_X11_42 S hE hw 23 rfl rfl dX11_rest_18 ?_
    refine gf_X11_207 S hE hw 0 rfl rfl dX11_rest_21 ?_
    have hw := hw.u3
    obtain ⟨u_G_5, h_4, hf⟩ := tx_b1_e hf
    refine tx_cv hw (tx_runN S hE hw (c_X3_play h_4) lk_X11_263 (q0 := 0) rfl rfl rfl hl.1 (rest := []) rfl (Nat.le_of_ble_eq_true rfl) ⟨by decide, by decide⟩ dX11_rest_24 ⟨Nat.zero_le _, Nat.zero_le _⟩) (fun H locs hw => ?_)
    refine lv_aload_n hx hb dX11_rest_27 rfl (lv_at hl 0 rfl) ?_
    refine gf_X11_73 S hE hw 25 rfl rfl dX11_rest_28 ?_
    refine lv_iload_n hx hb dX11_rest_31 rfl (lv_at hl 1 rfl) ?_
    obtain ⟨r_7, h_6, hf⟩ := tx_b1_e hf
    refine tx_ci hw (tx_runN S hE hw (c_X3_restAt h_6) lk_X11_270 (q0 := 0) rfl rfl rfl hl.1 (rest := []) rfl (Nat.le_of_ble_eq_true rfl) ⟨by decide, by decide⟩ dX11_rest_32 ⟨Nat.zero_le _, Nat.zero_le _⟩) (fun H locs hw => ?_)
    have hw := hw.u2
    have hw := hw.u2
    have hw := hw.u3
    obtain ⟨e0, e1⟩ := tx_in2 hf
    rw [← e0, ← e1]
    exact tx_iret S hr hlk hw dX11_rest_35
  · replace hf := tx_neg hf h_1
    refine lv_iconst (v := -1) hx hb dX11_rest_4 (by decide) ?_
    obtain ⟨e0, e1⟩ := tx_in2 hf
    rw [← e0, ← e1]
    exact tx_iret S hr hlk hw dX11_rest_5
def f_X10_heldWorthAt_J44 (fu : Nat) (u_T : S32) (u_B : S32) (K4 : Int32 → Int32 → Int32 → Option (Int32)) (w1 : Int32) (w3 : Int32) (t0 : Int32) (t1 : Int32) : Option (Int32) := tx_let (t0 + t1) fun (y_7 : Int32) => tx_let (w3 + (1 : Int32)) fun (y_8 : Int32) => K4 w1 y_7 y_8
def f_X10_heldWorthAt_J4 (fu : Nat) (u_T : S32) (u_B : S32) (K4 : Int32 → Int32 → Int32 → Option (Int32)) (w1 : Int32) (w2 : Int32) (w3 : Int32) : Option (Int32) := if (u_B 0 5) ≤ w3 then (some w2) else (if (12 : Int32) ≤ w3 then (some w2) else (tx_b1 (f_X10_isHeldAt fu u_T u_B w3 w1) fun (r_4 : Int32) => if r_4 = (0 : Int32) then (f_X10_heldWorthAt_J44 fu u_T u_B K4 w1 w3 w2 (0 : Int32)) else (tx_ck w3 12 <| f_X10_heldWorthAt_J44 fu u_T u_B K4 w1 w3 w2 (u_B 8 w3.toNatClampNeg))))
def f_X10_heldWorthAt_L4 (fu : Nat) (u_T : S32) (u_B : S32) : Nat → Int32 → Int32 → Int32 → Option (Int32)
  | 0 => fun _ _ _ => none
  | n + 1 => f_X10_heldWorthAt_J4 fu u_T u_B (f_X10_heldWorthAt_L4 fu u_T u_B n)
def f_X10_heldWorthAt (fu : Nat) (u_T : S32) (u_B : S32) (x1 : Int32) : Option (Int32) := f_X10_heldWorthAt_L4 fu u_T u_B fu x1 (0 : Int32) (0 : Int32)
set_option maxHeartbeats 4000000 in
set_option maxRecDepth 100000 in
theorem c_X10_heldWorthAt {l : Launch} {g : GG} {A : Nat → Prop} {X : va_W} {fu : Nat} {a_T a_B : Nat → Nat} {p_T_16 p_B_17 : Nat} {u_T : S32} {u_B : S32} {x1 : Int32} {r : Int32} (hf : f_X10_heldWorthAt fu u_T u_B x1 = some r) : MI l yX10_heldWorthAt cX10_heldWorthAt 4 (some .int) 2 g A (cl_X10 g a_T (a_B 0) p_T_16 u_T ++ (cl_X0 g a_B p_B_17 u_B ++ X)) [.ref (a_T 0), .int x1] r (cl_X10 g a_T (a_B 0) p_T_16 u_T ++ (cl_X0 g a_B p_B_17 u_B ++ X)) := by
  refine tx_start (av := [.ref (a_T 0), .int x1]) (by decide) (Nat.le_of_ble_eq_true rfl) ?_
  intro p e s m below meth c ls S hr hlk hE hw hl
  have S : CallFix p m c cX10_heldWorthAt 4 s (List.toArray [.ref (a_T 0), .int x1]) (Cond.code yX10_heldWorthAt cX10_heldWorthAt 4 (some .int) :: allW) RX10 := S
  have hx := S.1
  have hb := S.2.1
  have hown := S.2.2.2.1
  have hts : ∀ w ∈ allW, w.before (List.toArray [.ref (a_T 0), .int x1]) s = true := fun w h => S.2.2.2.2 w (List.mem_cons_of_mem _ h)
  have hl : lv_has ls 4 [(0, .ref (a_T 0)), (1, .int x1)] := hl
  have J44 : ∀ {K4 : Int32 → Int32 → Int32 → Option (Int32)} (hK4 : ∀ {w1 : Int32} {w2 : Int32} {w3 : Int32} {H : Heap} {locs : List Loc} {ls : Array Slot}, K4 w1 w2 w3 = some r → WD g A s.heap (cl_X10 g a_T (a_B 0) p_T_16 u_T ++ (cl_X0 g a_B p_B_17 u_B ++ X)) H locs → lv_has ls 4 [(0, .ref (a_T 0)), (1, .int w1), (2, .int w2), (3, .int w3)] → W p l e (rmH 2) s m (List.toArray [.ref (a_T 0), .int x1]) below meth c H locs 0 0 (MQ below (va_Qi (fun r2 (_ : Unit) => r2 = r) (fun _ t => POST g A (cl_X10 g a_T (a_B 0) p_T_16 u_T ++ (cl_X0 g a_B p_B_17 u_B ++ X)) t) A) (List.toArray [.ref (a_T 0), .int x1]) s 0 0 A) (F0 m 4 ls [])), ∀ {w1 : Int32} {w3 : Int32} {t0 : Int32} {t1 : Int32} {H : Heap} {locs : List Loc} {ls : Array Slot}, f_X10_heldWorthAt_J44 fu u_T u_B K4 w1 w3 t0 t1 = some r → WD g A s.heap (cl_X10 g a_T (a_B 0) p_T_16 u_T ++ (cl_X0 g a_B p_B_17 u_B ++ X)) H locs → lv_has ls 4 [(0, .ref (a_T 0)), (1, .int w1), (3, .int w3)] → W p l e (rmH 2) s m (List.toArray [.ref (a_T 0), .int x1]) below meth c H locs 0 0 (MQ below (va_Qi (fun r2 (_ : Unit) => r2 = r) (fun _ t => POST g A (cl_X10 g a_T (a_B 0) p_T_16 u_T ++ (cl_X0 g a_B p_B_17 u_B ++ X)) t) A) (List.toArray [.ref (a_T 0), .int x1]) s 0 0 A) (F0 m 44 ls [.int t1, .int t0]) := by
    intro K4 hK4 w1 w3 t0 t1 H locs ls hf hw hl
    unfold f_X10_heldWorthAt_J44 at hf
    refine lv_iadd hx hb dX10_heldWorthAt_44 ?_
    refine lv_topi (fun y_7 ey_7 => ?_)
    replace hf := tx_let_e hf ey_7
    refine lv_istore_n (lv' := [(2, .int y_7), (0, .ref (a_T 0)), (1, .int w1), (3, .int w3)]) hx hb dX10_heldWorthAt_45 rfl hl (by decide) rfl (fun ls hl => ?_)
    obtain ⟨y_8, ey_8⟩ : ∃ y : Int32, y = w3 + (1 : Int32) := ⟨_, rfl⟩
    replace hf := tx_let_e hf ey_8
    refine lv_iinc (v := y_8) (lv' := [(3, .int y_8), (2, .int y_7), (0, .ref (a_T 0)), (1, .int w1)]) hx hb dX10_heldWorthAt_46 hl (k := 3) rfl (by rw [ey_8]; rfl) (by decide) rfl (fun ls hl => ?_)
    refine lv_goto (tgt := 4) hx hb dX10_heldWorthAt_49 (by decide) ?_
    exact hK4 hf hw (lv_sub hl [2, 3, 1, 0] rfl)
  have J4 : ∀ {K4 : Int32 → Int32 → Int32 → Option (Int32)} (hK4 : ∀ {w1 : Int32} {w2 : Int32} {w3 : Int32} {H : Heap} {locs : List Loc} {ls : Array Slot}, K4 w1 w2 w3 = some r → WD g A s.heap (cl_X10 g a_T (a_B 0) p_T_16 u_T ++ (cl_X0 g a_B p_B_17 u_B ++ X)) H locs → lv_has ls 4 [(0, .ref (a_T 0)), (1, .int w1), (2, .int w2), (3, .int w3)] → W p l e (rmH 2) s m (List.toArray [.ref (a_T 0), .int x1]) below meth c H locs 0 0 (MQ below (va_Qi (fun r2 (_ : Unit) => r2 = r) (fun _ t => POST g A (cl_X10 g a_T (a_B 0) p_T_16 u_T ++ (cl_X0 g a_B p_B_17 u_B ++ X)) t) A) (List.toArray [.ref (a_T 0), .int x1]) s 0 0 A) (F0 m 4 ls [])), ∀ {w1 : Int32} {w2 : Int32} {w3 : Int32} {H : Heap} {locs : List Loc} {ls : Array Slot}, f_X10_heldWorthAt_J4 fu u_T u_B K4 w1 w2 w3 = some r → WD g A s.heap (cl_X10 g a_T (a_B 0) p_T_16 u_T ++ (cl_X0 g a_B p_B_17 u_B ++ X)) H locs → lv_has ls 4 [(0, .ref (a_T 0)), (1, .int w1), (2, .int w2), (3, .int w3)] → W p l e (rmH 2) s m (List.toArray [.ref (a_T 0), .int x1]) below meth c H locs 0 0 (MQ below (va_Qi (fun r2 (_ : Unit) => r2 = r) (fun _ t => POST g A (cl_X10 g a_T (a_B 0) p_T_16 u_T ++ (cl_X0 g a_B p_B_17 u_B ++ X)) t) A) (List.toArray [.ref (a_T 0), .int x1]) s 0 0 A) (F0 m 4 ls []) := by
    intro K4 hK4 w1 w2 w3 H locs ls hf hw hl
    unfold f_X10_heldWorthAt_J4 at hf
    refine lv_iload_n hx hb dX10_heldWorthAt_4 rfl (lv_at hl 3 rfl) ?_
    refine lv_aload_n hx hb dX10_heldWorthAt_5 rfl (lv_at hl 0 rfl) ?_
    refine gf_X10_49 S hE hw 0 rfl rfl dX10_heldWorthAt_6 ?_
    refine gf_X10_117 S hE hw 12 rfl rfl dX10_heldWorthAt_9 ?_
    refine lv_icmp_ge (tgt := 52) hx hb dX10_heldWorthAt_12 (by decide) (fun h_1 => ?_) (fun h_1 => ?_)
    · replace hf := tx_pos hf h_1
      refine lv_iload_n hx hb dX10_heldWorthAt_52 rfl (lv_at hl 2 rfl) ?_
      obtain e0 := tx_in1 hf
      rw [← e0]
      exact tx_iret S hr hlk hw dX10_heldWorthAt_53
    · replace hf := tx_neg hf h_1
      refine lv_iload_n hx hb dX10_heldWorthAt_15 rfl (lv_at hl 3 rfl) ?_
      refine lv_bipush (v := 12) hx hb dX10_heldWorthAt_16 (by decide) ?_
      refine lv_icmp_ge (tgt := 52) hx hb dX10_heldWorthAt_18 (by decide) (fun h_2 => ?_) (fun h_2 => ?_)
      · replace hf := tx_pos hf h_2
        refine lv_iload_n hx hb dX10_heldWorthAt_52 rfl (lv_at hl 2 rfl) ?_
        obtain e0 := tx_in1 hf
        rw [← e0]
        exact tx_iret S hr hlk hw dX10_heldWorthAt_53
      · replace hf := tx_neg hf h_2
        refine lv_iload_n hx hb dX10_heldWorthAt_21 rfl (lv_at hl 2 rfl) ?_
        refine lv_aload_n hx hb dX10_heldWorthAt_22 rfl (lv_at hl 0 rfl) ?_
        refine lv_iload_n hx hb dX10_heldWorthAt_23 rfl (lv_at hl 3 rfl) ?_
        refine lv_iload_n hx hb dX10_heldWorthAt_24 rfl (lv_at hl 1 rfl) ?_
        obtain ⟨r_4, h_3, hf⟩ := tx_b1_e hf
        refine tx_ci hw (tx_runV S hE hw (c_X10_isHeldAt h_3) lk_X10_133 (q0 := 0) rfl rfl rfl hl.1 (rest := [.int w2]) rfl (Nat.le_of_ble_eq_true rfl) ⟨by decide, by decide⟩ dX10_heldWorthAt_25 ⟨Nat.zero_le _, Nat.zero_le _⟩) (fun H locs hw => ?_)
        refine lv_if_eq (tgt := 43) hx hb dX10_heldWorthAt_28 (by decide) (fun h_5 => ?_) (fun h_5 => ?_)
        · replace hf := tx_pos hf h_5
          refine lv_iconst (v := 0) hx hb dX10_heldWorthAt_43 (by decide) ?_
          exact J44 hK4 hf hw (lv_sub hl [0, 1, 3] rfl)
        · replace hf := tx_neg hf h_5
          refine lv_aload_n hx hb dX10_heldWorthAt_31 rfl (lv_at hl 0 rfl) ?_
          refine gf_X10_49 S hE hw 0 rfl rfl dX10_heldWorthAt_32 ?_
          refine gf_X10_141 S hE hw 12 rfl rfl dX10_heldWorthAt_35 ?_
          refine lv_iload_n hx hb dX10_heldWorthAt_38 rfl (lv_at hl 3 rfl) ?_
          obtain ⟨h_6, hf⟩ := tx_ck_e hf
          refine tx_iald S hE hw 17 rfl h_6 dX10_heldWorthAt_39 ?_
          refine lv_goto (tgt := 44) hx hb dX10_heldWorthAt_40 (by decide) ?_
          exact J44 hK4 hf hw (lv_sub hl [0, 1, 3] rfl)
  have L4 : ∀ (n : Nat), ∀ {w1 : Int32} {w2 : Int32} {w3 : Int32} {H : Heap} {locs : List Loc} {ls : Array Slot}, f_X10_heldWorthAt_L4 fu u_T u_B n w1 w2 w3 = some r → WD g A s.heap (cl_X10 g a_T (a_B 0) p_T_16 u_T ++ (cl_X0 g a_B p_B_17 u_B ++ X)) H locs → lv_has ls 4 [(0, .ref (a_T 0)), (1, .int w1), (2, .int w2), (3, .int w3)] → W p l e (rmH 2) s m (List.toArray [.ref (a_T 0), .int x1]) below meth c H locs 0 0 (MQ below (va_Qi (fun r2 (_ : Unit) => r2 = r) (fun _ t => POST g A (cl_X10 g a_T (a_B 0) p_T_16 u_T ++ (cl_X0 g a_B p_B_17 u_B ++ X)) t) A) (List.toArray [.ref (a_T 0), .int x1]) s 0 0 A) (F0 m 4 ls []) := by
    intro  n
    induction n with
    | zero => intro w1 w2 w3 H locs ls hf; exact absurd hf (by intro q; cases q)
    | succ n ih => exact fun hf hw hl => J4 ih hf hw hl
  unfold f_X10_heldWorthAt at hf
  refine lv_iconst (v := 0) hx hb dX10_heldWorthAt_0 (by decide) ?_
  refine lv_istore_n (lv' := [(2, .int (0 : Int32)), (0, .ref (a_T 0)), (1, .int x1)]) hx hb dX10_heldWorthAt_1 rfl hl (by decide) rfl (fun ls hl => ?_)
  refine lv_iconst (v := 0) hx hb dX10_heldWorthAt_2 (by decide) ?_
  refine lv_istore_n (lv' := [(3, .int (0 : Int32)), (2, .int (0 : Int32)), (0, .ref (a_T 0)), (1, .int x1)]) hx hb dX10_heldWorthAt_3 rfl hl (by decide) rfl (fun ls hl => ?_)
  exact L4 fu hf hw (lv_sub hl [2, 3, 1, 0] rfl)
def f_X10_richestDoor_J42 (fu : Nat) (u_T : S32) (u_B : S32) (K7 : Int32 → Int32 → Int32 → Option (Int32)) (w1 : Int32) (w2 : Int32) (w3 : Int32) : Option (Int32) := tx_let (w3 + (1 : Int32)) fun (y_6 : Int32) => K7 w1 w2 y_6
def f_X10_richestDoor_J7 (fu : Nat) (u_T : S32) (u_B : S32) (K7 : Int32 → Int32 → Int32 → Option (Int32)) (w1 : Int32) (w2 : Int32) (w3 : Int32) : Option (Int32) := if (u_B 0 1) ≤ w3 then (some w1) else (if (6 : Int32) ≤ w3 then (some w1) else (tx_b1 (f_X10_heldWorthAt fu u_T u_B w3) fun (r_4 : Int32) => if r_4 ≤ w2 then (f_X10_richestDoor_J42 fu u_T u_B K7 w1 w2 w3) else (f_X10_richestDoor_J42 fu u_T u_B K7 w3 r_4 w3)))
def f_X10_richestDoor_L7 (fu : Nat) (u_T : S32) (u_B : S32) : Nat → Int32 → Int32 → Int32 → Option (Int32)
  | 0 => fun _ _ _ => none
  | n + 1 => f_X10_richestDoor_J7 fu u_T u_B (f_X10_richestDoor_L7 fu u_T u_B n)
def f_X10_richestDoor (fu : Nat) (u_T : S32) (u_B : S32) : Option (Int32) := f_X10_richestDoor_L7 fu u_T u_B fu (-2 : Int32) (0 : Int32) (0 : Int32)
set_option maxHeartbeats 4000000 in
set_option maxRecDepth 100000 in
theorem c_X10_richestDoor {l : Launch} {g : GG} {A : Nat → Prop} {X : va_W} {fu : Nat} {a_T a_B : Nat → Nat} {p_T_16 p_B_17 : Nat} {u_T : S32} {u_B : S32} {r : Int32} (hf : f_X10_richestDoor fu u_T u_B = some r) : MI l yX10_richestDoor cX10_richestDoor 5 (some .int) 3 g A (cl_X10 g a_T (a_B 0) p_T_16 u_T ++ (cl_X0 g a_B p_B_17 u_B ++ X)) [.ref (a_T 0)] r (cl_X10 g a_T (a_B 0) p_T_16 u_T ++ (cl_X0 g a_B p_B_17 u_B ++ X)) := by
  refine tx_start (av := [.ref (a_T 0)]) (by decide) (Nat.le_of_ble_eq_true rfl) ?_
  intro p e s m below meth c ls S hr hlk hE hw hl
  have S : CallFix p m c cX10_richestDoor 5 s (List.toArray [.ref (a_T 0)]) (Cond.code yX10_richestDoor cX10_richestDoor 5 (some .int) :: allW) RX10 := S
  have hx := S.1
  have hb := S.2.1
  have hown := S.2.2.2.1
  have hts : ∀ w ∈ allW, w.before (List.toArray [.ref (a_T 0)]) s = true := fun w h => S.2.2.2.2 w (List.mem_cons_of_mem _ h)
  have hl : lv_has ls 5 [(0, .ref (a_T 0))] := hl
  have J42 : ∀ {K7 : Int32 → Int32 → Int32 → Option (Int32)} (hK7 : ∀ {w1 : Int32} {w2 : Int32} {w3 : Int32} {H : Heap} {locs : List Loc} {ls : Array Slot}, K7 w1 w2 w3 = some r → WD g A s.heap (cl_X10 g a_T (a_B 0) p_T_16 u_T ++ (cl_X0 g a_B p_B_17 u_B ++ X)) H locs → lv_has ls 5 [(0, .ref (a_T 0)), (1, .int w1), (2, .int w2), (3, .int w3)] → W p l e (rmH 3) s m (List.toArray [.ref (a_T 0)]) below meth c H locs 0 0 (MQ below (va_Qi (fun r2 (_ : Unit) => r2 = r) (fun _ t => POST g A (cl_X10 g a_T (a_B 0) p_T_16 u_T ++ (cl_X0 g a_B p_B_17 u_B ++ X)) t) A) (List.toArray [.ref (a_T 0)]) s 0 0 A) (F0 m 7 ls [])), ∀ {w1 : Int32} {w2 : Int32} {w3 : Int32} {H : Heap} {locs : List Loc} {ls : Array Slot}, f_X10_richestDoor_J42 fu u_T u_B K7 w1 w2 w3 = some r → WD g A s.heap (cl_X10 g a_T (a_B 0) p_T_16 u_T ++ (cl_X0 g a_B p_B_17 u_B ++ X)) H locs → lv_has ls 5 [(0, .ref (a_T 0)), (1, .int w1), (2, .int w2), (3, .int w3)] → W p l e (rmH 3) s m (List.toArray [.ref (a_T 0)]) below meth c H locs 0 0 (MQ below (va_Qi (fun r2 (_ : Unit) => r2 = r) (fun _ t => POST g A (cl_X10 g a_T (a_B 0) p_T_16 u_T ++ (cl_X0 g a_B p_B_17 u_B ++ X)) t) A) (List.toArray [.ref (a_T 0)]) s 0 0 A) (F0 m 42 ls []) := by
    intro K7 hK7 w1 w2 w3 H locs ls hf hw hl
    unfold f_X10_richestDoor_J42 at hf
    obtain ⟨y_6, ey_6⟩ : ∃ y : Int32, y = w3 + (1 : Int32) := ⟨_, rfl⟩
    replace hf := tx_let_e hf ey_6
    refine lv_iinc (v := y_6) (lv' := [(3, .int y_6), (0, .ref (a_T 0)), (1, .int w1), (2, .int w2)]) hx hb dX10_richestDoor_42 hl (k := 3) rfl (by rw [ey_6]; rfl) (by decide) rfl (fun ls hl => ?_)
    refine lv_goto (tgt := 7) hx hb dX10_richestDoor_45 (by decide) ?_
    exact hK7 hf hw (lv_sub hl [1, 2, 3, 0] rfl)
  have J7 : ∀ {K7 : Int32 → Int32 → Int32 → Option (Int32)} (hK7 : ∀ {w1 : Int32} {w2 : Int32} {w3 : Int32} {H : Heap} {locs : List Loc} {ls : Array Slot}, K7 w1 w2 w3 = some r → WD g A s.heap (cl_X10 g a_T (a_B 0) p_T_16 u_T ++ (cl_X0 g a_B p_B_17 u_B ++ X)) H locs → lv_has ls 5 [(0, .ref (a_T 0)), (1, .int w1), (2, .int w2), (3, .int w3)] → W p l e (rmH 3) s m (List.toArray [.ref (a_T 0)]) below meth c H locs 0 0 (MQ below (va_Qi (fun r2 (_ : Unit) => r2 = r) (fun _ t => POST g A (cl_X10 g a_T (a_B 0) p_T_16 u_T ++ (cl_X0 g a_B p_B_17 u_B ++ X)) t) A) (List.toArray [.ref (a_T 0)]) s 0 0 A) (F0 m 7 ls [])), ∀ {w1 : Int32} {w2 : Int32} {w3 : Int32} {H : Heap} {locs : List Loc} {ls : Array Slot}, f_X10_richestDoor_J7 fu u_T u_B K7 w1 w2 w3 = some r → WD g A s.heap (cl_X10 g a_T (a_B 0) p_T_16 u_T ++ (cl_X0 g a_B p_B_17 u_B ++ X)) H locs → lv_has ls 5 [(0, .ref (a_T 0)), (1, .int w1), (2, .int w2), (3, .int w3)] → W p l e (rmH 3) s m (List.toArray [.ref (a_T 0)]) below meth c H locs 0 0 (MQ below (va_Qi (fun r2 (_ : Unit) => r2 = r) (fun _ t => POST g A (cl_X10 g a_T (a_B 0) p_T_16 u_T ++ (cl_X0 g a_B p_B_17 u_B ++ X)) t) A) (List.toArray [.ref (a_T 0)]) s 0 0 A) (F0 m 7 ls []) := by
    intro K7 hK7 w1 w2 w3 H locs ls hf hw hl
    unfold f_X10_richestDoor_J7 at hf
    refine lv_iload_n hx hb dX10_richestDoor_7 rfl (lv_at hl 3 rfl) ?_
    refine lv_aload_n hx hb dX10_richestDoor_8 rfl (lv_at hl 0 rfl) ?_
    refine gf_X10_49 S hE hw 0 rfl rfl dX10_richestDoor_9 ?_
    refine gf_X10_93 S hE hw 12 rfl rfl dX10_richestDoor_12 ?_
    refine lv_icmp_ge (tgt := 48) hx hb dX10_richestDoor_15 (by decide) (fun h_1 => ?_) (fun h_1 => ?_)
    · replace hf := tx_pos hf h_1
      refine lv_iload_n hx hb dX10_richestDoor_48 rfl (lv_at hl 1 rfl) ?_
      obtain e0 := tx_in1 hf
      rw [← e0]
      exact tx_iret S hr hlk hw dX10_richestDoor_49
    · replace hf := tx_neg hf h_1
      refine lv_iload_n hx hb dX10_richestDoor_18 rfl (lv_at hl 3 rfl) ?_
      refine lv_bipush (v := 6) hx hb dX10_richestDoor_19 (by decide) ?_
      refine lv_icmp_ge (tgt := 48) hx hb dX10_richestDoor_21 (by decide) (fun h_2 => ?_) (fun h_2 => ?_)
      · replace hf := tx_pos hf h_2
        refine lv_iload_n hx hb dX10_richestDoor_48 rfl (lv_at hl 1 rfl) ?_
        obtain e0 := tx_in1 hf
        rw [← e0]
        exact tx_iret S hr hlk hw dX10_richestDoor_49
      · replace hf := tx_neg hf h_2
        refine lv_aload_n hx hb dX10_richestDoor_24 rfl (lv_at hl 0 rfl) ?_
        refine lv_iload_n hx hb dX10_richestDoor_25 rfl (lv_at hl 3 rfl) ?_
        obtain ⟨r_4, h_3, hf⟩ := tx_b1_e hf
        refine tx_ci hw (tx_runV S hE hw (c_X10_heldWorthAt h_3) lk_X10_213 (q0 := 0) rfl rfl rfl hl.1 (rest := []) rfl (Nat.le_of_ble_eq_true rfl) ⟨by decide, by decide⟩ dX10_richestDoor_26 ⟨Nat.zero_le _, Nat.zero_le _⟩) (fun H locs hw => ?_)
        refine lv_istore (lv' := [(4, .int r_4), (0, .ref (a_T 0)), (1, .int w1), (2, .int w2), (3, .int w3)]) hx hb dX10_richestDoor_29 hl (by decide) rfl (fun ls hl => ?_)
        refine lv_iload hx hb dX10_richestDoor_31 (lv_at hl 0 rfl) ?_
        refine lv_iload_n hx hb dX10_richestDoor_33 rfl (lv_at hl 3 rfl) ?_
        refine lv_icmp_le (tgt := 42) hx hb dX10_richestDoor_34 (by decide) (fun h_5 => ?_) (fun h_5 => ?_)
        · replace hf := tx_pos hf h_5
          exact J42 hK7 hf hw (lv_sub hl [1, 2, 3, 4] rfl)
        · replace hf := tx_neg hf h_5
          refine lv_iload hx hb dX10_richestDoor_37 (lv_at hl 0 rfl) ?_
          refine lv_istore_n (lv' := [(2, .int r_4), (4, .int r_4), (0, .ref (a_T 0)), (1, .int w1), (3, .int w3)]) hx hb dX10_richestDoor_39 rfl hl (by decide) rfl (fun ls hl => ?_)
          refine lv_iload_n hx hb dX10_richestDoor_40 rfl (lv_at hl 4 rfl) ?_
          refine lv_istore_n (lv' := [(1, .int w3), (2, .int r_4), (4, .int r_4), (0, .ref (a_T 0)), (3, .int w3)]) hx hb dX10_richestDoor_41 rfl hl (by decide) rfl (fun ls hl => ?_)
          exact J42 hK7 hf hw (lv_sub hl [3, 0, 1, 4] rfl)
  have L7 : ∀ (n : Nat), ∀ {w1 : Int32} {w2 : Int32} {w3 : Int32} {H : Heap} {locs : List Loc} {ls : Array Slot}, f_X10_richestDoor_L7 fu u_T u_B n w1 w2 w3 = some r → WD g A s.heap (cl_X10 g a_T (a_B 0) p_T_16 u_T ++ (cl_X0 g a_B p_B_17 u_B ++ X)) H locs → lv_has ls 5 [(0, .ref (a_T 0)), (1, .int w1), (2, .int w2), (3, .int w3)] → W p l e (rmH 3) s m (List.toArray [.ref (a_T 0)]) below meth c H locs 0 0 (MQ below (va_Qi (fun r2 (_ : Unit) => r2 = r) (fun _ t => POST g A (cl_X10 g a_T (a_B 0) p_T_16 u_T ++ (cl_X0 g a_B p_B_17 u_B ++ X)) t) A) (List.toArray [.ref (a_T 0)]) s 0 0 A) (F0 m 7 ls []) := by
    intro  n
    induction n with
    | zero => intro w1 w2 w3 H locs ls hf; exact absurd hf (by intro q; cases q)
    | succ n ih => exact fun hf hw hl => J7 ih hf hw hl
  unfold f_X10_richestDoor at hf
  refine lv_bipush (v := -2) hx hb dX10_richestDoor_0 (by decide) ?_
  refine lv_istore_n (lv' := [(1, .int (-2 : Int32)), (0, .ref (a_T 0))]) hx hb dX10_richestDoor_2 rfl hl (by decide) rfl (fun ls hl => ?_)
  refine lv_iconst (v := 0) hx hb dX10_richestDoor_3 (by decide) ?_
  refine lv_istore_n (lv' := [(2, .int (0 : Int32)), (1, .int (-2 : Int32)), (0, .ref (a_T 0))]) hx hb dX10_richestDoor_4 rfl hl (by decide) rfl (fun ls hl => ?_)
  refine lv_iconst (v := 0) hx hb dX10_richestDoor_5 (by decide) ?_
  refine lv_istore_n (lv' := [(3, .int (0 : Int32)), (2, .int (0 : Int32)), (1, .int (-2 : Int32)), (0, .ref (a_T 0))]) hx hb dX10_richestDoor_6 rfl hl (by decide) rfl (fun ls hl => ?_)
  exact L7 fu hf hw (lv_sub hl [3, 2, 1, 0] rfl)
def f_X11_first (fu : Nat) (u_T : S32) (u_B : S32) (u_W : S32) : Option (Int32) := if (u_B 0 1) = (0 : Int32) then (some (-1 : Int32)) else (tx_b1 (f_X10_richestDoor fu u_W u_B) fun (r_3 : Int32) => some r_3)
set_option maxHeartbeats 4000000 in
set_option maxRecDepth 100000 in
theorem c_X11_first {l : Launch} {g : GG} {A : Nat → Prop} {X : va_W} {fu : Nat} {a_T a_B a_W : Nat → Nat} {p_T_0 p_T_2 p_T_3 p_T_5 p_T_6 p_T_7 p_T_8 p_T_9 p_B_17 p_W_16 : Nat} {u_T : S32} {u_B : S32} {u_W : S32} {r : Int32} (hf : f_X11_first fu u_T u_B u_W = some r) : MI l yX11_first cX11_first 1 (some .int) 4 g A (cl_X11 g a_T p_T_0 (a_B 0) p_T_2 p_T_3 (a_W 0) p_T_5 p_T_6 p_T_7 p_T_8 p_T_9 u_T ++ (cl_X0 g a_B p_B_17 u_B ++ (cl_X10 g a_W (a_B 0) p_W_16 u_W ++ X))) [.ref (a_T 0)] r (cl_X11 g a_T p_T_0 (a_B 0) p_T_2 p_T_3 (a_W 0) p_T_5 p_T_6 p_T_7 p_T_8 p_T_9 u_T ++ (cl_X0 g a_B p_B_17 u_B ++ (cl_X10 g a_W (a_B 0) p_W_16 u_W ++ X))) := by
  refine tx_start (av := [.ref (a_T 0)]) (by decide) (Nat.le_of_ble_eq_true rfl) ?_
  intro p e s m below meth c ls S hr hlk hE hw hl
  have S : CallFix p m c cX11_first 1 s (List.toArray [.ref (a_T 0)]) (Cond.code yX11_first cX11_first 1 (some .int) :: allW) RX11 := S
  have hx := S.1
  have hb := S.2.1
  have hown := S.2.2.2.1
  have hts : ∀ w ∈ allW, w.before (List.toArray [.ref (a_T 0)]) s = true := fun w h => S.2.2.2.2 w (List.mem_cons_of_mem _ h)
  have hl : lv_has ls 1 [(0, .ref (a_T 0))] := hl
  unfold f_X11_first at hf
  refine lv_aload_n hx hb dX11_first_0 rfl (lv_at hl 0 rfl) ?_
  refine gf_X11_21 S hE hw 0 rfl rfl dX11_first_1 ?_
  refine gf_X11_235 S hE hw 1 rfl rfl dX11_first_4 ?_
  refine lv_if_ne (tgt := 12) hx hb dX11_first_7 (by decide) (fun h_1 => ?_) (fun h_1 => ?_)
  · replace hf := tx_neg hf h_1
    refine lv_aload_n hx hb dX11_first_12 rfl (lv_at hl 0 rfl) ?_
    refine gf_X11_42 S hE hw 0 rfl rfl dX11_first_13 ?_
    have hw := hw.u1
    have hw := hw.u2
    obtain ⟨r_3, h_2, hf⟩ := tx_b1_e hf
    refine tx_ci hw (tx_runN S hE hw (c_X10_richestDoor h_2) lk_X11_273 (q0 := 0) rfl rfl rfl hl.1 (rest := []) rfl (Nat.le_of_ble_eq_true rfl) ⟨by decide, by decide⟩ dX11_first_16 ⟨Nat.zero_le _, Nat.zero_le _⟩) (fun H locs hw => ?_)
    have hw := hw.u1
    have hw := hw.u2
    obtain e0 := tx_in1 hf
    rw [← e0]
    exact tx_iret S hr hlk hw dX11_first_19
  · replace hf := tx_pos hf h_1
    refine lv_iconst (v := -1) hx hb dX11_first_10 (by decide) ?_
    obtain e0 := tx_in1 hf
    rw [← e0]
    exact tx_iret S hr hlk hw dX11_first_11
def f_X11_farthing (fu : Nat) (x1 : Int32) : Option (Int32) := if x1 < (1 : Int32) then (some (-1 : Int32)) else (if x1 ≤ (99 : Int32) then (tx_nz x1 <| some ((((100 : Int32) + x1) - (1 : Int32)) / x1)) else (some (-1 : Int32)))
set_option maxHeartbeats 4000000 in
set_option maxRecDepth 100000 in
theorem c_X11_farthing {l : Launch} {g : GG} {A : Nat → Prop} {X : va_W} {fu : Nat} {a_T : Nat → Nat} {x1 : Int32} {r : Int32} (hf : f_X11_farthing fu  x1 = some r) : MI l yX11_farthing cX11_farthing 2 (some .int) 0 g A (X) [.ref (a_T 0), .int x1] r (X) := by
  refine tx_start (av := [.ref (a_T 0), .int x1]) (by decide) (Nat.le_of_ble_eq_true rfl) ?_
  intro p e s m below meth c ls S hr hlk hE hw hl
  have S : CallFix p m c cX11_farthing 2 s (List.toArray [.ref (a_T 0), .int x1]) (Cond.code yX11_farthing cX11_farthing 2 (some .int) :: allW) RX11 := S
  have hx := S.1
  have hb := S.2.1
  have hown := S.2.2.2.1
  have hts : ∀ w ∈ allW, w.before (List.toArray [.ref (a_T 0), .int x1]) s = true := fun w h => S.2.2.2.2 w (List.mem_cons_of_mem _ h)
  have hl : lv_has ls 2 [(0, .ref (a_T 0)), (1, .int x1)] := hl
  unfold f_X11_farthing at hf
  refine lv_iload_n hx hb dX11_farthing_0 rfl (lv_at hl 1 rfl) ?_
  refine lv_iconst (v := 1) hx hb dX11_farthing_1 (by decide) ?_
  refine lv_icmp_lt (tgt := 11) hx hb dX11_farthing_2 (by decide) (fun h_1 => ?_) (fun h_1 => ?_)
  · replace hf := tx_pos hf h_1
    refine lv_iconst (v := -1) hx hb dX11_farthing_11 (by decide) ?_
    obtain e0 := tx_in1 hf
    rw [← e0]
    exact tx_iret S hr hlk hw dX11_farthing_12
  · replace hf := tx_neg hf h_1
    refine lv_iload_n hx hb dX11_farthing_5 rfl (lv_at hl 1 rfl) ?_
    refine lv_bipush (v := 99) hx hb dX11_farthing_6 (by decide) ?_
    refine lv_icmp_le (tgt := 13) hx hb dX11_farthing_8 (by decide) (fun h_2 => ?_) (fun h_2 => ?_)
    · replace hf := tx_pos hf h_2
      refine lv_bipush (v := 100) hx hb dX11_farthing_13 (by decide) ?_
      refine lv_iload_n hx hb dX11_farthing_15 rfl (lv_at hl 1 rfl) ?_
      refine lv_iadd hx hb dX11_farthing_16 ?_
      refine lv_iconst (v := 1) hx hb dX11_farthing_17 (by decide) ?_
      refine lv_isub hx hb dX11_farthing_18 ?_
      refine lv_iload_n hx hb dX11_farthing_19 rfl (lv_at hl 1 rfl) ?_
      obtain ⟨h_3, hf⟩ := tx_nz_e hf
      refine lv_idiv hx hb dX11_farthing_20 h_3 ?_
      obtain e0 := tx_in1 hf
      rw [← e0]
      exact tx_iret S hr hlk hw dX11_farthing_21
    · replace hf := tx_neg hf h_2
      refine lv_iconst (v := -1) hx hb dX11_farthing_11 (by decide) ?_
      obtain e0 := tx_in1 hf
      rw [← e0]
      exact tx_iret S hr hlk hw dX11_farthing_12
def f_X10_readsAny_J40 (fu : Nat) (u_B : S32) (u_L : S32) (K2 : S32 → S64 → S64 → Int32 → Int32 → Int32 → Option (Int32 × S32 × S64 × S64)) (u_T : S32) (v_L : S64) (v_N : S64) (w1 : Int32) (w2 : Int32) (w3 : Int32) : Option (Int32 × S32 × S64 × S64) := tx_let (w3 + (1 : Int32)) fun (y_12 : Int32) => K2 u_T v_L v_N w1 w2 y_12
def f_X10_readsAny_J2 (fu : Nat) (u_B : S32) (u_L : S32) (K2 : S32 → S64 → S64 → Int32 → Int32 → Int32 → Option (Int32 × S32 × S64 × S64)) (u_T : S32) (v_L : S64) (v_N : S64) (w1 : Int32) (w2 : Int32) (w3 : Int32) : Option (Int32 × S32 × S64 × S64) := if (u_B 0 5) ≤ w3 then (some ((0 : Int32), u_T, v_L, v_N)) else (if (12 : Int32) ≤ w3 then (some ((0 : Int32), u_T, v_L, v_N)) else (tx_b1 (f_X10_isHeldAt fu u_T u_B w3 w1) fun (r_4 : Int32) => if r_4 = (0 : Int32) then (f_X10_readsAny_J40 fu u_B u_L K2 u_T v_L v_N w1 w2 w3) else (tx_b4 (f_X10_reads fu u_B u_L u_T v_L v_N w2 w3 (0 : Int32)) fun (r_7 : Int32) (u_T_8 : S32) (v_L_9 : S64) (v_N_10 : S64) => if r_7 = (0 : Int32) then (f_X10_readsAny_J40 fu u_B u_L K2 u_T_8 v_L_9 v_N_10 w1 w2 w3) else (some ((1 : Int32), u_T_8, v_L_9, v_N_10)))))
def f_X10_readsAny_L2 (fu : Nat) (u_B : S32) (u_L : S32) : Nat → S32 → S64 → S64 → Int32 → Int32 → Int32 → Option (Int32 × S32 × S64 × S64)
  | 0 => fun _ _ _ _ _ _ => none
  | n + 1 => f_X10_readsAny_J2 fu u_B u_L (f_X10_readsAny_L2 fu u_B u_L n)
def f_X10_readsAny (fu : Nat) (u_B : S32) (u_L : S32) (u_T : S32) (v_L : S64) (v_N : S64) (x1 : Int32) (x2 : Int32) : Option (Int32 × S32 × S64 × S64) := f_X10_readsAny_L2 fu u_B u_L fu u_T v_L v_N x1 x2 (0 : Int32)
set_option maxHeartbeats 4000000 in
set_option maxRecDepth 100000 in
theorem c_X10_readsAny {l : Launch} {g : GG} {A : Nat → Prop} {X : va_W} {fu : Nat} {a_T a_B a_L a_N : Nat → Nat} {u_T : S32} {u_B : S32} {u_L : S32} {v_L : S64} {v_N : S64} {x1 : Int32} {x2 : Int32} {r : Int32} {zu_T : S32} {zv_L : S64} {zv_N : S64} (hf : f_X10_readsAny fu u_B u_L u_T v_L v_N x1 x2 = some (r, zu_T, zv_L, zv_N)) : MI l yX10_readsAny cX10_readsAny 4 (some .boolean) 4 g A (cl_X10 g a_T (a_B 0) (a_N 0) u_T ++ (cl_X0 g a_B (a_L 0) u_B ++ (cl_X5 g a_L u_L v_L ++ (cl_N g a_N v_N ++ X)))) [.ref (a_T 0), .int x1, .int x2] r (cl_X10 g a_T (a_B 0) (a_N 0) zu_T ++ (cl_X0 g a_B (a_L 0) u_B ++ (cl_X5 g a_L u_L zv_L ++ (cl_N g a_N zv_N ++ X)))) := by
  refine tx_start (av := [.ref (a_T 0), .int x1, .int x2]) (by decide) (Nat.le_of_ble_eq_true rfl) ?_
  intro p e s m below meth c ls S hr hlk hE hw hl
  have S : CallFix p m c cX10_readsAny 4 s (List.toArray [.ref (a_T 0), .int x1, .int x2]) (Cond.code yX10_readsAny cX10_readsAny 4 (some .boolean) :: allW) RX10 := S
  have hx := S.1
  have hb := S.2.1
  have hown := S.2.2.2.1
  have hts : ∀ w ∈ allW, w.before (List.toArray [.ref (a_T 0), .int x1, .int x2]) s = true := fun w h => S.2.2.2.2 w (List.mem_cons_of_mem _ h)
  have hl : lv_has ls 4 [(0, .ref (a_T 0)), (1, .int x1), (2, .int x2)] := hl
  have J40 : ∀ {K2 : S32 → S64 → S64 → Int32 → Int32 → Int32 → Option (Int32 × S32 × S64 × S64)} (hK2 : ∀ {u_T : S32} {v_L : S64} {v_N : S64} {w1 : Int32} {w2 : Int32} {w3 : Int32} {H : Heap} {locs : List Loc} {ls : Array Slot}, K2 u_T v_L v_N w1 w2 w3 = some (r, zu_T, zv_L, zv_N) → WD g A s.heap (cl_X10 g a_T (a_B 0) (a_N 0) u_T ++ (cl_X0 g a_B (a_L 0) u_B ++ (cl_X5 g a_L u_L v_L ++ (cl_N g a_N v_N ++ X)))) H locs → lv_has ls 4 [(0, .ref (a_T 0)), (1, .int w1), (2, .int w2), (3, .int w3)] → W p l e (rmH 4) s m (List.toArray [.ref (a_T 0), .int x1, .int x2]) below meth c H locs 0 0 (MQ below (va_Qi (fun r2 (_ : Unit) => r2 = r) (fun _ t => POST g A (cl_X10 g a_T (a_B 0) (a_N 0) zu_T ++ (cl_X0 g a_B (a_L 0) u_B ++ (cl_X5 g a_L u_L zv_L ++ (cl_N g a_N zv_N ++ X)))) t) A) (List.toArray [.ref (a_T 0), .int x1, .int x2]) s 0 0 A) (F0 m 2 ls [])), ∀ {u_T : S32} {v_L : S64} {v_N : S64} {w1 : Int32} {w2 : Int32} {w3 : Int32} {H : Heap} {locs : List Loc} {ls : Array Slot}, f_X10_readsAny_J40 fu u_B u_L K2 u_T v_L v_N w1 w2 w3 = some (r, zu_T, zv_L, zv_N) → WD g A s.heap (cl_X10 g a_T (a_B 0) (a_N 0) u_T ++ (cl_X0 g a_B (a_L 0) u_B ++ (cl_X5 g a_L u_L v_L ++ (cl_N g a_N v_N ++ X)))) H locs → lv_has ls 4 [(0, .ref (a_T 0)), (1, .int w1), (2, .int w2), (3, .int w3)] → W p l e (rmH 4) s m (List.toArray [.ref (a_T 0), .int x1, .int x2]) below meth c H locs 0 0 (MQ below (va_Qi (fun r2 (_ : Unit) => r2 = r) (fun _ t => POST g A (cl_X10 g a_T (a_B 0) (a_N 0) zu_T ++ (cl_X0 g a_B (a_L 0) u_B ++ (cl_X5 g a_L u_L zv_L ++ (cl_N g a_N zv_N ++ X)))) t) A) (List.toArray [.ref (a_T 0), .int x1, .int x2]) s 0 0 A) (F0 m 40 ls []) := by
    intro K2 hK2 u_T v_L v_N w1 w2 w3 H locs ls hf hw hl
    unfold f_X10_readsAny_J40 at hf
    obtain ⟨y_12, ey_12⟩ : ∃ y : Int32, y = w3 + (1 : Int32) := ⟨_, rfl⟩
    replace hf := tx_let_e hf ey_12
    refine lv_iinc (v := y_12) (lv' := [(3, .int y_12), (0, .ref (a_T 0)), (1, .int w1), (2, .int w2)]) hx hb dX10_readsAny_40 hl (k := 3) rfl (by rw [ey_12]; rfl) (by decide) rfl (fun ls hl => ?_)
    refine lv_goto (tgt := 2) hx hb dX10_readsAny_43 (by decide) ?_
    exact hK2 hf hw (lv_sub hl [1, 2, 3, 0] rfl)
  have J2 : ∀ {K2 : S32 → S64 → S64 → Int32 → Int32 → Int32 → Option (Int32 × S32 × S64 × S64)} (hK2 : ∀ {u_T : S32} {v_L : S64} {v_N : S64} {w1 : Int32} {w2 : Int32} {w3 : Int32} {H : Heap} {locs : List Loc} {ls : Array Slot}, K2 u_T v_L v_N w1 w2 w3 = some (r, zu_T, zv_L, zv_N) → WD g A s.heap (cl_X10 g a_T (a_B 0) (a_N 0) u_T ++ (cl_X0 g a_B (a_L 0) u_B ++ (cl_X5 g a_L u_L v_L ++ (cl_N g a_N v_N ++ X)))) H locs → lv_has ls 4 [(0, .ref (a_T 0)), (1, .int w1), (2, .int w2), (3, .int w3)] → W p l e (rmH 4) s m (List.toArray [.ref (a_T 0), .int x1, .int x2]) below meth c H locs 0 0 (MQ below (va_Qi (fun r2 (_ : Unit) => r2 = r) (fun _ t => POST g A (cl_X10 g a_T (a_B 0) (a_N 0) zu_T ++ (cl_X0 g a_B (a_L 0) u_B ++ (cl_X5 g a_L u_L zv_L ++ (cl_N g a_N zv_N ++ X)))) t) A) (List.toArray [.ref (a_T 0), .int x1, .int x2]) s 0 0 A) (F0 m 2 ls [])), ∀ {u_T : S32} {v_L : S64} {v_N : S64} {w1 : Int32} {w2 : Int32} {w3 : Int32} {H : Heap} {locs : List Loc} {ls : Array Slot}, f_X10_readsAny_J2 fu u_B u_L K2 u_T v_L v_N w1 w2 w3 = some (r, zu_T, zv_L, zv_N) → WD g A s.heap (cl_X10 g a_T (a_B 0) (a_N 0) u_T ++ (cl_X0 g a_B (a_L 0) u_B ++ (cl_X5 g a_L u_L v_L ++ (cl_N g a_N v_N ++ X)))) H locs → lv_has ls 4 [(0, .ref (a_T 0)), (1, .int w1), (2, .int w2), (3, .int w3)] → W p l e (rmH 4) s m (List.toArray [.ref (a_T 0), .int x1, .int x2]) below meth c H locs 0 0 (MQ below (va_Qi (fun r2 (_ : Unit) => r2 = r) (fun _ t => POST g A (cl_X10 g a_T (a_B 0) (a_N 0) zu_T ++ (cl_X0 g a_B (a_L 0) u_B ++ (cl_X5 g a_L u_L zv_L ++ (cl_N g a_N zv_N ++ X)))) t) A) (List.toArray [.ref (a_T 0), .int x1, .int x2]) s 0 0 A) (F0 m 2 ls []) := by
    intro K2 hK2 u_T v_L v_N w1 w2 w3 H locs ls hf hw hl
    unfold f_X10_readsAny_J2 at hf
    refine lv_iload_n hx hb dX10_readsAny_2 rfl (lv_at hl 3 rfl) ?_
    refine lv_aload_n hx hb dX10_readsAny_3 rfl (lv_at hl 0 rfl) ?_
    refine gf_X10_49 S hE hw 0 rfl rfl dX10_readsAny_4 ?_
    refine gf_X10_117 S hE hw 12 rfl rfl dX10_readsAny_7 ?_
    refine lv_icmp_ge (tgt := 46) hx hb dX10_readsAny_10 (by decide) (fun h_1 => ?_) (fun h_1 => ?_)
    · replace hf := tx_pos hf h_1
      refine lv_iconst (v := 0) hx hb dX10_readsAny_46 (by decide) ?_
      obtain ⟨e0, e1, e2, e3⟩ := tx_in4 hf
      rw [← e0, ← e1, ← e2, ← e3]
      exact tx_zret S hr hlk (by decide) hw dX10_readsAny_47
    · replace hf := tx_neg hf h_1
      refine lv_iload_n hx hb dX10_readsAny_13 rfl (lv_at hl 3 rfl) ?_
      refine lv_bipush (v := 12) hx hb dX10_readsAny_14 (by decide) ?_
      refine lv_icmp_ge (tgt := 46) hx hb dX10_readsAny_16 (by decide) (fun h_2 => ?_) (fun h_2 => ?_)
      · replace hf := tx_pos hf h_2
        refine lv_iconst (v := 0) hx hb dX10_readsAny_46 (by decide) ?_
        obtain ⟨e0, e1, e2, e3⟩ := tx_in4 hf
        rw [← e0, ← e1, ← e2, ← e3]
        exact tx_zret S hr hlk (by decide) hw dX10_readsAny_47
      · replace hf := tx_neg hf h_2
        refine lv_aload_n hx hb dX10_readsAny_19 rfl (lv_at hl 0 rfl) ?_
        refine lv_iload_n hx hb dX10_readsAny_20 rfl (lv_at hl 3 rfl) ?_
        refine lv_iload_n hx hb dX10_readsAny_21 rfl (lv_at hl 1 rfl) ?_
        obtain ⟨r_4, h_3, hf⟩ := tx_b1_e hf
        refine tx_ci hw (tx_runV S hE hw (c_X10_isHeldAt h_3) lk_X10_133 (q0 := 0) rfl rfl rfl hl.1 (rest := []) rfl (Nat.le_of_ble_eq_true rfl) ⟨by decide, by decide⟩ dX10_readsAny_22 ⟨Nat.zero_le _, Nat.zero_le _⟩) (fun H locs hw => ?_)
        refine lv_if_eq (tgt := 40) hx hb dX10_readsAny_25 (by decide) (fun h_5 => ?_) (fun h_5 => ?_)
        · replace hf := tx_pos hf h_5
          exact J40 hK2 hf hw (lv_sub hl [0, 1, 2, 3] rfl)
        · replace hf := tx_neg hf h_5
          refine lv_aload_n hx hb dX10_readsAny_28 rfl (lv_at hl 0 rfl) ?_
          refine lv_iload_n hx hb dX10_readsAny_29 rfl (lv_at hl 2 rfl) ?_
          refine lv_iload_n hx hb dX10_readsAny_30 rfl (lv_at hl 3 rfl) ?_
          refine lv_iconst (v := 0) hx hb dX10_readsAny_31 (by decide) ?_
          obtain ⟨r_7, u_T_8, v_L_9, v_N_10, h_6, hf⟩ := tx_b4_e hf
          refine tx_ci hw (tx_runV S hE hw (c_X10_reads h_6) lk_X10_137 (q0 := 0) rfl rfl rfl hl.1 (rest := []) rfl (Nat.le_of_ble_eq_true rfl) ⟨by decide, by decide⟩ dX10_readsAny_32 ⟨Nat.zero_le _, Nat.zero_le _⟩) (fun H locs hw => ?_)
          refine lv_if_eq (tgt := 40) hx hb dX10_readsAny_35 (by decide) (fun h_11 => ?_) (fun h_11 => ?_)
          · replace hf := tx_pos hf h_11
            exact J40 hK2 hf hw (lv_sub hl [0, 1, 2, 3] rfl)
          · replace hf := tx_neg hf h_11
            refine lv_iconst (v := 1) hx hb dX10_readsAny_38 (by decide) ?_
            obtain ⟨e0, e1, e2, e3⟩ := tx_in4 hf
            rw [← e0, ← e1, ← e2, ← e3]
            exact tx_zret S hr hlk (by decide) hw dX10_readsAny_39
  have L2 : ∀ (n : Nat), ∀ {u_T : S32} {v_L : S64} {v_N : S64} {w1 : Int32} {w2 : Int32} {w3 : Int32} {H : Heap} {locs : List Loc} {ls : Array Slot}, f_X10_readsAny_L2 fu u_B u_L n u_T v_L v_N w1 w2 w3 = some (r, zu_T, zv_L, zv_N) → WD g A s.heap (cl_X10 g a_T (a_B 0) (a_N 0) u_T ++ (cl_X0 g a_B (a_L 0) u_B ++ (cl_X5 g a_L u_L v_L ++ (cl_N g a_N v_N ++ X)))) H locs → lv_has ls 4 [(0, .ref (a_T 0)), (1, .int w1), (2, .int w2), (3, .int w3)] → W p l e (rmH 4) s m (List.toArray [.ref (a_T 0), .int x1, .int x2]) below meth c H locs 0 0 (MQ below (va_Qi (fun r2 (_ : Unit) => r2 = r) (fun _ t => POST g A (cl_X10 g a_T (a_B 0) (a_N 0) zu_T ++ (cl_X0 g a_B (a_L 0) u_B ++ (cl_X5 g a_L u_L zv_L ++ (cl_N g a_N zv_N ++ X)))) t) A) (List.toArray [.ref (a_T 0), .int x1, .int x2]) s 0 0 A) (F0 m 2 ls []) := by
    intro  n
    induction n with
    | zero => intro u_T v_L v_N w1 w2 w3 H locs ls hf; exact absurd hf (by intro q; cases q)
    | succ n ih => exact fun hf hw hl => J2 ih hf hw hl
  unfold f_X10_readsAny at hf
  refine lv_iconst (v := 0) hx hb dX10_readsAny_0 (by decide) ?_
  refine lv_istore_n (lv' := [(3, .int (0 : Int32)), (0, .ref (a_T 0)), (1, .int x1), (2, .int x2)]) hx hb dX10_readsAny_1 rfl hl (by decide) rfl (fun ls hl => ?_)
  exact L2 fu hf hw (lv_sub hl [1, 2, 3, 0] rfl)
def f_X9_dullEnough_J23 (fu : Nat) (u_T : S32) (u_Wa : S32) (u_B : S32) (u_L : S32) (p_W_0 : Nat) (pa_B : Nat) (K23 : S32 → S64 → S64 → Int32 → Int32 → Option (Int32 × S32 × S64 × S64 × Nat)) (u_W : S32) (v_L : S64) (v_N : S64) (w2 : Int32) (w3 : Int32) : Option (Int32 × S32 × S64 × S64 × Nat) := tx_ck w2 6 <| if ((9 : Int32) - (u_Wa 9 w2.toNatClampNeg)) < w3 then (some ((-2 : Int32), u_W, v_L, v_N, pa_B)) else (tx_ck w2 6 <| tx_ck w2 6 <| tx_let (up2 u_W 9 w2.toNatClampNeg ((u_Wa 9 w2.toNatClampNeg) + w3)) fun (u_W_10 : S32) => tx_ck w2 6 <| tx_b4 (f_X10_readsAny fu u_B u_L u_W_10 v_L v_N w2 (u_Wa 10 w2.toNatClampNeg)) fun (r_13 : Int32) (u_W_14 : S32) (v_L_15 : S64) (v_N_16 : S64) => if r_13 = (0 : Int32) then (some (w3, u_W_14, v_L_15, v_N_16, pa_B)) else (tx_let (w3 + (1 : Int32)) fun (y_18 : Int32) => K23 u_W_14 v_L_15 v_N_16 w2 y_18))
def f_X9_dullEnough_L23 (fu : Nat) (u_T : S32) (u_Wa : S32) (u_B : S32) (u_L : S32) (p_W_0 : Nat) (pa_B : Nat) : Nat → S32 → S64 → S64 → Int32 → Int32 → Option (Int32 × S32 × S64 × S64 × Nat)
  | 0 => fun _ _ _ _ _ => none
  | n + 1 => f_X9_dullEnough_J23 fu u_T u_Wa u_B u_L p_W_0 pa_B (f_X9_dullEnough_L23 fu u_T u_Wa u_B u_L p_W_0 pa_B n)
def f_X9_dullEnough (fu : Nat) (u_T : S32) (u_Wa : S32) (u_B : S32) (u_L : S32) (p_W_0 : Nat) (pa_B : Nat) (u_W : S32) (v_L : S64) (v_N : S64) (x2 : Int32) : Option (Int32 × S32 × S64 × S64 × Nat) := tx_b1 (f_X0_isMan fu u_B x2) fun (r_2 : Int32) => if r_2 = (0 : Int32) then (some ((-1 : Int32), u_W, v_L, v_N, p_W_0)) else (tx_b1 (f_X10_copy fu u_Wa u_W) fun (u_W_5 : S32) => f_X9_dullEnough_L23 fu u_T u_Wa u_B u_L p_W_0 pa_B fu u_W_5 v_L v_N x2 (0 : Int32))
set_option maxHeartbeats 4000000 in
set_option maxRecDepth 100000 in
theorem c_X9_dullEnough {l : Launch} {g : GG} {A : Nat → Prop} {X : va_W} {fu : Nat} {a_T a_Wa a_B a_W a_L a_N : Nat → Nat} {p_Wa_16 p_W_0 : Nat} {u_T : S32} {u_Wa : S32} {u_B : S32} {u_W : S32} {u_L : S32} {v_L : S64} {v_N : S64} {x2 : Int32} {r : Int32} {zu_W : S32} {zv_L : S64} {zv_N : S64} {zq_W_0 : Nat} (hf : f_X9_dullEnough fu u_T u_Wa u_B u_L p_W_0 (a_B 0) u_W v_L v_N x2 = some (r, zu_W, zv_L, zv_N, zq_W_0)) : MI l yX9_dullEnough cX9_dullEnough 4 (some .int) 5 g A (cl_X9 g a_T (a_W 0) u_T ++ (cl_X10 g a_Wa (a_B 0) p_Wa_16 u_Wa ++ (cl_X0 g a_B (a_L 0) u_B ++ (cl_X10 g a_W p_W_0 (a_N 0) u_W ++ (cl_X5 g a_L u_L v_L ++ (cl_N g a_N v_N ++ X)))))) [.ref (a_T 0), .ref (a_Wa 0), .int x2] r (cl_X9 g a_T (a_W 0) u_T ++ (cl_X10 g a_Wa (a_B 0) p_Wa_16 u_Wa ++ (cl_X0 g a_B (a_L 0) u_B ++ (cl_X10 g a_W zq_W_0 (a_N 0) zu_W ++ (cl_X5 g a_L u_L zv_L ++ (cl_N g a_N zv_N ++ X)))))) := by
  refine tx_start (av := [.ref (a_T 0), .ref (a_Wa 0), .int x2]) (by decide) (Nat.le_of_ble_eq_true rfl) ?_
  intro p e s m below meth c ls S hr hlk hE hw hl
  have S : CallFix p m c cX9_dullEnough 4 s (List.toArray [.ref (a_T 0), .ref (a_Wa 0), .int x2]) (Cond.code yX9_dullEnough cX9_dullEnough 4 (some .int) :: allW) RX9 := S
  have hx := S.1
  have hb := S.2.1
  have hown := S.2.2.2.1
  have hts : ∀ w ∈ allW, w.before (List.toArray [.ref (a_T 0), .ref (a_Wa 0), .int x2]) s = true := fun w h => S.2.2.2.2 w (List.mem_cons_of_mem _ h)
  have hl : lv_has ls 4 [(0, .ref (a_T 0)), (1, .ref (a_Wa 0)), (2, .int x2)] := hl
  have J23 : ∀ {K23 : S32 → S64 → S64 → Int32 → Int32 → Option (Int32 × S32 × S64 × S64 × Nat)} (hK23 : ∀ {u_W : S32} {v_L : S64} {v_N : S64} {w2 : Int32} {w3 : Int32} {H : Heap} {locs : List Loc} {ls : Array Slot}, K23 u_W v_L v_N w2 w3 = some (r, zu_W, zv_L, zv_N, zq_W_0) → WD g A s.heap (cl_X9 g a_T (a_W 0) u_T ++ (cl_X10 g a_Wa (a_B 0) p_Wa_16 u_Wa ++ (cl_X0 g a_B (a_L 0) u_B ++ (cl_X10 g a_W (a_B 0) (a_N 0) u_W ++ (cl_X5 g a_L u_L v_L ++ (cl_N g a_N v_N ++ X)))))) H locs → lv_has ls 4 [(0, .ref (a_T 0)), (1, .ref (a_Wa 0)), (2, .int w2), (3, .int w3)] → W p l e (rmH 5) s m (List.toArray [.ref (a_T 0), .ref (a_Wa 0), .int x2]) below meth c H locs 0 0 (MQ below (va_Qi (fun r2 (_ : Unit) => r2 = r) (fun _ t => POST g A (cl_X9 g a_T (a_W 0) u_T ++ (cl_X10 g a_Wa (a_B 0) p_Wa_16 u_Wa ++ (cl_X0 g a_B (a_L 0) u_B ++ (cl_X10 g a_W zq_W_0 (a_N 0) zu_W ++ (cl_X5 g a_L u_L zv_L ++ (cl_N g a_N zv_N ++ X)))))) t) A) (List.toArray [.ref (a_T 0), .ref (a_Wa 0), .int x2]) s 0 0 A) (F0 m 23 ls [])), ∀ {u_W : S32} {v_L : S64} {v_N : S64} {w2 : Int32} {w3 : Int32} {H : Heap} {locs : List Loc} {ls : Array Slot}, f_X9_dullEnough_J23 fu u_T u_Wa u_B u_L p_W_0 (a_B 0) K23 u_W v_L v_N w2 w3 = some (r, zu_W, zv_L, zv_N, zq_W_0) → WD g A s.heap (cl_X9 g a_T (a_W 0) u_T ++ (cl_X10 g a_Wa (a_B 0) p_Wa_16 u_Wa ++ (cl_X0 g a_B (a_L 0) u_B ++ (cl_X10 g a_W (a_B 0) (a_N 0) u_W ++ (cl_X5 g a_L u_L v_L ++ (cl_N g a_N v_N ++ X)))))) H locs → lv_has ls 4 [(0, .ref (a_T 0)), (1, .ref (a_Wa 0)), (2, .int w2), (3, .int w3)] → W p l e (rmH 5) s m (List.toArray [.ref (a_T 0), .ref (a_Wa 0), .int x2]) below meth c H locs 0 0 (MQ below (va_Qi (fun r2 (_ : Unit) => r2 = r) (fun _ t => POST g A (cl_X9 g a_T (a_W 0) u_T ++ (cl_X10 g a_Wa (a_B 0) p_Wa_16 u_Wa ++ (cl_X0 g a_B (a_L 0) u_B ++ (cl_X10 g a_W zq_W_0 (a_N 0) zu_W ++ (cl_X5 g a_L u_L zv_L ++ (cl_N g a_N zv_N ++ X)))))) t) A) (List.toArray [.ref (a_T 0), .ref (a_Wa 0), .int x2]) s 0 0 A) (F0 m 23 ls []) := by
    intro K23 hK23 u_W v_L v_N w2 w3 H locs ls hf hw hl
    unfold f_X9_dullEnough_J23 at hf
    refine lv_iload_n hx hb dX9_dullEnough_23 rfl (lv_at hl 3 rfl) ?_
    refine lv_bipush (v := 9) hx hb dX9_dullEnough_24 (by decide) ?_
    refine lv_aload_n hx hb dX9_dullEnough_26 rfl (lv_at hl 1 rfl) ?_
    refine gf_X9_108 S hE hw 2 rfl rfl dX9_dullEnough_27 ?_
    refine lv_iload_n hx hb dX9_dullEnough_30 rfl (lv_at hl 2 rfl) ?_
    obtain ⟨h_6, hf⟩ := tx_ck_e hf
    refine tx_iald S hE hw 7 rfl h_6 dX9_dullEnough_31 ?_
    refine lv_isub hx hb dX9_dullEnough_32 ?_
    refine lv_icmp_gt (tgt := 78) hx hb dX9_dullEnough_33 (by decide) (fun h_7 => ?_) (fun h_7 => ?_)
    · replace hf := tx_pos hf h_7
      refine lv_bipush (v := -2) hx hb dX9_dullEnough_78 (by decide) ?_
      obtain ⟨e0, e1, e2, e3, e4⟩ := tx_in5 hf
      rw [← e0, ← e1, ← e2, ← e3, ← e4]
      exact tx_iret S hr hlk hw dX9_dullEnough_80
    · replace hf := tx_neg hf h_7
      refine lv_aload_n hx hb dX9_dullEnough_36 rfl (lv_at hl 0 rfl) ?_
      refine gf_X9_20 S hE hw 0 rfl rfl dX9_dullEnough_37 ?_
      refine gf_X9_108 S hE hw 25 rfl rfl dX9_dullEnough_40 ?_
      refine lv_iload_n hx hb dX9_dullEnough_43 rfl (lv_at hl 2 rfl) ?_
      refine lv_aload_n hx hb dX9_dullEnough_44 rfl (lv_at hl 1 rfl) ?_
      refine gf_X9_108 S hE hw 2 rfl rfl dX9_dullEnough_45 ?_
      refine lv_iload_n hx hb dX9_dullEnough_48 rfl (lv_at hl 2 rfl) ?_
      obtain ⟨h_8, hf⟩ := tx_ck_e hf
      refine tx_iald S hE hw 7 rfl h_8 dX9_dullEnough_49 ?_
      refine lv_iload_n hx hb dX9_dullEnough_50 rfl (lv_at hl 3 rfl) ?_
      refine lv_iadd hx hb dX9_dullEnough_51 ?_
      obtain ⟨h_9, hf⟩ := tx_ck_e hf
      obtain ⟨u_W_10, eu_W_10⟩ : ∃ z : S32, z = up2 u_W 9 w2.toNatClampNeg ((u_Wa 9 w2.toNatClampNeg) + w3) := ⟨_, rfl⟩
      replace hf := tx_let_e hf eu_W_10
      refine tx_iast (ws' := cl_X9 g a_T (a_W 0) u_T ++ (cl_X10 g a_Wa (a_B 0) p_Wa_16 u_Wa ++ (cl_X0 g a_B (a_L 0) u_B ++ (cl_X10 g a_W (a_B 0) (a_N 0) u_W_10 ++ (cl_X5 g a_L u_L v_L ++ (cl_N g a_N v_N ++ X)))))) S hE hw 30 rfl h_9 (by rw [eu_W_10]; rfl) dX9_dullEnough_52 (fun H locs hw => ?_)
      refine lv_aload_n hx hb dX9_dullEnough_53 rfl (lv_at hl 0 rfl) ?_
      refine gf_X9_20 S hE hw 0 rfl rfl dX9_dullEnough_54 ?_
      refine lv_iload_n hx hb dX9_dullEnough_57 rfl (lv_at hl 2 rfl) ?_
      refine lv_aload_n hx hb dX9_dullEnough_58 rfl (lv_at hl 1 rfl) ?_
      refine gf_X9_62 S hE hw 2 rfl rfl dX9_dullEnough_59 ?_
      refine lv_iload_n hx hb dX9_dullEnough_62 rfl (lv_at hl 2 rfl) ?_
      obtain ⟨h_11, hf⟩ := tx_ck_e hf
      refine tx_iald S hE hw 8 rfl h_11 dX9_dullEnough_63 ?_
      have hw := hw.u5
      have hw := hw.u5
      have hw := hw.u4
      have hw := hw.u5
      obtain ⟨r_13, u_W_14, v_L_15, v_N_16, h_12, hf⟩ := tx_b4_e hf
      refine tx_ci hw (tx_runN S hE hw (c_X10_readsAny h_12) lk_X9_111 (q0 := 0) rfl rfl rfl hl.1 (rest := []) rfl (Nat.le_of_ble_eq_true rfl) ⟨by decide, by decide⟩ dX9_dullEnough_64 ⟨Nat.zero_le _, Nat.zero_le _⟩) (fun H locs hw => ?_)
      refine lv_if_ne (tgt := 72) hx hb dX9_dullEnough_67 (by decide) (fun h_17 => ?_) (fun h_17 => ?_)
      · replace hf := tx_neg hf h_17
        obtain ⟨y_18, ey_18⟩ : ∃ y : Int32, y = w3 + (1 : Int32) := ⟨_, rfl⟩
        replace hf := tx_let_e hf ey_18
        refine lv_iinc (v := y_18) (lv' := [(3, .int y_18), (0, .ref (a_T 0)), (1, .ref (a_Wa 0)), (2, .int w2)]) hx hb dX9_dullEnough_72 hl (k := 3) rfl (by rw [ey_18]; rfl) (by decide) rfl (fun ls hl => ?_)
        refine lv_goto (tgt := 23) hx hb dX9_dullEnough_75 (by decide) ?_
        have hw := hw.u3
        have hw := hw.u3
        have hw := hw.u2
        have hw := hw.u3
        have hw := hw.u5
        have hw := hw.u5
        exact hK23 hf hw (lv_sub hl [1, 2, 3, 0] rfl)
      · replace hf := tx_pos hf h_17
        refine lv_iload_n hx hb dX9_dullEnough_70 rfl (lv_at hl 3 rfl) ?_
        have hw := hw.u3
        have hw := hw.u3
        have hw := hw.u2
        have hw := hw.u3
        have hw := hw.u5
        have hw := hw.u5
        obtain ⟨e0, e1, e2, e3, e4⟩ := tx_in5 hf
        rw [← e0, ← e1, ← e2, ← e3, ← e4]
        exact tx_iret S hr hlk hw dX9_dullEnough_71
  have L23 : ∀ (n : Nat), ∀ {u_W : S32} {v_L : S64} {v_N : S64} {w2 : Int32} {w3 : Int32} {H : Heap} {locs : List Loc} {ls : Array Slot}, f_X9_dullEnough_L23 fu u_T u_Wa u_B u_L p_W_0 (a_B 0) n u_W v_L v_N w2 w3 = some (r, zu_W, zv_L, zv_N, zq_W_0) → WD g A s.heap (cl_X9 g a_T (a_W 0) u_T ++ (cl_X10 g a_Wa (a_B 0) p_Wa_16 u_Wa ++ (cl_X0 g a_B (a_L 0) u_B ++ (cl_X10 g a_W (a_B 0) (a_N 0) u_W ++ (cl_X5 g a_L u_L v_L ++ (cl_N g a_N v_N ++ X)))))) H locs → lv_has ls 4 [(0, .ref (a_T 0)), (1, .ref (a_Wa 0)), (2, .int w2), (3, .int w3)] → W p l e (rmH 5) s m (List.toArray [.ref (a_T 0), .ref (a_Wa 0), .int x2]) below meth c H locs 0 0 (MQ below (va_Qi (fun r2 (_ : Unit) => r2 = r) (fun _ t => POST g A (cl_X9 g a_T (a_W 0) u_T ++ (cl_X10 g a_Wa (a_B 0) p_Wa_16 u_Wa ++ (cl_X0 g a_B (a_L 0) u_B ++ (cl_X10 g a_W zq_W_0 (a_N 0) zu_W ++ (cl_X5 g a_L u_L zv_L ++ (cl_N g a_N zv_N ++ X)))))) t) A) (List.toArray [.ref (a_T 0), .ref (a_Wa 0), .int x2]) s 0 0 A) (F0 m 23 ls []) := by
    intro  n
    induction n with
    | zero => intro u_W v_L v_N w2 w3 H locs ls hf; exact absurd hf (by intro q; cases q)
    | succ n ih => exact fun hf hw hl => J23 ih hf hw hl
  unfold f_X9_dullEnough at hf
  refine lv_aload_n hx hb dX9_dullEnough_0 rfl (lv_at hl 1 rfl) ?_
  refine gf_X9_49 S hE hw 2 rfl rfl dX9_dullEnough_1 ?_
  refine lv_iload_n hx hb dX9_dullEnough_4 rfl (lv_at hl 2 rfl) ?_
  have hw := hw.u2
  obtain ⟨r_2, h_1, hf⟩ := tx_b1_e hf
  refine tx_ci hw (tx_runN S hE hw (c_X0_isMan h_1) lk_X9_102 (q0 := 0) rfl rfl rfl hl.1 (rest := []) rfl (Nat.le_of_ble_eq_true rfl) ⟨by decide, by decide⟩ dX9_dullEnough_5 ⟨Nat.zero_le _, Nat.zero_le _⟩) (fun H locs hw => ?_)
  refine lv_if_ne (tgt := 13) hx hb dX9_dullEnough_8 (by decide) (fun h_3 => ?_) (fun h_3 => ?_)
  · replace hf := tx_neg hf h_3
    refine lv_aload_n hx hb dX9_dullEnough_13 rfl (lv_at hl 0 rfl) ?_
    refine gf_X9_20 S hE hw 11 rfl rfl dX9_dullEnough_14 ?_
    refine lv_aload_n hx hb dX9_dullEnough_17 rfl (lv_at hl 1 rfl) ?_
    have hw := hw.u2
    have hw := hw.u3
    obtain ⟨u_W_5, h_4, hf⟩ := tx_b1_e hf
    refine tx_cv hw (tx_runN S hE hw (c_X10_copy h_4) lk_X9_24 (q0 := 0) rfl rfl rfl hl.1 (rest := []) rfl (Nat.le_of_ble_eq_true rfl) ⟨by decide, by decide⟩ dX9_dullEnough_18 ⟨Nat.zero_le _, Nat.zero_le _⟩) (fun H locs hw => ?_)
    refine lv_iconst (v := 0) hx hb dX9_dullEnough_21 (by decide) ?_
    refine lv_istore_n (lv' := [(3, .int (0 : Int32)), (0, .ref (a_T 0)), (1, .ref (a_Wa 0)), (2, .int x2)]) hx hb dX9_dullEnough_22 rfl hl (by decide) rfl (fun ls hl => ?_)
    have hw := hw.u5
    have hw := hw.u5
    have hw := hw.u2
    have hw := hw.u4
    have hw := hw.u4
    have hw := hw.u5
    exact L23 fu hf hw (lv_sub hl [1, 2, 3, 0] rfl)
  · replace hf := tx_pos hf h_3
    refine lv_iconst (v := -1) hx hb dX9_dullEnough_11 (by decide) ?_
    have hw := hw.u5
    have hw := hw.u5
    have hw := hw.u5
    have hw := hw.u3
    have hw := hw.u5
    have hw := hw.u5
    obtain ⟨e0, e1, e2, e3, e4⟩ := tx_in5 hf
    rw [← e0, ← e1, ← e2, ← e3, ← e4]
    exact tx_iret S hr hlk hw dX9_dullEnough_12
def f_X11_enough (fu : Nat) (u_T : S32) (u_B : S32) (u_Y : S32) (u_W : S32) (u_L : S32) (p_W2_0 : Nat) (pa_B : Nat) (u_W2 : S32) (v_L : S64) (v_N : S64) (x1 : Int32) : Option (Int32 × S32 × S64 × S64 × Nat) := tx_b1 (f_X0_isMan fu u_B x1) fun (r_2 : Int32) => if r_2 = (0 : Int32) then (some ((-1 : Int32), u_W2, v_L, v_N, p_W2_0)) else (tx_b5 (f_X9_dullEnough fu u_Y u_W u_B u_L p_W2_0 pa_B u_W2 v_L v_N x1) fun (r_5 : Int32) (u_W2_6 : S32) (v_L_7 : S64) (v_N_8 : S64) (q_9 : Nat) => some (r_5, u_W2_6, v_L_7, v_N_8, q_9))
set_option maxHeartbeats 4000000 in
set_option maxRecDepth 100000 in
theorem c_X11_enough {l : Launch} {g : GG} {A : Nat → Prop} {X : va_W} {fu : Nat} {a_T a_B a_Y a_W a_W2 a_L a_N : Nat → Nat} {p_T_0 p_T_2 p_T_3 p_T_5 p_T_7 p_T_8 p_T_9 p_W_16 p_W2_0 : Nat} {u_T : S32} {u_B : S32} {u_Y : S32} {u_W : S32} {u_W2 : S32} {u_L : S32} {v_L : S64} {v_N : S64} {x1 : Int32} {r : Int32} {zu_W2 : S32} {zv_L : S64} {zv_N : S64} {zq_W2_0 : Nat} (hf : f_X11_enough fu u_T u_B u_Y u_W u_L p_W2_0 (a_B 0) u_W2 v_L v_N x1 = some (r, zu_W2, zv_L, zv_N, zq_W2_0)) : MI l yX11_enough cX11_enough 2 (some .int) 6 g A (cl_X11 g a_T p_T_0 (a_B 0) p_T_2 p_T_3 (a_W 0) p_T_5 (a_Y 0) p_T_7 p_T_8 p_T_9 u_T ++ (cl_X0 g a_B (a_L 0) u_B ++ (cl_X9 g a_Y (a_W2 0) u_Y ++ (cl_X10 g a_W (a_B 0) p_W_16 u_W ++ (cl_X10 g a_W2 p_W2_0 (a_N 0) u_W2 ++ (cl_X5 g a_L u_L v_L ++ (cl_N g a_N v_N ++ X))))))) [.ref (a_T 0), .int x1] r (cl_X11 g a_T p_T_0 (a_B 0) p_T_2 p_T_3 (a_W 0) p_T_5 (a_Y 0) p_T_7 p_T_8 p_T_9 u_T ++ (cl_X0 g a_B (a_L 0) u_B ++ (cl_X9 g a_Y (a_W2 0) u_Y ++ (cl_X10 g a_W (a_B 0) p_W_16 u_W ++ (cl_X10 g a_W2 zq_W2_0 (a_N 0) zu_W2 ++ (cl_X5 g a_L u_L zv_L ++ (cl_N g a_N zv_N ++ X))))))) := by
  refine tx_start (av := [.ref (a_T 0), .int x1]) (by decide) (Nat.le_of_ble_eq_true rfl) ?_
  intro p e s m below meth c ls S hr hlk hE hw hl
  have S : CallFix p m c cX11_enough 2 s (List.toArray [.ref (a_T 0), .int x1]) (Cond.code yX11_enough cX11_enough 2 (some .int) :: allW) RX11 := S
  have hx := S.1
  have hb := S.2.1
  have hown := S.2.2.2.1
  have hts : ∀ w ∈ allW, w.before (List.toArray [.ref (a_T 0), .int x1]) s = true := fun w h => S.2.2.2.2 w (List.mem_cons_of_mem _ h)
  have hl : lv_has ls 2 [(0, .ref (a_T 0)), (1, .int x1)] := hl
  unfold f_X11_enough at hf
  refine lv_aload_n hx hb dX11_enough_0 rfl (lv_at hl 0 rfl) ?_
  refine gf_X11_21 S hE hw 0 rfl rfl dX11_enough_1 ?_
  refine lv_iload_n hx hb dX11_enough_4 rfl (lv_at hl 1 rfl) ?_
  have hw := hw.u1
  obtain ⟨r_2, h_1, hf⟩ := tx_b1_e hf
  refine tx_ci hw (tx_runN S hE hw (c_X0_isMan h_1) lk_X11_157 (q0 := 0) rfl rfl rfl hl.1 (rest := []) rfl (Nat.le_of_ble_eq_true rfl) ⟨by decide, by decide⟩ dX11_enough_5 ⟨Nat.zero_le _, Nat.zero_le _⟩) (fun H locs hw => ?_)
  refine lv_if_ne (tgt := 13) hx hb dX11_enough_8 (by decide) (fun h_3 => ?_) (fun h_3 => ?_)
  · replace hf := tx_neg hf h_3
    refine lv_aload_n hx hb dX11_enough_13 rfl (lv_at hl 0 rfl) ?_
    refine gf_X11_52 S hE hw 11 rfl rfl dX11_enough_14 ?_
    refine lv_aload_n hx hb dX11_enough_17 rfl (lv_at hl 0 rfl) ?_
    refine gf_X11_42 S hE hw 11 rfl rfl dX11_enough_18 ?_
    refine lv_iload_n hx hb dX11_enough_21 rfl (lv_at hl 1 rfl) ?_
    have hw := hw.u6
    have hw := hw.u6
    have hw := hw.u6
    have hw := hw.u3
    have hw := hw.u6
    have hw := hw.u6
    obtain ⟨r_5, u_W2_6, v_L_7, v_N_8, q_9, h_4, hf⟩ := tx_b5_e hf
    refine tx_ci hw (tx_runN S hE hw (c_X9_dullEnough h_4) lk_X11_276 (q0 := 0) rfl rfl rfl hl.1 (rest := []) rfl (Nat.le_of_ble_eq_true rfl) ⟨by decide, by decide⟩ dX11_enough_22 ⟨Nat.zero_le _, Nat.zero_le _⟩) (fun H locs hw => ?_)
    have hw := hw.u5
    have hw := hw.u5
    have hw := hw.u5
    have hw := hw.u4
    have hw := hw.u4
    have hw := hw.u5
    have hw := hw.u6
    obtain ⟨e0, e1, e2, e3, e4⟩ := tx_in5 hf
    rw [← e0, ← e1, ← e2, ← e3, ← e4]
    exact tx_iret S hr hlk hw dX11_enough_25
  · replace hf := tx_pos hf h_3
    refine lv_iconst (v := -1) hx hb dX11_enough_11 (by decide) ?_
    have hw := hw.u6
    have hw := hw.u6
    have hw := hw.u6
    have hw := hw.u6
    have hw := hw.u6
    have hw := hw.u5
    have hw := hw.u6
    obtain ⟨e0, e1, e2, e3, e4⟩ := tx_in5 hf
    rw [← e0, ← e1, ← e2, ← e3, ← e4]
    exact tx_iret S hr hlk hw dX11_enough_12
def f_X9_votes_J121 (fu : Nat) (u_Wa : S32) (u_B : S32) (u_L : S32) (K52 : S32 → S32 → S64 → S64 → Int32 → Int32 → Int32 → Option (Int32 × S32 × S32 × S64 × S64)) (u_T : S32) (u_W : S32) (v_L : S64) (v_N : S64) (w4 : Int32) (w6 : Int32) (t0 : Int32) (t1 : Int32) : Option (Int32 × S32 × S32 × S64 × S64) := tx_let (t0 + t1) fun (y_25 : Int32) => tx_let (w6 + (1 : Int32)) fun (y_26 : Int32) => K52 u_T u_W v_L v_N w4 y_25 y_26
def f_X9_votes_J116 (fu : Nat) (u_Wa : S32) (u_B : S32) (u_L : S32) (K52 : S32 → S32 → S64 → S64 → Int32 → Int32 → Int32 → Option (Int32 × S32 × S32 × S64 × S64)) (u_T : S32) (u_W : S32) (v_L : S64) (v_N : S64) (w4 : Int32) (w6 : Int32) (t0 : Int32) : Option (Int32 × S32 × S32 × S64 × S64) := f_X9_votes_J121 fu u_Wa u_B u_L K52 u_T u_W v_L v_N w4 w6 t0 (1 : Int32)
def f_X9_votes_J120 (fu : Nat) (u_Wa : S32) (u_B : S32) (u_L : S32) (K52 : S32 → S32 → S64 → S64 → Int32 → Int32 → Int32 → Option (Int32 × S32 × S32 × S64 × S64)) (u_T : S32) (u_W : S32) (v_L : S64) (v_N : S64) (w4 : Int32) (w6 : Int32) (t0 : Int32) : Option (Int32 × S32 × S32 × S64 × S64) := f_X9_votes_J121 fu u_Wa u_B u_L K52 u_T u_W v_L v_N w4 w6 t0 (0 : Int32)
def f_X9_votes_J52 (fu : Nat) (u_Wa : S32) (u_B : S32) (u_L : S32) (K52 : S32 → S32 → S64 → S64 → Int32 → Int32 → Int32 → Option (Int32 × S32 × S32 × S64 × S64)) (u_T : S32) (u_W : S32) (v_L : S64) (v_N : S64) (w4 : Int32) (w5 : Int32) (w6 : Int32) : Option (Int32 × S32 × S32 × S64 × S64) := if (u_B 0 1) ≤ w6 then (some (w5, u_T, u_W, v_L, v_N)) else (if (6 : Int32) ≤ w6 then (some (w5, u_T, u_W, v_L, v_N)) else (tx_b1 (f_X10_taxOf fu u_W u_B w6) fun (r_19 : Int32) => if w4 = (0 : Int32) then (tx_ck w6 6 <| if (u_T 2 w6.toNatClampNeg) ≤ r_19 then (f_X9_votes_J120 fu u_Wa u_B u_L K52 u_T u_W v_L v_N w4 w6 w5) else (f_X9_votes_J116 fu u_Wa u_B u_L K52 u_T u_W v_L v_N w4 w6 w5)) else (tx_ck w6 6 <| if r_19 ≤ (u_T 2 w6.toNatClampNeg) then (f_X9_votes_J120 fu u_Wa u_B u_L K52 u_T u_W v_L v_N w4 w6 w5) else (f_X9_votes_J116 fu u_Wa u_B u_L K52 u_T u_W v_L v_N w4 w6 w5))))
def f_X9_votes_L52 (fu : Nat) (u_Wa : S32) (u_B : S32) (u_L : S32) : Nat → S32 → S32 → S64 → S64 → Int32 → Int32 → Int32 → Option (Int32 × S32 × S32 × S64 × S64)
  | 0 => fun _ _ _ _ _ _ _ => none
  | n + 1 => f_X9_votes_J52 fu u_Wa u_B u_L (f_X9_votes_L52 fu u_Wa u_B u_L n)
def f_X9_votes (fu : Nat) (u_Wa : S32) (u_B : S32) (u_L : S32) (u_T : S32) (u_W : S32) (v_L : S64) (v_N : S64) (x2 : Int32) (x3 : Int32) (x4 : Int32) : Option (Int32 × S32 × S32 × S64 × S64) := tx_b1 (f_X10_copy fu u_Wa u_W) fun (u_W_2 : S32) => tx_b3 (f_X10_goWeeks fu u_B u_L u_W_2 v_L v_N x2 (0 : Int32)) fun (u_W_4 : S32) (v_L_5 : S64) (v_N_6 : S64) => tx_b1 (f_X9_noteTaxes fu u_W_4 u_B u_T) fun (u_T_8 : S32) => tx_b1 (f_X10_copy fu u_Wa u_W_4) fun (u_W_10 : S32) => tx_let (up2 u_W_10 0 2 x3) fun (u_W_11 : S32) => tx_b3 (f_X10_goWeeks fu u_B u_L u_W_11 v_L_5 v_N_6 x2 (0 : Int32)) fun (u_W_13 : S32) (v_L_14 : S64) (v_N_15 : S64) => f_X9_votes_L52 fu u_Wa u_B u_L fu u_T_8 u_W_13 v_L_14 v_N_15 x4 (0 : Int32) (0 : Int32)
set_option maxHeartbeats 4000000 in
set_option maxRecDepth 100000 in
theorem c_X9_votes {l : Launch} {g : GG} {A : Nat → Prop} {X : va_W} {fu : Nat} {a_T a_Wa a_W a_B a_L a_N : Nat → Nat} {p_Wa_16 p_W_0 : Nat} {u_T : S32} {u_Wa : S32} {u_W : S32} {u_B : S32} {u_L : S32} {v_L : S64} {v_N : S64} {x2 : Int32} {x3 : Int32} {x4 : Int32} {r : Int32} {zu_T : S32} {zu_W : S32} {zv_L : S64} {zv_N : S64} (hf : f_X9_votes fu u_Wa u_B u_L u_T u_W v_L v_N x2 x3 x4 = some (r, zu_T, zu_W, zv_L, zv_N)) : MI l yX9_votes cX9_votes 8 (some .int) 6 g A (cl_X9 g a_T (a_W 0) u_T ++ (cl_X10 g a_Wa (a_B 0) p_Wa_16 u_Wa ++ (cl_X10 g a_W p_W_0 (a_N 0) u_W ++ (cl_X0 g a_B (a_L 0) u_B ++ (cl_X5 g a_L u_L v_L ++ (cl_N g a_N v_N ++ X)))))) [.ref (a_T 0), .ref (a_Wa 0), .int x2, .int x3, .int x4] r (cl_X9 g a_T (a_W 0) zu_T ++ (cl_X10 g a_Wa (a_B 0) p_Wa_16 u_Wa ++ (cl_X10 g a_W (a_B 0) (a_N 0) zu_W ++ (cl_X0 g a_B (a_L 0) u_B ++ (cl_X5 g a_L u_L zv_L ++ (cl_N g a_N zv_N ++ X)))))) := by
  refine tx_start (av := [.ref (a_T 0), .ref (a_Wa 0), .int x2, .int x3, .int x4]) (by decide) (Nat.le_of_ble_eq_true rfl) ?_
  intro p e s m below meth c ls S hr hlk hE hw hl
  have S : CallFix p m c cX9_votes 8 s (List.toArray [.ref (a_T 0), .ref (a_Wa 0), .int x2, .int x3, .int x4]) (Cond.code yX9_votes cX9_votes 8 (some .int) :: allW) RX9 := S
  have hx := S.1
  have hb := S.2.1
  have hown := S.2.2.2.1
  have hts : ∀ w ∈ allW, w.before (List.toArray [.ref (a_T 0), .ref (a_Wa 0), .int x2, .int x3, .int x4]) s = true := fun w h => S.2.2.2.2 w (List.mem_cons_of_mem _ h)
  have hl : lv_has ls 8 [(0, .ref (a_T 0)), (1, .ref (a_Wa 0)), (2, .int x2), (3, .int x3), (4, .int x4)] := hl
  have J121 : ∀ {K52 : S32 → S32 → S64 → S64 → Int32 → Int32 → Int32 → Option (Int32 × S32 × S32 × S64 × S64)} (hK52 : ∀ {u_T : S32} {u_W : S32} {v_L : S64} {v_N : S64} {w4 : Int32} {w5 : Int32} {w6 : Int32} {H : Heap} {locs : List Loc} {ls : Array Slot}, K52 u_T u_W v_L v_N w4 w5 w6 = some (r, zu_T, zu_W, zv_L, zv_N) → WD g A s.heap (cl_X9 g a_T (a_W 0) u_T ++ (cl_X10 g a_Wa (a_B 0) p_Wa_16 u_Wa ++ (cl_X10 g a_W (a_B 0) (a_N 0) u_W ++ (cl_X0 g a_B (a_L 0) u_B ++ (cl_X5 g a_L u_L v_L ++ (cl_N g a_N v_N ++ X)))))) H locs → lv_has ls 8 [(0, .ref (a_T 0)), (1, .ref (a_Wa 0)), (4, .int w4), (5, .int w5), (6, .int w6)] → W p l e (rmH 6) s m (List.toArray [.ref (a_T 0), .ref (a_Wa 0), .int x2, .int x3, .int x4]) below meth c H locs 0 0 (MQ below (va_Qi (fun r2 (_ : Unit) => r2 = r) (fun _ t => POST g A (cl_X9 g a_T (a_W 0) zu_T ++ (cl_X10 g a_Wa (a_B 0) p_Wa_16 u_Wa ++ (cl_X10 g a_W (a_B 0) (a_N 0) zu_W ++ (cl_X0 g a_B (a_L 0) u_B ++ (cl_X5 g a_L u_L zv_L ++ (cl_N g a_N zv_N ++ X)))))) t) A) (List.toArray [.ref (a_T 0), .ref (a_Wa 0), .int x2, .int x3, .int x4]) s 0 0 A) (F0 m 52 ls [])), ∀ {u_T : S32} {u_W : S32} {v_L : S64} {v_N : S64} {w4 : Int32} {w6 : Int32} {t0 : Int32} {t1 : Int32} {H : Heap} {locs : List Loc} {ls : Array Slot}, f_X9_votes_J121 fu u_Wa u_B u_L K52 u_T u_W v_L v_N w4 w6 t0 t1 = some (r, zu_T, zu_W, zv_L, zv_N) → WD g A s.heap (cl_X9 g a_T (a_W 0) u_T ++ (cl_X10 g a_Wa (a_B 0) p_Wa_16 u_Wa ++ (cl_X10 g a_W (a_B 0) (a_N 0) u_W ++ (cl_X0 g a_B (a_L 0) u_B ++ (cl_X5 g a_L u_L v_L ++ (cl_N g a_N v_N ++ X)))))) H locs → lv_has ls 8 [(0, .ref (a_T 0)), (1, .ref (a_Wa 0)), (4, .int w4), (6, .int w6)] → W p l e (rmH 6) s m (List.toArray [.ref (a_T 0), .ref (a_Wa 0), .int x2, .int x3, .int x4]) below meth c H locs 0 0 (MQ below (va_Qi (fun r2 (_ : Unit) => r2 = r) (fun _ t => POST g A (cl_X9 g a_T (a_W 0) zu_T ++ (cl_X10 g a_Wa (a_B 0) p_Wa_16 u_Wa ++ (cl_X10 g a_W (a_B 0) (a_N 0) zu_W ++ (cl_X0 g a_B (a_L 0) u_B ++ (cl_X5 g a_L u_L zv_L ++ (cl_N g a_N zv_N ++ X)))))) t) A) (List.toArray [.ref (a_T 0), .ref (a_Wa 0), .int x2, .int x3, .int x4]) s 0 0 A) (F0 m 121 ls [.int t1, .int t0]) := by
    intro K52 hK52 u_T u_W v_L v_N w4 w6 t0 t1 H locs ls hf hw hl
    unfold f_X9_votes_J121 at hf
    refine lv_iadd hx hb dX9_votes_121 ?_
    refine lv_topi (fun y_25 ey_25 => ?_)
    replace hf := tx_let_e hf ey_25
    refine lv_istore (lv' := [(5, .int y_25), (0, .ref (a_T 0)), (1, .ref (a_Wa 0)), (4, .int w4), (6, .int w6)]) hx hb dX9_votes_122 hl (by decide) rfl (fun ls hl => ?_)
    obtain ⟨y_26, ey_26⟩ : ∃ y : Int32, y = w6 + (1 : Int32) := ⟨_, rfl⟩
    replace hf := tx_let_e hf ey_26
    refine lv_iinc (v := y_26) (lv' := [(6, .int y_26), (5, .int y_25), (0, .ref (a_T 0)), (1, .ref (a_Wa 0)), (4, .int w4)]) hx hb dX9_votes_124 hl (k := 4) rfl (by rw [ey_26]; rfl) (by decide) rfl (fun ls hl => ?_)
    refine lv_goto (tgt := 52) hx hb dX9_votes_127 (by decide) ?_
    exact hK52 hf hw (lv_sub hl [2, 3, 4, 1, 0] rfl)
  have J116 : ∀ {K52 : S32 → S32 → S64 → S64 → Int32 → Int32 → Int32 → Option (Int32 × S32 × S32 × S64 × S64)} (hK52 : ∀ {u_T : S32} {u_W : S32} {v_L : S64} {v_N : S64} {w4 : Int32} {w5 : Int32} {w6 : Int32} {H : Heap} {locs : List Loc} {ls : Array Slot}, K52 u_T u_W v_L v_N w4 w5 w6 = some (r, zu_T, zu_W, zv_L, zv_N) → WD g A s.heap (cl_X9 g a_T (a_W 0) u_T ++ (cl_X10 g a_Wa (a_B 0) p_Wa_16 u_Wa ++ (cl_X10 g a_W (a_B 0) (a_N 0) u_W ++ (cl_X0 g a_B (a_L 0) u_B ++ (cl_X5 g a_L u_L v_L ++ (cl_N g a_N v_N ++ X)))))) H locs → lv_has ls 8 [(0, .ref (a_T 0)), (1, .ref (a_Wa 0)), (4, .int w4), (5, .int w5), (6, .int w6)] → W p l e (rmH 6) s m (List.toArray [.ref (a_T 0), .ref (a_Wa 0), .int x2, .int x3, .int x4]) below meth c H locs 0 0 (MQ below (va_Qi (fun r2 (_ : Unit) => r2 = r) (fun _ t => POST g A (cl_X9 g a_T (a_W 0) zu_T ++ (cl_X10 g a_Wa (a_B 0) p_Wa_16 u_Wa ++ (cl_X10 g a_W (a_B 0) (a_N 0) zu_W ++ (cl_X0 g a_B (a_L 0) u_B ++ (cl_X5 g a_L u_L zv_L ++ (cl_N g a_N zv_N ++ X)))))) t) A) (List.toArray [.ref (a_T 0), .ref (a_Wa 0), .int x2, .int x3, .int x4]) s 0 0 A) (F0 m 52 ls [])), ∀ {u_T : S32} {u_W : S32} {v_L : S64} {v_N : S64} {w4 : Int32} {w6 : Int32} {t0 : Int32} {H : Heap} {locs : List Loc} {ls : Array Slot}, f_X9_votes_J116 fu u_Wa u_B u_L K52 u_T u_W v_L v_N w4 w6 t0 = some (r, zu_T, zu_W, zv_L, zv_N) → WD g A s.heap (cl_X9 g a_T (a_W 0) u_T ++ (cl_X10 g a_Wa (a_B 0) p_Wa_16 u_Wa ++ (cl_X10 g a_W (a_B 0) (a_N 0) u_W ++ (cl_X0 g a_B (a_L 0) u_B ++ (cl_X5 g a_L u_L v_L ++ (cl_N g a_N v_N ++ X)))))) H locs → lv_has ls 8 [(0, .ref (a_T 0)), (1, .ref (a_Wa 0)), (4, .int w4), (6, .int w6)] → W p l e (rmH 6) s m (List.toArray [.ref (a_T 0), .ref (a_Wa 0), .int x2, .int x3, .int x4]) below meth c H locs 0 0 (MQ below (va_Qi (fun r2 (_ : Unit) => r2 = r) (fun _ t => POST g A (cl_X9 g a_T (a_W 0) zu_T ++ (cl_X10 g a_Wa (a_B 0) p_Wa_16 u_Wa ++ (cl_X10 g a_W (a_B 0) (a_N 0) zu_W ++ (cl_X0 g a_B (a_L 0) u_B ++ (cl_X5 g a_L u_L zv_L ++ (cl_N g a_N zv_N ++ X)))))) t) A) (List.toArray [.ref (a_T 0), .ref (a_Wa 0), .int x2, .int x3, .int x4]) s 0 0 A) (F0 m 116 ls [.int t0]) := by
    intro K52 hK52 u_T u_W v_L v_N w4 w6 t0 H locs ls hf hw hl
    unfold f_X9_votes_J116 at hf
    refine lv_iconst (v := 1) hx hb dX9_votes_116 (by decide) ?_
    refine lv_goto (tgt := 121) hx hb dX9_votes_117 (by decide) ?_
    exact J121 hK52 hf hw (lv_sub hl [0, 1, 2, 3] rfl)
  have J120 : ∀ {K52 : S32 → S32 → S64 → S64 → Int32 → Int32 → Int32 → Option (Int32 × S32 × S32 × S64 × S64)} (hK52 : ∀ {u_T : S32} {u_W : S32} {v_L : S64} {v_N : S64} {w4 : Int32} {w5 : Int32} {w6 : Int32} {H : Heap} {locs : List Loc} {ls : Array Slot}, K52 u_T u_W v_L v_N w4 w5 w6 = some (r, zu_T, zu_W, zv_L, zv_N) → WD g A s.heap (cl_X9 g a_T (a_W 0) u_T ++ (cl_X10 g a_Wa (a_B 0) p_Wa_16 u_Wa ++ (cl_X10 g a_W (a_B 0) (a_N 0) u_W ++ (cl_X0 g a_B (a_L 0) u_B ++ (cl_X5 g a_L u_L v_L ++ (cl_N g a_N v_N ++ X)))))) H locs → lv_has ls 8 [(0, .ref (a_T 0)), (1, .ref (a_Wa 0)), (4, .int w4), (5, .int w5), (6, .int w6)] → W p l e (rmH 6) s m (List.toArray [.ref (a_T 0), .ref (a_Wa 0), .int x2, .int x3, .int x4]) below meth c H locs 0 0 (MQ below (va_Qi (fun r2 (_ : Unit) => r2 = r) (fun _ t => POST g A (cl_X9 g a_T (a_W 0) zu_T ++ (cl_X10 g a_Wa (a_B 0) p_Wa_16 u_Wa ++ (cl_X10 g a_W (a_B 0) (a_N 0) zu_W ++ (cl_X0 g a_B (a_L 0) u_B ++ (cl_X5 g a_L u_L zv_L ++ (cl_N g a_N zv_N ++ X)))))) t) A) (List.toArray [.ref (a_T 0), .ref (a_Wa 0), .int x2, .int x3, .int x4]) s 0 0 A) (F0 m 52 ls [])), ∀ {u_T : S32} {u_W : S32} {v_L : S64} {v_N : S64} {w4 : Int32} {w6 : Int32} {t0 : Int32} {H : Heap} {locs : List Loc} {ls : Array Slot}, f_X9_votes_J120 fu u_Wa u_B u_L K52 u_T u_W v_L v_N w4 w6 t0 = some (r, zu_T, zu_W, zv_L, zv_N) → WD g A s.heap (cl_X9 g a_T (a_W 0) u_T ++ (cl_X10 g a_Wa (a_B 0) p_Wa_16 u_Wa ++ (cl_X10 g a_W (a_B 0) (a_N 0) u_W ++ (cl_X0 g a_B (a_L 0) u_B ++ (cl_X5 g a_L u_L v_L ++ (cl_N g a_N v_N ++ X)))))) H locs → lv_has ls 8 [(0, .ref (a_T 0)), (1, .ref (a_Wa 0)), (4, .int w4), (6, .int w6)] → W p l e (rmH 6) s m (List.toArray [.ref (a_T 0), .ref (a_Wa 0), .int x2, .int x3, .int x4]) below meth c H locs 0 0 (MQ below (va_Qi (fun r2 (_ : Unit) => r2 = r) (fun _ t => POST g A (cl_X9 g a_T (a_W 0) zu_T ++ (cl_X10 g a_Wa (a_B 0) p_Wa_16 u_Wa ++ (cl_X10 g a_W (a_B 0) (a_N 0) zu_W ++ (cl_X0 g a_B (a_L 0) u_B ++ (cl_X5 g a_L u_L zv_L ++ (cl_N g a_N zv_N ++ X)))))) t) A) (List.toArray [.ref (a_T 0), .ref (a_Wa 0), .int x2, .int x3, .int x4]) s 0 0 A) (F0 m 120 ls [.int t0]) := by
    intro K52 hK52 u_T u_W v_L v_N w4 w6 t0 H locs ls hf hw hl
    unfold f_X9_votes_J120 at hf
    refine lv_iconst (v := 0) hx hb dX9_votes_120 (by decide) ?_
    exact J121 hK52 hf hw (lv_sub hl [0, 1, 2, 3] rfl)
  have J52 : ∀ {K52 : S32 → S32 → S64 → S64 → Int32 → Int32 → Int32 → Option (Int32 × S32 × S32 × S64 × S64)} (hK52 : ∀ {u_T : S32} {u_W : S32} {v_L : S64} {v_N : S64} {w4 : Int32} {w5 : Int32} {w6 : Int32} {H : Heap} {locs : List Loc} {ls : Array Slot}, K52 u_T u_W v_L v_N w4 w5 w6 = some (r, zu_T, zu_W, zv_L, zv_N) → WD g A s.heap (cl_X9 g a_T (a_W 0) u_T ++ (cl_X10 g a_Wa (a_B 0) p_Wa_16 u_Wa ++ (cl_X10 g a_W (a_B 0) (a_N 0) u_W ++ (cl_X0 g a_B (a_L 0) u_B ++ (cl_X5 g a_L u_L v_L ++ (cl_N g a_N v_N ++ X)))))) H locs → lv_has ls 8 [(0, .ref (a_T 0)), (1, .ref (a_Wa 0)), (4, .int w4), (5, .int w5), (6, .int w6)] → W p l e (rmH 6) s m (List.toArray [.ref (a_T 0), .ref (a_Wa 0), .int x2, .int x3, .int x4]) below meth c H locs 0 0 (MQ below (va_Qi (fun r2 (_ : Unit) => r2 = r) (fun _ t => POST g A (cl_X9 g a_T (a_W 0) zu_T ++ (cl_X10 g a_Wa (a_B 0) p_Wa_16 u_Wa ++ (cl_X10 g a_W (a_B 0) (a_N 0) zu_W ++ (cl_X0 g a_B (a_L 0) u_B ++ (cl_X5 g a_L u_L zv_L ++ (cl_N g a_N zv_N ++ X)))))) t) A) (List.toArray [.ref (a_T 0), .ref (a_Wa 0), .int x2, .int x3, .int x4]) s 0 0 A) (F0 m 52 ls [])), ∀ {u_T : S32} {u_W : S32} {v_L : S64} {v_N : S64} {w4 : Int32} {w5 : Int32} {w6 : Int32} {H : Heap} {locs : List Loc} {ls : Array Slot}, f_X9_votes_J52 fu u_Wa u_B u_L K52 u_T u_W v_L v_N w4 w5 w6 = some (r, zu_T, zu_W, zv_L, zv_N) → WD g A s.heap (cl_X9 g a_T (a_W 0) u_T ++ (cl_X10 g a_Wa (a_B 0) p_Wa_16 u_Wa ++ (cl_X10 g a_W (a_B 0) (a_N 0) u_W ++ (cl_X0 g a_B (a_L 0) u_B ++ (cl_X5 g a_L u_L v_L ++ (cl_N g a_N v_N ++ X)))))) H locs → lv_has ls 8 [(0, .ref (a_T 0)), (1, .ref (a_Wa 0)), (4, .int w4), (5, .int w5), (6, .int w6)] → W p l e (rmH 6) s m (List.toArray [.ref (a_T 0), .ref (a_Wa 0), .int x2, .int x3, .int x4]) below meth c H locs 0 0 (MQ below (va_Qi (fun r2 (_ : Unit) => r2 = r) (fun _ t => POST g A (cl_X9 g a_T (a_W 0) zu_T ++ (cl_X10 g a_Wa (a_B 0) p_Wa_16 u_Wa ++ (cl_X10 g a_W (a_B 0) (a_N 0) zu_W ++ (cl_X0 g a_B (a_L 0) u_B ++ (cl_X5 g a_L u_L zv_L ++ (cl_N g a_N zv_N ++ X)))))) t) A) (List.toArray [.ref (a_T 0), .ref (a_Wa 0), .int x2, .int x3, .int x4]) s 0 0 A) (F0 m 52 ls []) := by
    intro K52 hK52 u_T u_W v_L v_N w4 w5 w6 H locs ls hf hw hl
    unfold f_X9_votes_J52 at hf
    refine lv_iload hx hb dX9_votes_52 (lv_at hl 4 rfl) ?_
    refine lv_aload_n hx hb dX9_votes_54 rfl (lv_at hl 1 rfl) ?_
    refine gf_X9_49 S hE hw 2 rfl rfl dX9_votes_55 ?_
    refine gf_X9_53 S hE hw 26 rfl rfl dX9_votes_58 ?_
    refine lv_icmp_ge (tgt := 130) hx hb dX9_votes_61 (by decide) (fun h_16 => ?_) (fun h_16 => ?_)
    · replace hf := tx_pos hf h_16
      refine lv_iload hx hb dX9_votes_130 (lv_at hl 3 rfl) ?_
      obtain ⟨e0, e1, e2, e3, e4⟩ := tx_in5 hf
      rw [← e0, ← e1, ← e2, ← e3, ← e4]
      exact tx_iret S hr hlk hw dX9_votes_132
    · replace hf := tx_neg hf h_16
      refine lv_iload hx hb dX9_votes_64 (lv_at hl 4 rfl) ?_
      refine lv_bipush (v := 6) hx hb dX9_votes_66 (by decide) ?_
      refine lv_icmp_ge (tgt := 130) hx hb dX9_votes_68 (by decide) (fun h_17 => ?_) (fun h_17 => ?_)
      · replace hf := tx_pos hf h_17
        refine lv_iload hx hb dX9_votes_130 (lv_at hl 3 rfl) ?_
        obtain ⟨e0, e1, e2, e3, e4⟩ := tx_in5 hf
        rw [← e0, ← e1, ← e2, ← e3, ← e4]
        exact tx_iret S hr hlk hw dX9_votes_132
      · replace hf := tx_neg hf h_17
        refine lv_aload_n hx hb dX9_votes_71 rfl (lv_at hl 0 rfl) ?_
        refine gf_X9_20 S hE hw 0 rfl rfl dX9_votes_72 ?_
        refine lv_iload hx hb dX9_votes_75 (lv_at hl 4 rfl) ?_
        have hw := hw.u3
        have hw := hw.u3
        obtain ⟨r_19, h_18, hf⟩ := tx_b1_e hf
        refine tx_ci hw (tx_runN S hE hw (c_X10_taxOf h_18) lk_X9_105 (q0 := 0) rfl rfl rfl hl.1 (rest := []) rfl (Nat.le_of_ble_eq_true rfl) ⟨by decide, by decide⟩ dX9_votes_77 ⟨Nat.zero_le _, Nat.zero_le _⟩) (fun H locs hw => ?_)
        refine lv_istore (lv' := [(7, .int r_19), (0, .ref (a_T 0)), (1, .ref (a_Wa 0)), (4, .int w4), (5, .int w5), (6, .int w6)]) hx hb dX9_votes_80 hl (by decide) rfl (fun ls hl => ?_)
        refine lv_iload hx hb dX9_votes_82 (lv_at hl 4 rfl) ?_
        refine lv_iload hx hb dX9_votes_84 (lv_at hl 3 rfl) ?_
        refine lv_if_ne (tgt := 104) hx hb dX9_votes_86 (by decide) (fun h_20 => ?_) (fun h_20 => ?_)
        · replace hf := tx_neg hf h_20
          refine lv_iload hx hb dX9_votes_104 (lv_at hl 0 rfl) ?_
          refine lv_aload_n hx hb dX9_votes_106 rfl (lv_at hl 1 rfl) ?_
          refine gf_X9_9 S hE hw 23 rfl rfl dX9_votes_107 ?_
          refine lv_iload hx hb dX9_votes_110 (lv_at hl 5 rfl) ?_
          obtain ⟨h_21, hf⟩ := tx_ck_e hf
          refine tx_iald S hE hw 24 rfl h_21 dX9_votes_112 ?_
          refine lv_icmp_le (tgt := 120) hx hb dX9_votes_113 (by decide) (fun h_22 => ?_) (fun h_22 => ?_)
          · replace hf := tx_pos hf h_22
            have hw := hw.u5
            have hw := hw.u5
            have hw := hw.u3
            have hw := hw.u3
            have hw := hw.u5
            have hw := hw.u5
            exact J120 hK52 hf hw (lv_sub hl [1, 2, 3, 5] rfl)
          · replace hf := tx_neg hf h_22
            have hw := hw.u5
            have hw := hw.u5
            have hw := hw.u3
            have hw := hw.u3
            have hw := hw.u5
            have hw := hw.u5
            exact J116 hK52 hf hw (lv_sub hl [1, 2, 3, 5] rfl)
        · replace hf := tx_pos hf h_20
          refine lv_iload hx hb dX9_votes_89 (lv_at hl 0 rfl) ?_
          refine lv_aload_n hx hb dX9_votes_91 rfl (lv_at hl 1 rfl) ?_
          refine gf_X9_9 S hE hw 23 rfl rfl dX9_votes_92 ?_
          refine lv_iload hx hb dX9_votes_95 (lv_at hl 5 rfl) ?_
          obtain ⟨h_23, hf⟩ := tx_ck_e hf
          refine tx_iald S hE hw 24 rfl h_23 dX9_votes_97 ?_
          refine lv_icmp_ge (tgt := 120) hx hb dX9_votes_98 (by decide) (fun h_24 => ?_) (fun h_24 => ?_)
          · replace hf := tx_pos hf h_24
            have hw := hw.u5
            have hw := hw.u5
            have hw := hw.u3
            have hw := hw.u3
            have hw := hw.u5
            have hw := hw.u5
            exact J120 hK52 hf hw (lv_sub hl [1, 2, 3, 5] rfl)
          · replace hf := tx_neg hf h_24
            refine lv_goto (tgt := 116) hx hb dX9_votes_101 (by decide) ?_
            have hw := hw.u5
            have hw := hw.u5
            have hw := hw.u3
            have hw := hw.u3
            have hw := hw.u5
            have hw := hw.u5
            exact J116 hK52 hf hw (lv_sub hl [1, 2, 3, 5] rfl)
  have L52 : ∀ (n : Nat), ∀ {u_T : S32} {u_W : S32} {v_L : S64} {v_N : S64} {w4 : Int32} {w5 : Int32} {w6 : Int32} {H : Heap} {locs : List Loc} {ls : Array Slot}, f_X9_votes_L52 fu u_Wa u_B u_L n u_T u_W v_L v_N w4 w5 w6 = some (r, zu_T, zu_W, zv_L, zv_N) → WD g A s.heap (cl_X9 g a_T (a_W 0) u_T ++ (cl_X10 g a_Wa (a_B 0) p_Wa_16 u_Wa ++ (cl_X10 g a_W (a_B 0) (a_N 0) u_W ++ (cl_X0 g a_B (a_L 0) u_B ++ (cl_X5 g a_L u_L v_L ++ (cl_N g a_N v_N ++ X)))))) H locs → lv_has ls 8 [(0, .ref (a_T 0)), (1, .ref (a_Wa 0)), (4, .int w4), (5, .int w5), (6, .int w6)] → W p l e (rmH 6) s m (List.toArray [.ref (a_T 0), .ref (a_Wa 0), .int x2, .int x3, .int x4]) below meth c H locs 0 0 (MQ below (va_Qi (fun r2 (_ : Unit) => r2 = r) (fun _ t => POST g A (cl_X9 g a_T (a_W 0) zu_T ++ (cl_X10 g a_Wa (a_B 0) p_Wa_16 u_Wa ++ (cl_X10 g a_W (a_B 0) (a_N 0) zu_W ++ (cl_X0 g a_B (a_L 0) u_B ++ (cl_X5 g a_L u_L zv_L ++ (cl_N g a_N zv_N ++ X)))))) t) A) (List.toArray [.ref (a_T 0), .ref (a_Wa 0), .int x2, .int x3, .int x4]) s 0 0 A) (F0 m 52 ls []) := by
    intro  n
    induction n with
    | zero => intro u_T u_W v_L v_N w4 w5 w6 H locs ls hf; exact absurd hf (by intro q; cases q)
    | succ n ih => exact fun hf hw hl => J52 ih hf hw hl
  unfold f_X9_votes at hf
  refine lv_aload_n hx hb dX9_votes_0 rfl (lv_at hl 0 rfl) ?_
  refine gf_X9_20 S hE hw 0 rfl rfl dX9_votes_1 ?_
  refine lv_aload_n hx hb dX9_votes_4 rfl (lv_at hl 1 rfl) ?_
  have hw := hw.u1
  have hw := hw.u2
  obtain ⟨u_W_2, h_1, hf⟩ := tx_b1_e hf
  refine tx_cv hw (tx_runN S hE hw (c_X10_copy h_1) lk_X9_24 (q0 := 0) rfl rfl rfl hl.1 (rest := []) rfl (Nat.le_of_ble_eq_true rfl) ⟨by decide, by decide⟩ dX9_votes_5 ⟨Nat.zero_le _, Nat.zero_le _⟩) (fun H locs hw => ?_)
  refine lv_aload_n hx hb dX9_votes_8 rfl (lv_at hl 0 rfl) ?_
  refine gf_X9_20 S hE hw 24 rfl rfl dX9_votes_9 ?_
  refine lv_iload_n hx hb dX9_votes_12 rfl (lv_at hl 2 rfl) ?_
  refine lv_iconst (v := 0) hx hb dX9_votes_13 (by decide) ?_
  have hw := hw.u5
  have hw := hw.u5
  have hw := hw.u5
  have hw := hw.u3
  obtain ⟨u_W_4, v_L_5, v_N_6, h_3, hf⟩ := tx_b3_e hf
  refine tx_cv hw (tx_runN S hE hw (c_X10_goWeeks h_3) lk_X9_28 (q0 := 0) rfl rfl rfl hl.1 (rest := []) rfl (Nat.le_of_ble_eq_true rfl) ⟨by decide, by decide⟩ dX9_votes_14 ⟨Nat.zero_le _, Nat.zero_le _⟩) (fun H locs hw => ?_)
  refine lv_aload_n hx hb dX9_votes_17 rfl (lv_at hl 0 rfl) ?_
  have hw := hw.u1
  have hw := hw.u1
  have hw := hw.u5
  obtain ⟨u_T_8, h_7, hf⟩ := tx_b1_e hf
  refine tx_cv hw (tx_runV S hE hw (c_X9_noteTaxes h_7) lk_X9_90 (q0 := 0) rfl rfl rfl hl.1 (rest := []) rfl (Nat.le_of_ble_eq_true rfl) ⟨by decide, by decide⟩ dX9_votes_18 ⟨Nat.zero_le _, Nat.zero_le _⟩) (fun H locs hw => ?_)
  refine lv_aload_n hx hb dX9_votes_21 rfl (lv_at hl 0 rfl) ?_
  refine gf_X9_20 S hE hw 0 rfl rfl dX9_votes_22 ?_
  refine lv_aload_n hx hb dX9_votes_25 rfl (lv_at hl 1 rfl) ?_
  have hw := hw.u5
  have hw := hw.u2
  obtain ⟨u_W_10, h_9, hf⟩ := tx_b1_e hf
  refine tx_cv hw (tx_runN S hE hw (c_X10_copy h_9) lk_X9_24 (q0 := 0) rfl rfl rfl hl.1 (rest := []) rfl (Nat.le_of_ble_eq_true rfl) ⟨by decide, by decide⟩ dX9_votes_26 ⟨Nat.zero_le _, Nat.zero_le _⟩) (fun H locs hw => ?_)
  refine lv_aload_n hx hb dX9_votes_29 rfl (lv_at hl 0 rfl) ?_
  refine gf_X9_20 S hE hw 24 rfl rfl dX9_votes_30 ?_
  refine lv_iload_n hx hb dX9_votes_33 rfl (lv_at hl 3 rfl) ?_
  obtain ⟨u_W_11, eu_W_11⟩ : ∃ z : S32, z = up2 u_W_10 0 2 x3 := ⟨_, rfl⟩
  replace hf := tx_let_e hf eu_W_11
  refine pf_X9_83 (ws' := cl_X10 g a_W (a_B 0) (a_N 0) u_W_11 ++ (cl_X10 g a_Wa (a_B 0) p_Wa_16 u_Wa ++ (cl_X9 g a_T (a_W 0) u_T_8 ++ (cl_X0 g a_B (a_L 0) u_B ++ (cl_X5 g a_L u_L v_L_5 ++ (cl_N g a_N v_N_6 ++ X)))))) S hE hw rfl rfl 0 rfl (Nat.le_of_ble_eq_true rfl) (by rw [eu_W_11]; rfl) dX9_votes_34 (fun H locs hw => ?_)
  refine lv_aload_n hx hb dX9_votes_37 rfl (lv_at hl 0 rfl) ?_
  refine gf_X9_20 S hE hw 24 rfl rfl dX9_votes_38 ?_
  refine lv_iload_n hx hb dX9_votes_41 rfl (lv_at hl 2 rfl) ?_
  refine lv_iconst (v := 0) hx hb dX9_votes_42 (by decide) ?_
  have hw := hw.u5
  have hw := hw.u5
  have hw := hw.u5
  have hw := hw.u3
  obtain ⟨u_W_13, v_L_14, v_N_15, h_12, hf⟩ := tx_b3_e hf
  refine tx_cv hw (tx_runN S hE hw (c_X10_goWeeks h_12) lk_X9_28 (q0 := 0) rfl rfl rfl hl.1 (rest := []) rfl (Nat.le_of_ble_eq_true rfl) ⟨by decide, by decide⟩ dX9_votes_43 ⟨Nat.zero_le _, Nat.zero_le _⟩) (fun H locs hw => ?_)
  refine lv_iconst (v := 0) hx hb dX9_votes_46 (by decide) ?_
  refine lv_istore (lv' := [(5, .int (0 : Int32)), (0, .ref (a_T 0)), (1, .ref (a_Wa 0)), (2, .int x2), (3, .int x3), (4, .int x4)]) hx hb dX9_votes_47 hl (by decide) rfl (fun ls hl => ?_)
  refine lv_iconst (v := 0) hx hb dX9_votes_49 (by decide) ?_
  refine lv_istore (lv' := [(6, .int (0 : Int32)), (5, .int (0 : Int32)), (0, .ref (a_T 0)), (1, .ref (a_Wa 0)), (2, .int x2), (3, .int x3), (4, .int x4)]) hx hb dX9_votes_50 hl (by decide) rfl (fun ls hl => ?_)
  have hw := hw.u3
  have hw := hw.u3
  have hw := hw.u3
  have hw := hw.u3
  have hw := hw.u4
  have hw := hw.u5
  exact L52 fu hf hw (lv_sub hl [2, 3, 6, 1, 0] rfl)
def f_X11_vote (fu : Nat) (u_T : S32) (u_W : S32) (u_B : S32) (u_L : S32) (p_W2_0 : Nat) (pa_B : Nat) (u_Y : S32) (u_W2 : S32) (v_L : S64) (v_N : S64) (x1 : Int32) (x2 : Int32) (x3 : Int32) : Option (Int32 × S32 × S32 × S64 × S64 × Nat) := if x1 < (1 : Int32) then (some ((-1 : Int32), u_Y, u_W2, v_L, v_N, p_W2_0)) else (if (40 : Int32) < x1 then (some ((-1 : Int32), u_Y, u_W2, v_L, v_N, p_W2_0)) else (if x2 < (0 : Int32) then (some ((-1 : Int32), u_Y, u_W2, v_L, v_N, p_W2_0)) else (if (100 : Int32) < x2 then (some ((-1 : Int32), u_Y, u_W2, v_L, v_N, p_W2_0)) else (if x3 < (0 : Int32) then (some ((-1 : Int32), u_Y, u_W2, v_L, v_N, p_W2_0)) else (if x3 ≤ (1 : Int32) then (tx_b5 (f_X9_votes fu u_W u_B u_L u_Y u_W2 v_L v_N x1 x2 x3) fun (r_8 : Int32) (u_Y_9 : S32) (u_W2_10 : S32) (v_L_11 : S64) (v_N_12 : S64) => some (r_8, u_Y_9, u_W2_10, v_L_11, v_N_12, pa_B)) else (some ((-1 : Int32), u_Y, u_W2, v_L, v_N, p_W2_0)))))))
set_option maxHeartbeats 4000000 in
set_option maxRecDepth 100000 in
theorem c_X11_vote {l : Launch} {g : GG} {A : Nat → Prop} {X : va_W} {fu : Nat} {a_T a_Y a_W a_W2 a_B a_L a_N : Nat → Nat} {p_T_0 p_T_2 p_T_3 p_T_5 p_T_7 p_T_8 p_T_9 p_W_16 p_W2_0 : Nat} {u_T : S32} {u_Y : S32} {u_W : S32} {u_W2 : S32} {u_B : S32} {u_L : S32} {v_L : S64} {v_N : S64} {x1 : Int32} {x2 : Int32} {x3 : Int32} {r : Int32} {zu_Y : S32} {zu_W2 : S32} {zv_L : S64} {zv_N : S64} {zq_W2_0 : Nat} (hf : f_X11_vote fu u_T u_W u_B u_L p_W2_0 (a_B 0) u_Y u_W2 v_L v_N x1 x2 x3 = some (r, zu_Y, zu_W2, zv_L, zv_N, zq_W2_0)) : MI l yX11_vote cX11_vote 4 (some .int) 7 g A (cl_X11 g a_T p_T_0 (a_B 0) p_T_2 p_T_3 (a_W 0) p_T_5 (a_Y 0) p_T_7 p_T_8 p_T_9 u_T ++ (cl_X9 g a_Y (a_W2 0) u_Y ++ (cl_X10 g a_W (a_B 0) p_W_16 u_W ++ (cl_X10 g a_W2 p_W2_0 (a_N 0) u_W2 ++ (cl_X0 g a_B (a_L 0) u_B ++ (cl_X5 g a_L u_L v_L ++ (cl_N g a_N v_N ++ X))))))) [.ref (a_T 0), .int x1, .int x2, .int x3] r (cl_X11 g a_T p_T_0 (a_B 0) p_T_2 p_T_3 (a_W 0) p_T_5 (a_Y 0) p_T_7 p_T_8 p_T_9 u_T ++ (cl_X9 g a_Y (a_W2 0) zu_Y ++ (cl_X10 g a_W (a_B 0) p_W_16 u_W ++ (cl_X10 g a_W2 zq_W2_0 (a_N 0) zu_W2 ++ (cl_X0 g a_B (a_L 0) u_B ++ (cl_X5 g a_L u_L zv_L ++ (cl_N g a_N zv_N ++ X))))))) := by
  refine tx_start (av := [.ref (a_T 0), .int x1, .int x2, .int x3]) (by decide) (Nat.le_of_ble_eq_true rfl) ?_
  intro p e s m below meth c ls S hr hlk hE hw hl
  have S : CallFix p m c cX11_vote 4 s (List.toArray [.ref (a_T 0), .int x1, .int x2, .int x3]) (Cond.code yX11_vote cX11_vote 4 (some .int) :: allW) RX11 := S
  have hx := S.1
  have hb := S.2.1
  have hown := S.2.2.2.1
  have hts : ∀ w ∈ allW, w.before (List.toArray [.ref (a_T 0), .int x1, .int x2, .int x3]) s = true := fun w h => S.2.2.2.2 w (List.mem_cons_of_mem _ h)
  have hl : lv_has ls 4 [(0, .ref (a_T 0)), (1, .int x1), (2, .int x2), (3, .int x3)] := hl
  unfold f_X11_vote at hf
  refine lv_iload_n hx hb dX11_vote_0 rfl (lv_at hl 1 rfl) ?_
  refine lv_iconst (v := 1) hx hb dX11_vote_1 (by decide) ?_
  refine lv_icmp_lt (tgt := 30) hx hb dX11_vote_2 (by decide) (fun h_1 => ?_) (fun h_1 => ?_)
  · replace hf := tx_pos hf h_1
    refine lv_iconst (v := -1) hx hb dX11_vote_30 (by decide) ?_
    obtain ⟨e0, e1, e2, e3, e4, e5⟩ := tx_in6 hf
    rw [← e0, ← e1, ← e2, ← e3, ← e4, ← e5]
    exact tx_iret S hr hlk hw dX11_vote_31
  · replace hf := tx_neg hf h_1
    refine lv_iload_n hx hb dX11_vote_5 rfl (lv_at hl 1 rfl) ?_
    refine lv_bipush (v := 40) hx hb dX11_vote_6 (by decide) ?_
    refine lv_icmp_gt (tgt := 30) hx hb dX11_vote_8 (by decide) (fun h_2 => ?_) (fun h_2 => ?_)
    · replace hf := tx_pos hf h_2
      refine lv_iconst (v := -1) hx hb dX11_vote_30 (by decide) ?_
      obtain ⟨e0, e1, e2, e3, e4, e5⟩ := tx_in6 hf
      rw [← e0, ← e1, ← e2, ← e3, ← e4, ← e5]
      exact tx_iret S hr hlk hw dX11_vote_31
    · replace hf := tx_neg hf h_2
      refine lv_iload_n hx hb dX11_vote_11 rfl (lv_at hl 2 rfl) ?_
      refine lv_if_lt (tgt := 30) hx hb dX11_vote_12 (by decide) (fun h_3 => ?_) (fun h_3 => ?_)
      · replace hf := tx_pos hf h_3
        refine lv_iconst (v := -1) hx hb dX11_vote_30 (by decide) ?_
        obtain ⟨e0, e1, e2, e3, e4, e5⟩ := tx_in6 hf
        rw [← e0, ← e1, ← e2, ← e3, ← e4, ← e5]
        exact tx_iret S hr hlk hw dX11_vote_31
      · replace hf := tx_neg hf h_3
        refine lv_iload_n hx hb dX11_vote_15 rfl (lv_at hl 2 rfl) ?_
        refine lv_bipush (v := 100) hx hb dX11_vote_16 (by decide) ?_
        refine lv_icmp_gt (tgt := 30) hx hb dX11_vote_18 (by decide) (fun h_4 => ?_) (fun h_4 => ?_)
        · replace hf := tx_pos hf h_4
          refine lv_iconst (v := -1) hx hb dX11_vote_30 (by decide) ?_
          obtain ⟨e0, e1, e2, e3, e4, e5⟩ := tx_in6 hf
          rw [← e0, ← e1, ← e2, ← e3, ← e4, ← e5]
          exact tx_iret S hr hlk hw dX11_vote_31
        · replace hf := tx_neg hf h_4
          refine lv_iload_n hx hb dX11_vote_21 rfl (lv_at hl 3 rfl) ?_
          refine lv_if_lt (tgt := 30) hx hb dX11_vote_22 (by decide) (fun h_5 => ?_) (fun h_5 => ?_)
          · replace hf := tx_pos hf h_5
            refine lv_iconst (v := -1) hx hb dX11_vote_30 (by decide) ?_
            obtain ⟨e0, e1, e2, e3, e4, e5⟩ := tx_in6 hf
            rw [← e0, ← e1, ← e2, ← e3, ← e4, ← e5]
            exact tx_iret S hr hlk hw dX11_vote_31
          · replace hf := tx_neg hf h_5
            refine lv_iload_n hx hb dX11_vote_25 rfl (lv_at hl 3 rfl) ?_
            refine lv_iconst (v := 1) hx hb dX11_vote_26 (by decide) ?_
            refine lv_icmp_le (tgt := 32) hx hb dX11_vote_27 (by decide) (fun h_6 => ?_) (fun h_6 => ?_)
            · replace hf := tx_pos hf h_6
              refine lv_aload_n hx hb dX11_vote_32 rfl (lv_at hl 0 rfl) ?_
              refine gf_X11_52 S hE hw 0 rfl rfl dX11_vote_33 ?_
              refine lv_aload_n hx hb dX11_vote_36 rfl (lv_at hl 0 rfl) ?_
              refine gf_X11_42 S hE hw 0 rfl rfl dX11_vote_37 ?_
              refine lv_iload_n hx hb dX11_vote_40 rfl (lv_at hl 1 rfl) ?_
              refine lv_iload_n hx hb dX11_vote_41 rfl (lv_at hl 2 rfl) ?_
              refine lv_iload_n hx hb dX11_vote_42 rfl (lv_at hl 3 rfl) ?_
              have hw := hw.u6
              have hw := hw.u6
              have hw := hw.u6
              have hw := hw.u6
              have hw := hw.u6
              have hw := hw.u6
              obtain ⟨r_8, u_Y_9, u_W2_10, v_L_11, v_N_12, h_7, hf⟩ := tx_b5_e hf
              refine tx_ci hw (tx_runN S hE hw (c_X9_votes h_7) lk_X11_279 (q0 := 0) rfl rfl rfl hl.1 (rest := []) rfl (Nat.le_of_ble_eq_true rfl) ⟨by decide, by decide⟩ dX11_vote_43 ⟨Nat.zero_le _, Nat.zero_le _⟩) (fun H locs hw => ?_)
              have hw := hw.u5
              have hw := hw.u5
              have hw := hw.u5
              have hw := hw.u5
              have hw := hw.u5
              have hw := hw.u5
              have hw := hw.u6
              obtain ⟨e0, e1, e2, e3, e4, e5⟩ := tx_in6 hf
              rw [← e0, ← e1, ← e2, ← e3, ← e4, ← e5]
              exact tx_iret S hr hlk hw dX11_vote_46
            · replace hf := tx_neg hf h_6
              refine lv_iconst (v := -1) hx hb dX11_vote_30 (by decide) ?_
              obtain ⟨e0, e1, e2, e3, e4, e5⟩ := tx_in6 hf
              rw [← e0, ← e1, ← e2, ← e3, ← e4, ← e5]
              exact tx_iret S hr hlk hw dX11_vote_31
def f_X10_holdersOf_J73 (fu : Nat) (u_T : S32) (u_B : S32) (K5 : Int32 → Int32 → Int32 → Int32 → Option (Int32)) (w1 : Int32) (w2 : Int32) (w3 : Int32) (w4 : Int32) : Option (Int32) := tx_let (w4 + (1 : Int32)) fun (y_12 : Int32) => K5 w1 w2 w3 y_12
def f_X10_holdersOf_J5 (fu : Nat) (u_T : S32) (u_B : S32) (K5 : Int32 → Int32 → Int32 → Int32 → Option (Int32)) (w1 : Int32) (w2 : Int32) (w3 : Int32) (w4 : Int32) : Option (Int32) := if (u_B 0 5) ≤ w4 then (some w3) else (if (12 : Int32) ≤ w4 then (some w3) else (tx_b1 (f_X10_isHeld fu u_T u_B w4) fun (r_4 : Int32) => if r_4 = (0 : Int32) then (f_X10_holdersOf_J73 fu u_T u_B K5 w1 w2 w3 w4) else (tx_ck w4 12 <| if (u_B 8 w4.toNatClampNeg) = w1 then (tx_ck w4 12 <| if (u_B 10 w4.toNatClampNeg) = w2 then (tx_ck w4 12 <| tx_let (w3 ||| ((1 : Int32) <<< ((u_T 12 w4.toNatClampNeg) &&& 31))) fun (y_11 : Int32) => f_X10_holdersOf_J73 fu u_T u_B K5 w1 w2 y_11 w4) else (f_X10_holdersOf_J73 fu u_T u_B K5 w1 w2 w3 w4)) else (f_X10_holdersOf_J73 fu u_T u_B K5 w1 w2 w3 w4))))
def f_X10_holdersOf_L5 (fu : Nat) (u_T : S32) (u_B : S32) : Nat → Int32 → Int32 → Int32 → Int32 → Option (Int32)
  | 0 => fun _ _ _ _ => none
  | n + 1 => f_X10_holdersOf_J5 fu u_T u_B (f_X10_holdersOf_L5 fu u_T u_B n)
def f_X10_holdersOf (fu : Nat) (u_T : S32) (u_B : S32) (x1 : Int32) (x2 : Int32) : Option (Int32) := f_X10_holdersOf_L5 fu u_T u_B fu x1 x2 (0 : Int32) (0 : Int32)
set_option maxHeartbeats 4000000 in
set_option maxRecDepth 100000 in
theorem c_X10_holdersOf {l : Launch} {g : GG} {A : Nat → Prop} {X : va_W} {fu : Nat} {a_T a_B : Nat → Nat} {p_T_16 p_B_17 : Nat} {u_T : S32} {u_B : S32} {x1 : Int32} {x2 : Int32} {r : Int32} (hf : f_X10_holdersOf fu u_T u_B x1 x2 = some r) : MI l yX10_holdersOf cX10_holdersOf 5 (some .int) 2 g A (cl_X10 g a_T (a_B 0) p_T_16 u_T ++ (cl_X0 g a_B p_B_17 u_B ++ X)) [.ref (a_T 0), .int x1, .int x2] r (cl_X10 g a_T (a_B 0) p_T_16 u_T ++ (cl_X0 g a_B p_B_17 u_B ++ X)) := by
  refine tx_start (av := [.ref (a_T 0), .int x1, .int x2]) (by decide) (Nat.le_of_ble_eq_true rfl) ?_
  intro p e s m below meth c ls S hr hlk hE hw hl
  have S : CallFix p m c cX10_holdersOf 5 s (List.toArray [.ref (a_T 0), .int x1, .int x2]) (Cond.code yX10_holdersOf cX10_holdersOf 5 (some .int) :: allW) RX10 := S
  have hx := S.1
  have hb := S.2.1
  have hown := S.2.2.2.1
  have hts : ∀ w ∈ allW, w.before (List.toArray [.ref (a_T 0), .int x1, .int x2]) s = true := fun w h => S.2.2.2.2 w (List.mem_cons_of_mem _ h)
  have hl : lv_has ls 5 [(0, .ref (a_T 0)), (1, .int x1), (2, .int x2)] := hl
  have J73 : ∀ {K5 : Int32 → Int32 → Int32 → Int32 → Option (Int32)} (hK5 : ∀ {w1 : Int32} {w2 : Int32} {w3 : Int32} {w4 : Int32} {H : Heap} {locs : List Loc} {ls : Array Slot}, K5 w1 w2 w3 w4 = some r → WD g A s.heap (cl_X10 g a_T (a_B 0) p_T_16 u_T ++ (cl_X0 g a_B p_B_17 u_B ++ X)) H locs → lv_has ls 5 [(0, .ref (a_T 0)), (1, .int w1), (2, .int w2), (3, .int w3), (4, .int w4)] → W p l e (rmH 2) s m (List.toArray [.ref (a_T 0), .int x1, .int x2]) below meth c H locs 0 0 (MQ below (va_Qi (fun r2 (_ : Unit) => r2 = r) (fun _ t => POST g A (cl_X10 g a_T (a_B 0) p_T_16 u_T ++ (cl_X0 g a_B p_B_17 u_B ++ X)) t) A) (List.toArray [.ref (a_T 0), .int x1, .int x2]) s 0 0 A) (F0 m 5 ls [])), ∀ {w1 : Int32} {w2 : Int32} {w3 : Int32} {w4 : Int32} {H : Heap} {locs : List Loc} {ls : Array Slot}, f_X10_holdersOf_J73 fu u_T u_B K5 w1 w2 w3 w4 = some r → WD g A s.heap (cl_X10 g a_T (a_B 0) p_T_16 u_T ++ (cl_X0 g a_B p_B_17 u_B ++ X)) H locs → lv_has ls 5 [(0, .ref (a_T 0)), (1, .int w1), (2, .int w2), (3, .int w3), (4, .int w4)] → W p l e (rmH 2) s m (List.toArray [.ref (a_T 0), .int x1, .int x2]) below meth c H locs 0 0 (MQ below (va_Qi (fun r2 (_ : Unit) => r2 = r) (fun _ t => POST g A (cl_X10 g a_T (a_B 0) p_T_16 u_T ++ (cl_X0 g a_B p_B_17 u_B ++ X)) t) A) (List.toArray [.ref (a_T 0), .int x1, .int x2]) s 0 0 A) (F0 m 73 ls []) := by
    intro K5 hK5 w1 w2 w3 w4 H locs ls hf hw hl
    unfold f_X10_holdersOf_J73 at hf
    obtain ⟨y_12, ey_12⟩ : ∃ y : Int32, y = w4 + (1 : Int32) := ⟨_, rfl⟩
    replace hf := tx_let_e hf ey_12
    refine lv_iinc (v := y_12) (lv' := [(4, .int y_12), (0, .ref (a_T 0)), (1, .int w1), (2, .int w2), (3, .int w3)]) hx hb dX10_holdersOf_73 hl (k := 4) rfl (by rw [ey_12]; rfl) (by decide) rfl (fun ls hl => ?_)
    refine lv_goto (tgt := 5) hx hb dX10_holdersOf_76 (by decide) ?_
    exact hK5 hf hw (lv_sub hl [1, 2, 3, 4, 0] rfl)
  have J5 : ∀ {K5 : Int32 → Int32 → Int32 → Int32 → Option (Int32)} (hK5 : ∀ {w1 : Int32} {w2 : Int32} {w3 : Int32} {w4 : Int32} {H : Heap} {locs : List Loc} {ls : Array Slot}, K5 w1 w2 w3 w4 = some r → WD g A s.heap (cl_X10 g a_T (a_B 0) p_T_16 u_T ++ (cl_X0 g a_B p_B_17 u_B ++ X)) H locs → lv_has ls 5 [(0, .ref (a_T 0)), (1, .int w1), (2, .int w2), (3, .int w3), (4, .int w4)] → W p l e (rmH 2) s m (List.toArray [.ref (a_T 0), .int x1, .int x2]) below meth c H locs 0 0 (MQ below (va_Qi (fun r2 (_ : Unit) => r2 = r) (fun _ t => POST g A (cl_X10 g a_T (a_B 0) p_T_16 u_T ++ (cl_X0 g a_B p_B_17 u_B ++ X)) t) A) (List.toArray [.ref (a_T 0), .int x1, .int x2]) s 0 0 A) (F0 m 5 ls [])), ∀ {w1 : Int32} {w2 : Int32} {w3 : Int32} {w4 : Int32} {H : Heap} {locs : List Loc} {ls : Array Slot}, f_X10_holdersOf_J5 fu u_T u_B K5 w1 w2 w3 w4 = some r → WD g A s.heap (cl_X10 g a_T (a_B 0) p_T_16 u_T ++ (cl_X0 g a_B p_B_17 u_B ++ X)) H locs → lv_has ls 5 [(0, .ref (a_T 0)), (1, .int w1), (2, .int w2), (3, .int w3), (4, .int w4)] → W p l e (rmH 2) s m (List.toArray [.ref (a_T 0), .int x1, .int x2]) below meth c H locs 0 0 (MQ below (va_Qi (fun r2 (_ : Unit) => r2 = r) (fun _ t => POST g A (cl_X10 g a_T (a_B 0) p_T_16 u_T ++ (cl_X0 g a_B p_B_17 u_B ++ X)) t) A) (List.toArray [.ref (a_T 0), .int x1, .int x2]) s 0 0 A) (F0 m 5 ls []) := by
    intro K5 hK5 w1 w2 w3 w4 H locs ls hf hw hl
    unfold f_X10_holdersOf_J5 at hf
    refine lv_iload hx hb dX10_holdersOf_5 (lv_at hl 4 rfl) ?_
    refine lv_aload_n hx hb dX10_holdersOf_7 rfl (lv_at hl 0 rfl) ?_
    refine gf_X10_49 S hE hw 0 rfl rfl dX10_holdersOf_8 ?_
    refine gf_X10_117 S hE hw 12 rfl rfl dX10_holdersOf_11 ?_
    refine lv_icmp_ge (tgt := 79) hx hb dX10_holdersOf_14 (by decide) (fun h_1 => ?_) (fun h_1 => ?_)
    · replace hf := tx_pos hf h_1
      refine lv_iload_n hx hb dX10_holdersOf_79 rfl (lv_at hl 3 rfl) ?_
      obtain e0 := tx_in1 hf
      rw [← e0]
      exact tx_iret S hr hlk hw dX10_holdersOf_80
    · replace hf := tx_neg hf h_1
      refine lv_iload hx hb dX10_holdersOf_17 (lv_at hl 4 rfl) ?_
      refine lv_bipush (v := 12) hx hb dX10_holdersOf_19 (by decide) ?_
      refine lv_icmp_ge (tgt := 79) hx hb dX10_holdersOf_21 (by decide) (fun h_2 => ?_) (fun h_2 => ?_)
      · replace hf := tx_pos hf h_2
        refine lv_iload_n hx hb dX10_holdersOf_79 rfl (lv_at hl 3 rfl) ?_
        obtain e0 := tx_in1 hf
        rw [← e0]
        exact tx_iret S hr hlk hw dX10_holdersOf_80
      · replace hf := tx_neg hf h_2
        refine lv_aload_n hx hb dX10_holdersOf_24 rfl (lv_at hl 0 rfl) ?_
        refine lv_iload hx hb dX10_holdersOf_25 (lv_at hl 4 rfl) ?_
        obtain ⟨r_4, h_3, hf⟩ := tx_b1_e hf
        refine tx_ci hw (tx_runV S hE hw (c_X10_isHeld h_3) lk_X10_172 (q0 := 0) rfl rfl rfl hl.1 (rest := []) rfl (Nat.le_of_ble_eq_true rfl) ⟨by decide, by decide⟩ dX10_holdersOf_27 ⟨Nat.zero_le _, Nat.zero_le _⟩) (fun H locs hw => ?_)
        refine lv_if_eq (tgt := 73) hx hb dX10_holdersOf_30 (by decide) (fun h_5 => ?_) (fun h_5 => ?_)
        · replace hf := tx_pos hf h_5
          exact J73 hK5 hf hw (lv_sub hl [0, 1, 2, 3, 4] rfl)
        · replace hf := tx_neg hf h_5
          refine lv_aload_n hx hb dX10_holdersOf_33 rfl (lv_at hl 0 rfl) ?_
          refine gf_X10_49 S hE hw 0 rfl rfl dX10_holdersOf_34 ?_
          refine gf_X10_141 S hE hw 12 rfl rfl dX10_holdersOf_37 ?_
          refine lv_iload hx hb dX10_holdersOf_40 (lv_at hl 4 rfl) ?_
          obtain ⟨h_6, hf⟩ := tx_ck_e hf
          refine tx_iald S hE hw 17 rfl h_6 dX10_holdersOf_42 ?_
          refine lv_iload_n hx hb dX10_holdersOf_43 rfl (lv_at hl 1 rfl) ?_
          refine lv_icmp_ne (tgt := 73) hx hb dX10_holdersOf_44 (by decide) (fun h_7 => ?_) (fun h_7 => ?_)
          · replace hf := tx_neg hf h_7
            exact J73 hK5 hf hw (lv_sub hl [0, 1, 2, 3, 4] rfl)
          · replace hf := tx_pos hf h_7
            refine lv_aload_n hx hb dX10_holdersOf_47 rfl (lv_at hl 0 rfl) ?_
            refine gf_X10_49 S hE hw 0 rfl rfl dX10_holdersOf_48 ?_
            refine gf_X10_171 S hE hw 12 rfl rfl dX10_holdersOf_51 ?_
            refine lv_iload hx hb dX10_holdersOf_54 (lv_at hl 4 rfl) ?_
            obtain ⟨h_8, hf⟩ := tx_ck_e hf
            refine tx_iald S hE hw 19 rfl h_8 dX10_holdersOf_56 ?_
            refine lv_iload_n hx hb dX10_holdersOf_57 rfl (lv_at hl 2 rfl) ?_
            refine lv_icmp_ne (tgt := 73) hx hb dX10_holdersOf_58 (by decide) (fun h_9 => ?_) (fun h_9 => ?_)
            · replace hf := tx_neg hf h_9
              exact J73 hK5 hf hw (lv_sub hl [0, 1, 2, 3, 4] rfl)
            · replace hf := tx_pos hf h_9
              refine lv_iload_n hx hb dX10_holdersOf_61 rfl (lv_at hl 3 rfl) ?_
              refine lv_iconst (v := 1) hx hb dX10_holdersOf_62 (by decide) ?_
              refine lv_aload_n hx hb dX10_holdersOf_63 rfl (lv_at hl 0 rfl) ?_
              refine gf_X10_33 S hE hw 0 rfl rfl dX10_holdersOf_64 ?_
              refine lv_iload hx hb dX10_holdersOf_67 (lv_at hl 4 rfl) ?_
              obtain ⟨h_10, hf⟩ := tx_ck_e hf
              refine tx_iald S hE hw 8 rfl h_10 dX10_holdersOf_69 ?_
              refine lv_ishl hx hb dX10_holdersOf_70 ?_
              refine lv_ior hx hb dX10_holdersOf_71 ?_
              refine lv_topi (fun y_11 ey_11 => ?_)
              replace hf := tx_let_e hf ey_11
              refine lv_istore_n (lv' := [(3, .int y_11), (0, .ref (a_T 0)), (1, .int w1), (2, .int w2), (4, .int w4)]) hx hb dX10_holdersOf_72 rfl hl (by decide) rfl (fun ls hl => ?_)
              exact J73 hK5 hf hw (lv_sub hl [1, 2, 3, 0, 4] rfl)
  have L5 : ∀ (n : Nat), ∀ {w1 : Int32} {w2 : Int32} {w3 : Int32} {w4 : Int32} {H : Heap} {locs : List Loc} {ls : Array Slot}, f_X10_holdersOf_L5 fu u_T u_B n w1 w2 w3 w4 = some r → WD g A s.heap (cl_X10 g a_T (a_B 0) p_T_16 u_T ++ (cl_X0 g a_B p_B_17 u_B ++ X)) H locs → lv_has ls 5 [(0, .ref (a_T 0)), (1, .int w1), (2, .int w2), (3, .int w3), (4, .int w4)] → W p l e (rmH 2) s m (List.toArray [.ref (a_T 0), .int x1, .int x2]) below meth c H locs 0 0 (MQ below (va_Qi (fun r2 (_ : Unit) => r2 = r) (fun _ t => POST g A (cl_X10 g a_T (a_B 0) p_T_16 u_T ++ (cl_X0 g a_B p_B_17 u_B ++ X)) t) A) (List.toArray [.ref (a_T 0), .int x1, .int x2]) s 0 0 A) (F0 m 5 ls []) := by
    intro  n
    induction n with
    | zero => intro w1 w2 w3 w4 H locs ls hf; exact absurd hf (by intro q; cases q)
    | succ n ih => exact fun hf hw hl => J5 ih hf hw hl
  unfold f_X10_holdersOf at hf
  refine lv_iconst (v := 0) hx hb dX10_holdersOf_0 (by decide) ?_
  refine lv_istore_n (lv' := [(3, .int (0 : Int32)), (0, .ref (a_T 0)), (1, .int x1), (2, .int x2)]) hx hb dX10_holdersOf_1 rfl hl (by decide) rfl (fun ls hl => ?_)
  refine lv_iconst (v := 0) hx hb dX10_holdersOf_2 (by decide) ?_
  refine lv_istore (lv' := [(4, .int (0 : Int32)), (3, .int (0 : Int32)), (0, .ref (a_T 0)), (1, .int x1), (2, .int x2)]) hx hb dX10_holdersOf_3 hl (by decide) rfl (fun ls hl => ?_)
  exact L5 fu hf hw (lv_sub hl [2, 3, 4, 1, 0] rfl)
def f_X11_whose (fu : Nat) (u_T : S32) (u_W : S32) (u_B : S32) (x1 : Int32) (x2 : Int32) : Option (Int32) := if x1 < (1 : Int32) then (some (-1 : Int32)) else (if (99 : Int32) < x1 then (some (-1 : Int32)) else (if x2 < (0 : Int32) then (some (-1 : Int32)) else (if x2 ≤ (3 : Int32) then (tx_b1 (f_X10_holdersOf fu u_W u_B x1 x2) fun (r_6 : Int32) => some r_6) else (some (-1 : Int32)))))
set_option maxHeartbeats 4000000 in
set_option maxRecDepth 100000 in
theorem c_X11_whose {l : Launch} {g : GG} {A : Nat → Prop} {X : va_W} {fu : Nat} {a_T a_W a_B : Nat → Nat} {p_T_0 p_T_2 p_T_3 p_T_5 p_T_6 p_T_7 p_T_8 p_T_9 p_W_16 p_B_17 : Nat} {u_T : S32} {u_W : S32} {u_B : S32} {x1 : Int32} {x2 : Int32} {r : Int32} (hf : f_X11_whose fu u_T u_W u_B x1 x2 = some r) : MI l yX11_whose cX11_whose 3 (some .int) 3 g A (cl_X11 g a_T p_T_0 (a_B 0) p_T_2 p_T_3 (a_W 0) p_T_5 p_T_6 p_T_7 p_T_8 p_T_9 u_T ++ (cl_X10 g a_W (a_B 0) p_W_16 u_W ++ (cl_X0 g a_B p_B_17 u_B ++ X))) [.ref (a_T 0), .int x1, .int x2] r (cl_X11 g a_T p_T_0 (a_B 0) p_T_2 p_T_3 (a_W 0) p_T_5 p_T_6 p_T_7 p_T_8 p_T_9 u_T ++ (cl_X10 g a_W (a_B 0) p_W_16 u_W ++ (cl_X0 g a_B p_B_17 u_B ++ X))) := by
  refine tx_start (av := [.ref (a_T 0), .int x1, .int x2]) (by decide) (Nat.le_of_ble_eq_true rfl) ?_
  intro p e s m below meth c ls S hr hlk hE hw hl
  have S : CallFix p m c cX11_whose 3 s (List.toArray [.ref (a_T 0), .int x1, .int x2]) (Cond.code yX11_whose cX11_whose 3 (some .int) :: allW) RX11 := S
  have hx := S.1
  have hb := S.2.1
  have hown := S.2.2.2.1
  have hts : ∀ w ∈ allW, w.before (List.toArray [.ref (a_T 0), .int x1, .int x2]) s = true := fun w h => S.2.2.2.2 w (List.mem_cons_of_mem _ h)
  have hl : lv_has ls 3 [(0, .ref (a_T 0)), (1, .int x1), (2, .int x2)] := hl
  unfold f_X11_whose at hf
  refine lv_iload_n hx hb dX11_whose_0 rfl (lv_at hl 1 rfl) ?_
  refine lv_iconst (v := 1) hx hb dX11_whose_1 (by decide) ?_
  refine lv_icmp_lt (tgt := 20) hx hb dX11_whose_2 (by decide) (fun h_1 => ?_) (fun h_1 => ?_)
  · replace hf := tx_pos hf h_1
    refine lv_iconst (v := -1) hx hb dX11_whose_20 (by decide) ?_
    obtain e0 := tx_in1 hf
    rw [← e0]
    exact tx_iret S hr hlk hw dX11_whose_21
  · replace hf := tx_neg hf h_1
    refine lv_iload_n hx hb dX11_whose_5 rfl (lv_at hl 1 rfl) ?_
    refine lv_bipush (v := 99) hx hb dX11_whose_6 (by decide) ?_
    refine lv_icmp_gt (tgt := 20) hx hb dX11_whose_8 (by decide) (fun h_2 => ?_) (fun h_2 => ?_)
    · replace hf := tx_pos hf h_2
      refine lv_iconst (v := -1) hx hb dX11_whose_20 (by decide) ?_
      obtain e0 := tx_in1 hf
      rw [← e0]
      exact tx_iret S hr hlk hw dX11_whose_21
    · replace hf := tx_neg hf h_2
      refine lv_iload_n hx hb dX11_whose_11 rfl (lv_at hl 2 rfl) ?_
      refine lv_if_lt (tgt := 20) hx hb dX11_whose_12 (by decide) (fun h_3 => ?_) (fun h_3 => ?_)
      · replace hf := tx_pos hf h_3
        refine lv_iconst (v := -1) hx hb dX11_whose_20 (by decide) ?_
        obtain e0 := tx_in1 hf
        rw [← e0]
        exact tx_iret S hr hlk hw dX11_whose_21
      · replace hf := tx_neg hf h_3
        refine lv_iload_n hx hb dX11_whose_15 rfl (lv_at hl 2 rfl) ?_
        refine lv_iconst (v := 3) hx hb dX11_whose_16 (by decide) ?_
        refine lv_icmp_le (tgt := 22) hx hb dX11_whose_17 (by decide) (fun h_4 => ?_) (fun h_4 => ?_)
        · replace hf := tx_pos hf h_4
          refine lv_aload_n hx hb dX11_whose_22 rfl (lv_at hl 0 rfl) ?_
          refine gf_X11_42 S hE hw 0 rfl rfl dX11_whose_23 ?_
          refine lv_iload_n hx hb dX11_whose_26 rfl (lv_at hl 1 rfl) ?_
          refine lv_iload_n hx hb dX11_whose_27 rfl (lv_at hl 2 rfl) ?_
          have hw := hw.u2
          have hw := hw.u2
          obtain ⟨r_6, h_5, hf⟩ := tx_b1_e hf
          refine tx_ci hw (tx_runN S hE hw (c_X10_holdersOf h_5) lk_X11_283 (q0 := 0) rfl rfl rfl hl.1 (rest := []) rfl (Nat.le_of_ble_eq_true rfl) ⟨by decide, by decide⟩ dX11_whose_28 ⟨Nat.zero_le _, Nat.zero_le _⟩) (fun H locs hw => ?_)
          have hw := hw.u1
          have hw := hw.u1
          have hw := hw.u2
          obtain e0 := tx_in1 hf
          rw [← e0]
          exact tx_iret S hr hlk hw dX11_whose_31
        · replace hf := tx_neg hf h_4
          refine lv_iconst (v := -1) hx hb dX11_whose_20 (by decide) ?_
          obtain e0 := tx_in1 hf
          rw [← e0]
          exact tx_iret S hr hlk hw dX11_whose_21
def f_X10_greatest_tX10r8_J43 (fu : Nat) (u_T : S32) (u_B : S32) (K4 : Int32 → Int32 → Option (Int32)) (w2 : Int32) (w3 : Int32) : Option (Int32) := tx_let (w3 + (1 : Int32)) fun (y_8 : Int32) => K4 w2 y_8
def f_X10_greatest_tX10r8_J41 (fu : Nat) (u_T : S32) (u_B : S32) (K4 : Int32 → Int32 → Option (Int32)) (w3 : Int32) : Option (Int32) := f_X10_greatest_tX10r8_J43 fu u_T u_B K4 w3 w3
def f_X10_greatest_tX10r8_J4 (fu : Nat) (u_T : S32) (u_B : S32) (K4 : Int32 → Int32 → Option (Int32)) (w2 : Int32) (w3 : Int32) : Option (Int32) := if (u_B 0 1) ≤ w3 then (some w2) else (if (6 : Int32) ≤ w3 then (some w2) else (if (6 : Int32) ≤ w3 then (some w2) else (if w2 = (-1 : Int32) then (f_X10_greatest_tX10r8_J41 fu u_T u_B K4 w3) else (tx_ck w3 6 <| tx_ck w2 6 <| if (u_T 8 w3.toNatClampNeg) ≤ (u_T 8 w2.toNatClampNeg) then (f_X10_greatest_tX10r8_J43 fu u_T u_B K4 w2 w3) else (f_X10_greatest_tX10r8_J41 fu u_T u_B K4 w3)))))
def f_X10_greatest_tX10r8_L4 (fu : Nat) (u_T : S32) (u_B : S32) : Nat → Int32 → Int32 → Option (Int32)
  | 0 => fun _ _ => none
  | n + 1 => f_X10_greatest_tX10r8_J4 fu u_T u_B (f_X10_greatest_tX10r8_L4 fu u_T u_B n)
def f_X10_greatest_tX10r8 (fu : Nat) (u_T : S32) (u_B : S32) : Option (Int32) := f_X10_greatest_tX10r8_L4 fu u_T u_B fu (-1 : Int32) (0 : Int32)
set_option maxHeartbeats 4000000 in
set_option maxRecDepth 100000 in
theorem c_X10_greatest_tX10r8 {l : Launch} {g : GG} {A : Nat → Prop} {X : va_W} {fu : Nat} {a_T a_B : Nat → Nat} {p_T_16 p_B_17 : Nat} {u_T : S32} {u_B : S32} {r : Int32} (hf : f_X10_greatest_tX10r8 fu u_T u_B = some r) : MI l yX10_greatest cX10_greatest 4 (some .int) 0 g A (cl_X10 g a_T (a_B 0) p_T_16 u_T ++ (cl_X0 g a_B p_B_17 u_B ++ X)) [.ref (a_T 0), .ref (a_T 8)] r (cl_X10 g a_T (a_B 0) p_T_16 u_T ++ (cl_X0 g a_B p_B_17 u_B ++ X)) := by
  refine tx_start (av := [.ref (a_T 0), .ref (a_T 8)]) (by decide) (Nat.le_of_ble_eq_true rfl) ?_
  intro p e s m below meth c ls S hr hlk hE hw hl
  have S : CallFix p m c cX10_greatest 4 s (List.toArray [.ref (a_T 0), .ref (a_T 8)]) (Cond.code yX10_greatest cX10_greatest 4 (some .int) :: allW) RX10 := S
  have hx := S.1
  have hb := S.2.1
  have hown := S.2.2.2.1
  have hts : ∀ w ∈ allW, w.before (List.toArray [.ref (a_T 0), .ref (a_T 8)]) s = true := fun w h => S.2.2.2.2 w (List.mem_cons_of_mem _ h)
  have hl : lv_has ls 4 [(0, .ref (a_T 0)), (1, .ref (a_T 8))] := hl
  have J43 : ∀ {K4 : Int32 → Int32 → Option (Int32)} (hK4 : ∀ {w2 : Int32} {w3 : Int32} {H : Heap} {locs : List Loc} {ls : Array Slot}, K4 w2 w3 = some r → WD g A s.heap (cl_X10 g a_T (a_B 0) p_T_16 u_T ++ (cl_X0 g a_B p_B_17 u_B ++ X)) H locs → lv_has ls 4 [(0, .ref (a_T 0)), (1, .ref (a_T 8)), (2, .int w2), (3, .int w3)] → W p l e (rmH 0) s m (List.toArray [.ref (a_T 0), .ref (a_T 8)]) below meth c H locs 0 0 (MQ below (va_Qi (fun r2 (_ : Unit) => r2 = r) (fun _ t => POST g A (cl_X10 g a_T (a_B 0) p_T_16 u_T ++ (cl_X0 g a_B p_B_17 u_B ++ X)) t) A) (List.toArray [.ref (a_T 0), .ref (a_T 8)]) s 0 0 A) (F0 m 4 ls [])), ∀ {w2 : Int32} {w3 : Int32} {H : Heap} {locs : List Loc} {ls : Array Slot}, f_X10_greatest_tX10r8_J43 fu u_T u_B K4 w2 w3 = some r → WD g A s.heap (cl_X10 g a_T (a_B 0) p_T_16 u_T ++ (cl_X0 g a_B p_B_17 u_B ++ X)) H locs → lv_has ls 4 [(0, .ref (a_T 0)), (1, .ref (a_T 8)), (2, .int w2), (3, .int w3)] → W p l e (rmH 0) s m (List.toArray [.ref (a_T 0), .ref (a_T 8)]) below meth c H locs 0 0 (MQ below (va_Qi (fun r2 (_ : Unit) => r2 = r) (fun _ t => POST g A (cl_X10 g a_T (a_B 0) p_T_16 u_T ++ (cl_X0 g a_B p_B_17 u_B ++ X)) t) A) (List.toArray [.ref (a_T 0), .ref (a_T 8)]) s 0 0 A) (F0 m 43 ls []) := by
    intro K4 hK4 w2 w3 H locs ls hf hw hl
    unfold f_X10_greatest_tX10r8_J43 at hf
    obtain ⟨y_8, ey_8⟩ : ∃ y : Int32, y = w3 + (1 : Int32) := ⟨_, rfl⟩
    replace hf := tx_let_e hf ey_8
    refine lv_iinc (v := y_8) (lv' := [(3, .int y_8), (0, .ref (a_T 0)), (1, .ref (a_T 8)), (2, .int w2)]) hx hb dX10_greatest_43 hl (k := 3) rfl (by rw [ey_8]; rfl) (by decide) rfl (fun ls hl => ?_)
    refine lv_goto (tgt := 4) hx hb dX10_greatest_46 (by decide) ?_
    exact hK4 hf hw (lv_sub hl [1, 2, 3, 0] rfl)
  have J41 : ∀ {K4 : Int32 → Int32 → Option (Int32)} (hK4 : ∀ {w2 : Int32} {w3 : Int32} {H : Heap} {locs : List Loc} {ls : Array Slot}, K4 w2 w3 = some r → WD g A s.heap (cl_X10 g a_T (a_B 0) p_T_16 u_T ++ (cl_X0 g a_B p_B_17 u_B ++ X)) H locs → lv_has ls 4 [(0, .ref (a_T 0)), (1, .ref (a_T 8)), (2, .int w2), (3, .int w3)] → W p l e (rmH 0) s m (List.toArray [.ref (a_T 0), .ref (a_T 8)]) below meth c H locs 0 0 (MQ below (va_Qi (fun r2 (_ : Unit) => r2 = r) (fun _ t => POST g A (cl_X10 g a_T (a_B 0) p_T_16 u_T ++ (cl_X0 g a_B p_B_17 u_B ++ X)) t) A) (List.toArray [.ref (a_T 0), .ref (a_T 8)]) s 0 0 A) (F0 m 4 ls [])), ∀ {w3 : Int32} {H : Heap} {locs : List Loc} {ls : Array Slot}, f_X10_greatest_tX10r8_J41 fu u_T u_B K4 w3 = some r → WD g A s.heap (cl_X10 g a_T (a_B 0) p_T_16 u_T ++ (cl_X0 g a_B p_B_17 u_B ++ X)) H locs → lv_has ls 4 [(0, .ref (a_T 0)), (1, .ref (a_T 8)), (3, .int w3)] → W p l e (rmH 0) s m (List.toArray [.ref (a_T 0), .ref (a_T 8)]) below meth c H locs 0 0 (MQ below (va_Qi (fun r2 (_ : Unit) => r2 = r) (fun _ t => POST g A (cl_X10 g a_T (a_B 0) p_T_16 u_T ++ (cl_X0 g a_B p_B_17 u_B ++ X)) t) A) (List.toArray [.ref (a_T 0), .ref (a_T 8)]) s 0 0 A) (F0 m 41 ls []) := by
    intro K4 hK4 w3 H locs ls hf hw hl
    unfold f_X10_greatest_tX10r8_J41 at hf
    refine lv_iload_n hx hb dX10_greatest_41 rfl (lv_at hl 2 rfl) ?_
    refine lv_istore_n (lv' := [(2, .int w3), (0, .ref (a_T 0)), (1, .ref (a_T 8)), (3, .int w3)]) hx hb dX10_greatest_42 rfl hl (by decide) rfl (fun ls hl => ?_)
    exact J43 hK4 hf hw (lv_sub hl [1, 2, 0, 3] rfl)
  have J4 : ∀ {K4 : Int32 → Int32 → Option (Int32)} (hK4 : ∀ {w2 : Int32} {w3 : Int32} {H : Heap} {locs : List Loc} {ls : Array Slot}, K4 w2 w3 = some r → WD g A s.heap (cl_X10 g a_T (a_B 0) p_T_16 u_T ++ (cl_X0 g a_B p_B_17 u_B ++ X)) H locs → lv_has ls 4 [(0, .ref (a_T 0)), (1, .ref (a_T 8)), (2, .int w2), (3, .int w3)] → W p l e (rmH 0) s m (List.toArray [.ref (a_T 0), .ref (a_T 8)]) below meth c H locs 0 0 (MQ below (va_Qi (fun r2 (_ : Unit) => r2 = r) (fun _ t => POST g A (cl_X10 g a_T (a_B 0) p_T_16 u_T ++ (cl_X0 g a_B p_B_17 u_B ++ X)) t) A) (List.toArray [.ref (a_T 0), .ref (a_T 8)]) s 0 0 A) (F0 m 4 ls [])), ∀ {w2 : Int32} {w3 : Int32} {H : Heap} {locs : List Loc} {ls : Array Slot}, f_X10_greatest_tX10r8_J4 fu u_T u_B K4 w2 w3 = some r → WD g A s.heap (cl_X10 g a_T (a_B 0) p_T_16 u_T ++ (cl_X0 g a_B p_B_17 u_B ++ X)) H locs → lv_has ls 4 [(0, .ref (a_T 0)), (1, .ref (a_T 8)), (2, .int w2), (3, .int w3)] → W p l e (rmH 0) s m (List.toArray [.ref (a_T 0), .ref (a_T 8)]) below meth c H locs 0 0 (MQ below (va_Qi (fun r2 (_ : Unit) => r2 = r) (fun _ t => POST g A (cl_X10 g a_T (a_B 0) p_T_16 u_T ++ (cl_X0 g a_B p_B_17 u_B ++ X)) t) A) (List.toArray [.ref (a_T 0), .ref (a_T 8)]) s 0 0 A) (F0 m 4 ls []) := by
    intro K4 hK4 w2 w3 H locs ls hf hw hl
    unfold f_X10_greatest_tX10r8_J4 at hf
    refine lv_iload_n hx hb dX10_greatest_4 rfl (lv_at hl 3 rfl) ?_
    refine lv_aload_n hx hb dX10_greatest_5 rfl (lv_at hl 0 rfl) ?_
    refine gf_X10_49 S hE hw 0 rfl rfl dX10_greatest_6 ?_
    refine gf_X10_93 S hE hw 12 rfl rfl dX10_greatest_9 ?_
    refine lv_icmp_ge (tgt := 49) hx hb dX10_greatest_12 (by decide) (fun h_1 => ?_) (fun h_1 => ?_)
    · replace hf := tx_pos hf h_1
      refine lv_iload_n hx hb dX10_greatest_49 rfl (lv_at hl 2 rfl) ?_
      obtain e0 := tx_in1 hf
      rw [← e0]
      exact tx_iret S hr hlk hw dX10_greatest_50
    · replace hf := tx_neg hf h_1
      refine lv_iload_n hx hb dX10_greatest_15 rfl (lv_at hl 3 rfl) ?_
      refine lv_bipush (v := 6) hx hb dX10_greatest_16 (by decide) ?_
      refine lv_icmp_ge (tgt := 49) hx hb dX10_greatest_18 (by decide) (fun h_2 => ?_) (fun h_2 => ?_)
      · replace hf := tx_pos hf h_2
        refine lv_iload_n hx hb dX10_greatest_49 rfl (lv_at hl 2 rfl) ?_
        obtain e0 := tx_in1 hf
        rw [← e0]
        exact tx_iret S hr hlk hw dX10_greatest_50
      · replace hf := tx_neg hf h_2
        refine lv_iload_n hx hb dX10_greatest_21 rfl (lv_at hl 3 rfl) ?_
        refine lv_aload_n hx hb dX10_greatest_22 rfl (lv_at hl 1 rfl) ?_
        refine tx_alen (v := 6) S hE hw 4 1 rfl rfl rfl dX10_greatest_23 ?_
        refine lv_icmp_ge (tgt := 49) hx hb dX10_greatest_24 (by decide) (fun h_3 => ?_) (fun h_3 => ?_)
        · replace hf := tx_pos hf h_3
          refine lv_iload_n hx hb dX10_greatest_49 rfl (lv_at hl 2 rfl) ?_
          obtain e0 := tx_in1 hf
          rw [← e0]
          exact tx_iret S hr hlk hw dX10_greatest_50
        · replace hf := tx_neg hf h_3
          refine lv_iload_n hx hb dX10_greatest_27 rfl (lv_at hl 2 rfl) ?_
          refine lv_iconst (v := -1) hx hb dX10_greatest_28 (by decide) ?_
          refine lv_icmp_eq (tgt := 41) hx hb dX10_greatest_29 (by decide) (fun h_4 => ?_) (fun h_4 => ?_)
          · replace hf := tx_pos hf h_4
            exact J41 hK4 hf hw (lv_sub hl [0, 1, 3] rfl)
          · replace hf := tx_neg hf h_4
            refine lv_aload_n hx hb dX10_greatest_32 rfl (lv_at hl 1 rfl) ?_
            refine lv_iload_n hx hb dX10_greatest_33 rfl (lv_at hl 3 rfl) ?_
            obtain ⟨h_5, hf⟩ := tx_ck_e hf
            refine tx_iald S hE hw 4 rfl h_5 dX10_greatest_34 ?_
            refine lv_aload_n hx hb dX10_greatest_35 rfl (lv_at hl 1 rfl) ?_
            refine lv_iload_n hx hb dX10_greatest_36 rfl (lv_at hl 2 rfl) ?_
            obtain ⟨h_6, hf⟩ := tx_ck_e hf
            refine tx_iald S hE hw 4 rfl h_6 dX10_greatest_37 ?_
            refine lv_icmp_le (tgt := 43) hx hb dX10_greatest_38 (by decide) (fun h_7 => ?_) (fun h_7 => ?_)
            · replace hf := tx_pos hf h_7
              exact J43 hK4 hf hw (lv_sub hl [0, 1, 2, 3] rfl)
            · replace hf := tx_neg hf h_7
              exact J41 hK4 hf hw (lv_sub hl [0, 1, 3] rfl)
  have L4 : ∀ (n : Nat), ∀ {w2 : Int32} {w3 : Int32} {H : Heap} {locs : List Loc} {ls : Array Slot}, f_X10_greatest_tX10r8_L4 fu u_T u_B n w2 w3 = some r → WD g A s.heap (cl_X10 g a_T (a_B 0) p_T_16 u_T ++ (cl_X0 g a_B p_B_17 u_B ++ X)) H locs → lv_has ls 4 [(0, .ref (a_T 0)), (1, .ref (a_T 8)), (2, .int w2), (3, .int w3)] → W p l e (rmH 0) s m (List.toArray [.ref (a_T 0), .ref (a_T 8)]) below meth c H locs 0 0 (MQ below (va_Qi (fun r2 (_ : Unit) => r2 = r) (fun _ t => POST g A (cl_X10 g a_T (a_B 0) p_T_16 u_T ++ (cl_X0 g a_B p_B_17 u_B ++ X)) t) A) (List.toArray [.ref (a_T 0), .ref (a_T 8)]) s 0 0 A) (F0 m 4 ls []) := by
    intro  n
    induction n with
    | zero => intro w2 w3 H locs ls hf; exact absurd hf (by intro q; cases q)
    | succ n ih => exact fun hf hw hl => J4 ih hf hw hl
  unfold f_X10_greatest_tX10r8 at hf
  refine lv_iconst (v := -1) hx hb dX10_greatest_0 (by decide) ?_
  refine lv_istore_n (lv' := [(2, .int (-1 : Int32)), (0, .ref (a_T 0)), (1, .ref (a_T 8))]) hx hb dX10_greatest_1 rfl hl (by decide) rfl (fun ls hl => ?_)
  refine lv_iconst (v := 0) hx hb dX10_greatest_2 (by decide) ?_
  refine lv_istore_n (lv' := [(3, .int (0 : Int32)), (2, .int (-1 : Int32)), (0, .ref (a_T 0)), (1, .ref (a_T 8))]) hx hb dX10_greatest_3 rfl hl (by decide) rfl (fun ls hl => ?_)
  exact L4 fu hf hw (lv_sub hl [2, 3, 1, 0] rfl)
