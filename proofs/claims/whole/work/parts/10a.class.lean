def f_X6_hasRoom (fu : Nat) (u_T : S32) (x1 : Int32) : Option (Int32) := if (700 : Int32) < ((u_T 0 1) + x1) then (some (0 : Int32)) else (some (1 : Int32))
set_option maxHeartbeats 4000000 in
set_option maxRecDepth 100000 in
theorem c_X6_hasRoom {l : Launch} {g : GG} {A : Nat → Prop} {X : va_W} {fu : Nat} {a_T : Nat → Nat} {u_T : S32} {x1 : Int32} {r : Int32} (hf : f_X6_hasRoom fu u_T x1 = some r) : MI l yX6_hasRoom cX6_hasRoom 2 (some .boolean) 0 g A (cl_X6 g a_T u_T ++ X) [.ref (a_T 0), .int x1] r (cl_X6 g a_T u_T ++ X) := by
  refine tx_start (av := [.ref (a_T 0), .int x1]) (by decide) (Nat.le_of_ble_eq_true rfl) ?_
  intro p e s m below meth c ls S hr hlk hE hw hl
  have S : CallFix p m c cX6_hasRoom 2 s (List.toArray [.ref (a_T 0), .int x1]) (Cond.code yX6_hasRoom cX6_hasRoom 2 (some .boolean) :: allW) RX6 := S
  have hx := S.1
  have hb := S.2.1
  have hown := S.2.2.2.1
  have hts : ∀ w ∈ allW, w.before (List.toArray [.ref (a_T 0), .int x1]) s = true := fun w h => S.2.2.2.2 w (List.mem_cons_of_mem _ h)
  have hl : lv_has ls 2 [(0, .ref (a_T 0)), (1, .int x1)] := hl
  unfold f_X6_hasRoom at hf
  refine lv_aload_n hx hb dX6_hasRoom_0 rfl (lv_at hl 0 rfl) ?_
  refine gf_X6_13 S hE hw 0 rfl rfl dX6_hasRoom_1 ?_
  refine lv_iload_n hx hb dX6_hasRoom_4 rfl (lv_at hl 1 rfl) ?_
  refine lv_iadd hx hb dX6_hasRoom_5 ?_
  refine lv_sipush (v := 700) hx hb dX6_hasRoom_6 (by decide) ?_
  refine lv_icmp_gt (tgt := 16) hx hb dX6_hasRoom_9 (by decide) (fun h_1 => ?_) (fun h_1 => ?_)
  · replace hf := tx_pos hf h_1
    refine lv_iconst (v := 0) hx hb dX6_hasRoom_16 (by decide) ?_
    obtain e0 := tx_in1 hf
    rw [← e0]
    exact tx_zret S hr hlk (by decide) hw dX6_hasRoom_17
  · replace hf := tx_neg hf h_1
    refine lv_iconst (v := 1) hx hb dX6_hasRoom_12 (by decide) ?_
    refine lv_goto (tgt := 17) hx hb dX6_hasRoom_13 (by decide) ?_
    obtain e0 := tx_in1 hf
    rw [← e0]
    exact tx_zret S hr hlk (by decide) hw dX6_hasRoom_17
def f_X6_add_J47 (fu : Nat) (K3 : S32 → Int32 → Int32 → Option (S32)) (u_T : S32) (w1 : Int32) (w2 : Int32) : Option (S32) := tx_let (w2 + (-8 : Int32)) fun (y_7 : Int32) => K3 u_T w1 y_7
def f_X6_add_J3 (fu : Nat) (K3 : S32 → Int32 → Int32 → Option (S32)) (u_T : S32) (w1 : Int32) (w2 : Int32) : Option (S32) := if w2 < (0 : Int32) then (some u_T) else (if (u_T 0 1) < (0 : Int32) then (f_X6_add_J47 fu K3 u_T w1 w2) else (if (700 : Int32) ≤ (u_T 0 1) then (f_X6_add_J47 fu K3 u_T w1 w2) else (tx_ck (u_T 0 1) 700 <| tx_let (up2 u_T 1 (u_T 0 1).toNatClampNeg ((w1 >>> (w2 &&& 31)).toInt8.toInt32).toInt8.toInt32) fun (u_T_5 : S32) => tx_let (up2 u_T_5 0 1 ((u_T_5 0 1) + (1 : Int32))) fun (u_T_6 : S32) => f_X6_add_J47 fu K3 u_T_6 w1 w2)))
def f_X6_add_L3 (fu : Nat) : Nat → S32 → Int32 → Int32 → Option (S32)
  | 0 => fun _ _ _ => none
  | n + 1 => f_X6_add_J3 fu (f_X6_add_L3 fu n)
def f_X6_add (fu : Nat) (u_T : S32) (x1 : Int32) : Option (S32) := f_X6_add_L3 fu fu u_T x1 (24 : Int32)
set_option maxHeartbeats 4000000 in
set_option maxRecDepth 100000 in
theorem c_X6_add {l : Launch} {g : GG} {A : Nat → Prop} {X : va_W} {fu : Nat} {a_T : Nat → Nat} {u_T : S32} {x1 : Int32} {zu_T : S32} (hf : f_X6_add fu  u_T x1 = some zu_T) : MV l yX6_add cX6_add 3 none 0 g A (cl_X6 g a_T u_T ++ X) [.ref (a_T 0), .int x1] (cl_X6 g a_T zu_T ++ X) := by
  refine tx_start (av := [.ref (a_T 0), .int x1]) (by decide) (Nat.le_of_ble_eq_true rfl) ?_
  intro p e s m below meth c ls S hr hlk hE hw hl
  have S : CallFix p m c cX6_add 3 s (List.toArray [.ref (a_T 0), .int x1]) (Cond.code yX6_add cX6_add 3 none :: allW) RX6 := S
  have hx := S.1
  have hb := S.2.1
  have hown := S.2.2.2.1
  have hts : ∀ w ∈ allW, w.before (List.toArray [.ref (a_T 0), .int x1]) s = true := fun w h => S.2.2.2.2 w (List.mem_cons_of_mem _ h)
  have hl : lv_has ls 3 [(0, .ref (a_T 0)), (1, .int x1)] := hl
  have J47 : ∀ {K3 : S32 → Int32 → Int32 → Option (S32)} (hK3 : ∀ {u_T : S32} {w1 : Int32} {w2 : Int32} {H : Heap} {locs : List Loc} {ls : Array Slot}, K3 u_T w1 w2 = some zu_T → WD g A s.heap (cl_X6 g a_T u_T ++ X) H locs → lv_has ls 3 [(0, .ref (a_T 0)), (1, .int w1), (2, .int w2)] → W p l e (rmH 0) s m (List.toArray [.ref (a_T 0), .int x1]) below meth c H locs 0 0 (MQ below (va_Qv (fun (_ : Unit) => True) (fun _ t => POST g A (cl_X6 g a_T zu_T ++ X) t) A) (List.toArray [.ref (a_T 0), .int x1]) s 0 0 A) (F0 m 3 ls [])), ∀ {u_T : S32} {w1 : Int32} {w2 : Int32} {H : Heap} {locs : List Loc} {ls : Array Slot}, f_X6_add_J47 fu K3 u_T w1 w2 = some zu_T → WD g A s.heap (cl_X6 g a_T u_T ++ X) H locs → lv_has ls 3 [(0, .ref (a_T 0)), (1, .int w1), (2, .int w2)] → W p l e (rmH 0) s m (List.toArray [.ref (a_T 0), .int x1]) below meth c H locs 0 0 (MQ below (va_Qv (fun (_ : Unit) => True) (fun _ t => POST g A (cl_X6 g a_T zu_T ++ X) t) A) (List.toArray [.ref (a_T 0), .int x1]) s 0 0 A) (F0 m 47 ls []) := by
    intro K3 hK3 u_T w1 w2 H locs ls hf hw hl
    unfold f_X6_add_J47 at hf
    obtain ⟨y_7, ey_7⟩ : ∃ y : Int32, y = w2 + (-8 : Int32) := ⟨_, rfl⟩
    replace hf := tx_let_e hf ey_7
    refine lv_iinc (v := y_7) (lv' := [(2, .int y_7), (0, .ref (a_T 0)), (1, .int w1)]) hx hb dX6_add_47 hl (k := 2) rfl (by rw [ey_7]; rfl) (by decide) rfl (fun ls hl => ?_)
    refine lv_goto (tgt := 3) hx hb dX6_add_50 (by decide) ?_
    exact hK3 hf hw (lv_sub hl [1, 2, 0] rfl)
  have J3 : ∀ {K3 : S32 → Int32 → Int32 → Option (S32)} (hK3 : ∀ {u_T : S32} {w1 : Int32} {w2 : Int32} {H : Heap} {locs : List Loc} {ls : Array Slot}, K3 u_T w1 w2 = some zu_T → WD g A s.heap (cl_X6 g a_T u_T ++ X) H locs → lv_has ls 3 [(0, .ref (a_T 0)), (1, .int w1), (2, .int w2)] → W p l e (rmH 0) s m (List.toArray [.ref (a_T 0), .int x1]) below meth c H locs 0 0 (MQ below (va_Qv (fun (_ : Unit) => True) (fun _ t => POST g A (cl_X6 g a_T zu_T ++ X) t) A) (List.toArray [.ref (a_T 0), .int x1]) s 0 0 A) (F0 m 3 ls [])), ∀ {u_T : S32} {w1 : Int32} {w2 : Int32} {H : Heap} {locs : List Loc} {ls : Array Slot}, f_X6_add_J3 fu K3 u_T w1 w2 = some zu_T → WD g A s.heap (cl_X6 g a_T u_T ++ X) H locs → lv_has ls 3 [(0, .ref (a_T 0)), (1, .int w1), (2, .int w2)] → W p l e (rmH 0) s m (List.toArray [.ref (a_T 0), .int x1]) below meth c H locs 0 0 (MQ below (va_Qv (fun (_ : Unit) => True) (fun _ t => POST g A (cl_X6 g a_T zu_T ++ X) t) A) (List.toArray [.ref (a_T 0), .int x1]) s 0 0 A) (F0 m 3 ls []) := by
    intro K3 hK3 u_T w1 w2 H locs ls hf hw hl
    unfold f_X6_add_J3 at hf
    refine lv_iload_n hx hb dX6_add_3 rfl (lv_at hl 2 rfl) ?_
    refine lv_if_lt (tgt := 53) hx hb dX6_add_4 (by decide) (fun h_1 => ?_) (fun h_1 => ?_)
    · replace hf := tx_pos hf h_1
      obtain e0 := tx_in1 hf
      rw [← e0]
      exact tx_vret S hr hlk hw dX6_add_53
    · replace hf := tx_neg hf h_1
      refine lv_aload_n hx hb dX6_add_7 rfl (lv_at hl 0 rfl) ?_
      refine gf_X6_13 S hE hw 0 rfl rfl dX6_add_8 ?_
      refine lv_if_lt (tgt := 47) hx hb dX6_add_11 (by decide) (fun h_2 => ?_) (fun h_2 => ?_)
      · replace hf := tx_pos hf h_2
        exact J47 hK3 hf hw (lv_sub hl [0, 1, 2] rfl)
      · replace hf := tx_neg hf h_2
        refine lv_aload_n hx hb dX6_add_14 rfl (lv_at hl 0 rfl) ?_
        refine gf_X6_13 S hE hw 0 rfl rfl dX6_add_15 ?_
        refine lv_sipush (v := 700) hx hb dX6_add_18 (by decide) ?_
        refine lv_icmp_ge (tgt := 47) hx hb dX6_add_21 (by decide) (fun h_3 => ?_) (fun h_3 => ?_)
        · replace hf := tx_pos hf h_3
          exact J47 hK3 hf hw (lv_sub hl [0, 1, 2] rfl)
        · replace hf := tx_neg hf h_3
          refine lv_aload_n hx hb dX6_add_24 rfl (lv_at hl 0 rfl) ?_
          refine gf_X6_9 S hE hw 0 rfl rfl dX6_add_25 ?_
          refine lv_aload_n hx hb dX6_add_28 rfl (lv_at hl 0 rfl) ?_
          refine gf_X6_13 S hE hw 0 rfl rfl dX6_add_29 ?_
          refine lv_iload_n hx hb dX6_add_32 rfl (lv_at hl 1 rfl) ?_
          refine lv_iload_n hx hb dX6_add_33 rfl (lv_at hl 2 rfl) ?_
          refine lv_ishr hx hb dX6_add_34 ?_
          refine lv_i2b (v := (w1 >>> (w2 &&& 31)).toInt8.toInt32) hx hb dX6_add_35 rfl ?_
          obtain ⟨h_4, hf⟩ := tx_ck_e hf
          obtain ⟨u_T_5, eu_T_5⟩ : ∃ z : S32, z = up2 u_T 1 (u_T 0 1).toNatClampNeg ((w1 >>> (w2 &&& 31)).toInt8.toInt32).toInt8.toInt32 := ⟨_, rfl⟩
          replace hf := tx_let_e hf eu_T_5
          refine tx_bast (ws' := cl_X6 g a_T u_T_5 ++ X) S hE hw 1 rfl h_4 (by rw [eu_T_5]; rfl) dX6_add_36 (fun H locs hw => ?_)
          refine lv_aload_n hx hb dX6_add_37 rfl (lv_at hl 0 rfl) ?_
          refine lv_dup hx hb dX6_add_38 rfl ?_
          refine gf_X6_13 S hE hw 0 rfl rfl dX6_add_39 ?_
          refine lv_iconst (v := 1) hx hb dX6_add_42 (by decide) ?_
          refine lv_iadd hx hb dX6_add_43 ?_
          obtain ⟨u_T_6, eu_T_6⟩ : ∃ z : S32, z = up2 u_T_5 0 1 ((u_T_5 0 1) + (1 : Int32)) := ⟨_, rfl⟩
          replace hf := tx_let_e hf eu_T_6
          refine pf_X6_13 (ws' := cl_X6 g a_T u_T_6 ++ X) S hE hw rfl rfl 0 rfl (Nat.le_of_ble_eq_true rfl) (by rw [eu_T_6]; rfl) dX6_add_44 (fun H locs hw => ?_)
          exact J47 hK3 hf hw (lv_sub hl [0, 1, 2] rfl)
  have L3 : ∀ (n : Nat), ∀ {u_T : S32} {w1 : Int32} {w2 : Int32} {H : Heap} {locs : List Loc} {ls : Array Slot}, f_X6_add_L3 fu n u_T w1 w2 = some zu_T → WD g A s.heap (cl_X6 g a_T u_T ++ X) H locs → lv_has ls 3 [(0, .ref (a_T 0)), (1, .int w1), (2, .int w2)] → W p l e (rmH 0) s m (List.toArray [.ref (a_T 0), .int x1]) below meth c H locs 0 0 (MQ below (va_Qv (fun (_ : Unit) => True) (fun _ t => POST g A (cl_X6 g a_T zu_T ++ X) t) A) (List.toArray [.ref (a_T 0), .int x1]) s 0 0 A) (F0 m 3 ls []) := by
    intro  n
    induction n with
    | zero => intro u_T w1 w2 H locs ls hf; exact absurd hf (by intro q; cases q)
    | succ n ih => exact fun hf hw hl => J3 ih hf hw hl
  unfold f_X6_add at hf
  refine lv_bipush (v := 24) hx hb dX6_add_0 (by decide) ?_
  refine lv_istore_n (lv' := [(2, .int (24 : Int32)), (0, .ref (a_T 0)), (1, .int x1)]) hx hb dX6_add_2 rfl hl (by decide) rfl (fun ls hl => ?_)
  exact L3 fu hf hw (lv_sub hl [1, 2, 0] rfl)
def f_X11_feed (fu : Nat) (u_T : S32) (u_P : S32) (x1 : Int32) (x2 : Int32) (x3 : Int32) (x4 : Int32) (x5 : Int32) : Option (Int32 × S32) := tx_b1 (f_X6_hasRoom fu u_P (20 : Int32)) fun (r_2 : Int32) => if r_2 = (0 : Int32) then (some ((-1 : Int32), u_P)) else (tx_b1 (f_X6_add fu u_P x1) fun (u_P_5 : S32) => tx_b1 (f_X6_add fu u_P_5 x2) fun (u_P_7 : S32) => tx_b1 (f_X6_add fu u_P_7 x3) fun (u_P_9 : S32) => tx_b1 (f_X6_add fu u_P_9 x4) fun (u_P_11 : S32) => tx_b1 (f_X6_add fu u_P_11 x5) fun (u_P_13 : S32) => some (u_P_13 0 1, u_P_13))
set_option maxHeartbeats 4000000 in
set_option maxRecDepth 100000 in
theorem c_X11_feed {l : Launch} {g : GG} {A : Nat → Prop} {X : va_W} {fu : Nat} {a_T a_P : Nat → Nat} {p_T_1 p_T_2 p_T_3 p_T_4 p_T_5 p_T_6 p_T_7 p_T_8 p_T_9 : Nat} {u_T : S32} {u_P : S32} {x1 : Int32} {x2 : Int32} {x3 : Int32} {x4 : Int32} {x5 : Int32} {r : Int32} {zu_P : S32} (hf : f_X11_feed fu u_T u_P x1 x2 x3 x4 x5 = some (r, zu_P)) : MI l yX11_feed cX11_feed 6 (some .int) 1 g A (cl_X11 g a_T (a_P 0) p_T_1 p_T_2 p_T_3 p_T_4 p_T_5 p_T_6 p_T_7 p_T_8 p_T_9 u_T ++ (cl_X6 g a_P u_P ++ X)) [.ref (a_T 0), .int x1, .int x2, .int x3, .int x4, .int x5] r (cl_X11 g a_T (a_P 0) p_T_1 p_T_2 p_T_3 p_T_4 p_T_5 p_T_6 p_T_7 p_T_8 p_T_9 u_T ++ (cl_X6 g a_P zu_P ++ X)) := by
  refine tx_start (av := [.ref (a_T 0), .int x1, .int x2, .int x3, .int x4, .int x5]) (by decide) (Nat.le_of_ble_eq_true rfl) ?_
  intro p e s m below meth c ls S hr hlk hE hw hl
  have S : CallFix p m c cX11_feed 6 s (List.toArray [.ref (a_T 0), .int x1, .int x2, .int x3, .int x4, .int x5]) (Cond.code yX11_feed cX11_feed 6 (some .int) :: allW) RX11 := S
  have hx := S.1
  have hb := S.2.1
  have hown := S.2.2.2.1
  have hts : ∀ w ∈ allW, w.before (List.toArray [.ref (a_T 0), .int x1, .int x2, .int x3, .int x4, .int x5]) s = true := fun w h => S.2.2.2.2 w (List.mem_cons_of_mem _ h)
  have hl : lv_has ls 6 [(0, .ref (a_T 0)), (1, .int x1), (2, .int x2), (3, .int x3), (4, .int x4), (5, .int x5)] := hl
  unfold f_X11_feed at hf
  refine lv_aload_n hx hb dX11_feed_0 rfl (lv_at hl 0 rfl) ?_
  refine gf_X11_12 S hE hw 0 rfl rfl dX11_feed_1 ?_
  refine lv_bipush (v := 20) hx hb dX11_feed_4 (by decide) ?_
  have hw := hw.u1
  obtain ⟨r_2, h_1, hf⟩ := tx_b1_e hf
  refine tx_ci hw (tx_runN S hE hw (c_X6_hasRoom h_1) lk_X11_80 (q0 := 0) rfl rfl rfl hl.1 (rest := []) rfl (Nat.le_of_ble_eq_true rfl) ⟨by decide, by decide⟩ dX11_feed_6 ⟨Nat.zero_le _, Nat.zero_le _⟩) (fun H locs hw => ?_)
  refine lv_if_ne (tgt := 14) hx hb dX11_feed_9 (by decide) (fun h_3 => ?_) (fun h_3 => ?_)
  · replace hf := tx_neg hf h_3
    refine lv_aload_n hx hb dX11_feed_14 rfl (lv_at hl 0 rfl) ?_
    refine gf_X11_12 S hE hw 2 rfl rfl dX11_feed_15 ?_
    refine lv_iload_n hx hb dX11_feed_18 rfl (lv_at hl 1 rfl) ?_
    obtain ⟨u_P_5, h_4, hf⟩ := tx_b1_e hf
    refine tx_cv hw (tx_runN S hE hw (c_X6_add h_4) lk_X11_84 (q0 := 0) rfl rfl rfl hl.1 (rest := []) rfl (Nat.le_of_ble_eq_true rfl) ⟨by decide, by decide⟩ dX11_feed_19 ⟨Nat.zero_le _, Nat.zero_le _⟩) (fun H locs hw => ?_)
    refine lv_aload_n hx hb dX11_feed_22 rfl (lv_at hl 0 rfl) ?_
    refine gf_X11_12 S hE hw 2 rfl rfl dX11_feed_23 ?_
    refine lv_iload_n hx hb dX11_feed_26 rfl (lv_at hl 2 rfl) ?_
    obtain ⟨u_P_7, h_6, hf⟩ := tx_b1_e hf
    refine tx_cv hw (tx_runN S hE hw (c_X6_add h_6) lk_X11_84 (q0 := 0) rfl rfl rfl hl.1 (rest := []) rfl (Nat.le_of_ble_eq_true rfl) ⟨by decide, by decide⟩ dX11_feed_27 ⟨Nat.zero_le _, Nat.zero_le _⟩) (fun H locs hw => ?_)
    refine lv_aload_n hx hb dX11_feed_30 rfl (lv_at hl 0 rfl) ?_
    refine gf_X11_12 S hE hw 2 rfl rfl dX11_feed_31 ?_
    refine lv_iload_n hx hb dX11_feed_34 rfl (lv_at hl 3 rfl) ?_
    obtain ⟨u_P_9, h_8, hf⟩ := tx_b1_e hf
    refine tx_cv hw (tx_runN S hE hw (c_X6_add h_8) lk_X11_84 (q0 := 0) rfl rfl rfl hl.1 (rest := []) rfl (Nat.le_of_ble_eq_true rfl) ⟨by decide, by decide⟩ dX11_feed_35 ⟨Nat.zero_le _, Nat.zero_le _⟩) (fun H locs hw => ?_)
    refine lv_aload_n hx hb dX11_feed_38 rfl (lv_at hl 0 rfl) ?_
    refine gf_X11_12 S hE hw 2 rfl rfl dX11_feed_39 ?_
    refine lv_iload hx hb dX11_feed_42 (lv_at hl 4 rfl) ?_
    obtain ⟨u_P_11, h_10, hf⟩ := tx_b1_e hf
    refine tx_cv hw (tx_runN S hE hw (c_X6_add h_10) lk_X11_84 (q0 := 0) rfl rfl rfl hl.1 (rest := []) rfl (Nat.le_of_ble_eq_true rfl) ⟨by decide, by decide⟩ dX11_feed_44 ⟨Nat.zero_le _, Nat.zero_le _⟩) (fun H locs hw => ?_)
    refine lv_aload_n hx hb dX11_feed_47 rfl (lv_at hl 0 rfl) ?_
    refine gf_X11_12 S hE hw 2 rfl rfl dX11_feed_48 ?_
    refine lv_iload hx hb dX11_feed_51 (lv_at hl 5 rfl) ?_
    obtain ⟨u_P_13, h_12, hf⟩ := tx_b1_e hf
    refine tx_cv hw (tx_runN S hE hw (c_X6_add h_12) lk_X11_84 (q0 := 0) rfl rfl rfl hl.1 (rest := []) rfl (Nat.le_of_ble_eq_true rfl) ⟨by decide, by decide⟩ dX11_feed_53 ⟨Nat.zero_le _, Nat.zero_le _⟩) (fun H locs hw => ?_)
    refine lv_aload_n hx hb dX11_feed_56 rfl (lv_at hl 0 rfl) ?_
    refine gf_X11_12 S hE hw 2 rfl rfl dX11_feed_57 ?_
    refine gf_X11_88 S hE hw 0 rfl rfl dX11_feed_60 ?_
    have hw := hw.u1
    obtain ⟨e0, e1⟩ := tx_in2 hf
    rw [← e0, ← e1]
    exact tx_iret S hr hlk hw dX11_feed_63
  · replace hf := tx_pos hf h_3
    refine lv_iconst (v := -1) hx hb dX11_feed_12 (by decide) ?_
    have hw := hw.u1
    obtain ⟨e0, e1⟩ := tx_in2 hf
    rw [← e0, ← e1]
    exact tx_iret S hr hlk hw dX11_feed_13
def f_J7_fill_53178_oX5r3_J5 (fu : Nat) (v_L : S64) (K5 : S32 → Int32 → Int32 → Int32 → Option (S32)) (u_L : S32) (w1 : Int32) (w2 : Int32) (w3 : Int32) : Option (S32) := if w3 ≤ w2 then (some u_L) else (tx_ck w2 3 <| tx_let (up2 u_L 3 w2.toNatClampNeg w1) fun (u_L_3 : S32) => tx_let (w2 + (1 : Int32)) fun (y_4 : Int32) => K5 u_L_3 w1 y_4 w3)
def f_J7_fill_53178_oX5r3_L5 (fu : Nat) (v_L : S64) : Nat → S32 → Int32 → Int32 → Int32 → Option (S32)
  | 0 => fun _ _ _ _ => none
  | n + 1 => f_J7_fill_53178_oX5r3_J5 fu v_L (f_J7_fill_53178_oX5r3_L5 fu v_L n)
def f_J7_fill_53178_oX5r3 (fu : Nat) (v_L : S64) (u_L : S32) (x1 : Int32) : Option (S32) := f_J7_fill_53178_oX5r3_L5 fu v_L fu u_L x1 (0 : Int32) (3 : Int32)
set_option maxHeartbeats 4000000 in
set_option maxRecDepth 100000 in
theorem c_J7_fill_53178_oX5r3 {l : Launch} {g : GG} {A : Nat → Prop} {X : va_W} {fu : Nat} {a_L : Nat → Nat} {u_L : S32} {v_L : S64} {x1 : Int32} {zu_L : S32} (hf : f_J7_fill_53178_oX5r3 fu v_L u_L x1 = some zu_L) : MV l yJ7_fill_53178 cJ7_fill_53178 4 none 0 g A (cl_X5 g a_L u_L v_L ++ X) [.ref (a_L 3), .int x1] (cl_X5 g a_L zu_L v_L ++ X) := by
  refine tx_start (av := [.ref (a_L 3), .int x1]) (by decide) (Nat.le_of_ble_eq_true rfl) ?_
  intro p e s m below meth c ls S hr hlk hE hw hl
  have S : CallFix p m c cJ7_fill_53178 4 s (List.toArray [.ref (a_L 3), .int x1]) (Cond.code yJ7_fill_53178 cJ7_fill_53178 4 none :: allW) RJ7 := S
  have hx := S.1
  have hb := S.2.1
  have hown := S.2.2.2.1
  have hts : ∀ w ∈ allW, w.before (List.toArray [.ref (a_L 3), .int x1]) s = true := fun w h => S.2.2.2.2 w (List.mem_cons_of_mem _ h)
  have hl : lv_has ls 4 [(0, .ref (a_L 3)), (1, .int x1)] := hl
  have J5 : ∀ {K5 : S32 → Int32 → Int32 → Int32 → Option (S32)} (hK5 : ∀ {u_L : S32} {w1 : Int32} {w2 : Int32} {w3 : Int32} {H : Heap} {locs : List Loc} {ls : Array Slot}, K5 u_L w1 w2 w3 = some zu_L → WD g A s.heap (cl_X5 g a_L u_L v_L ++ X) H locs → lv_has ls 4 [(0, .ref (a_L 3)), (1, .int w1), (2, .int w2), (3, .int w3)] → W p l e (rmH 0) s m (List.toArray [.ref (a_L 3), .int x1]) below meth c H locs 0 0 (MQ below (va_Qv (fun (_ : Unit) => True) (fun _ t => POST g A (cl_X5 g a_L zu_L v_L ++ X) t) A) (List.toArray [.ref (a_L 3), .int x1]) s 0 0 A) (F0 m 5 ls [])), ∀ {u_L : S32} {w1 : Int32} {w2 : Int32} {w3 : Int32} {H : Heap} {locs : List Loc} {ls : Array Slot}, f_J7_fill_53178_oX5r3_J5 fu v_L K5 u_L w1 w2 w3 = some zu_L → WD g A s.heap (cl_X5 g a_L u_L v_L ++ X) H locs → lv_has ls 4 [(0, .ref (a_L 3)), (1, .int w1), (2, .int w2), (3, .int w3)] → W p l e (rmH 0) s m (List.toArray [.ref (a_L 3), .int x1]) below meth c H locs 0 0 (MQ below (va_Qv (fun (_ : Unit) => True) (fun _ t => POST g A (cl_X5 g a_L zu_L v_L ++ X) t) A) (List.toArray [.ref (a_L 3), .int x1]) s 0 0 A) (F0 m 5 ls []) := by
    intro K5 hK5 u_L w1 w2 w3 H locs ls hf hw hl
    unfold f_J7_fill_53178_oX5r3_J5 at hf
    refine lv_iload_n hx hb dJ7_fill_53178_5 rfl (lv_at hl 2 rfl) ?_
    refine lv_iload_n hx hb dJ7_fill_53178_6 rfl (lv_at hl 3 rfl) ?_
    refine lv_icmp_ge (tgt := 20) hx hb dJ7_fill_53178_7 (by decide) (fun h_1 => ?_) (fun h_1 => ?_)
    · replace hf := tx_pos hf h_1
      obtain e0 := tx_in1 hf
      rw [← e0]
      exact tx_vret S hr hlk hw dJ7_fill_53178_20
    · replace hf := tx_neg hf h_1
      refine lv_aload_n hx hb dJ7_fill_53178_10 rfl (lv_at hl 0 rfl) ?_
      refine lv_iload_n hx hb dJ7_fill_53178_11 rfl (lv_at hl 2 rfl) ?_
      refine lv_iload_n hx hb dJ7_fill_53178_12 rfl (lv_at hl 1 rfl) ?_
      obtain ⟨h_2, hf⟩ := tx_ck_e hf
      obtain ⟨u_L_3, eu_L_3⟩ : ∃ z : S32, z = up2 u_L 3 w2.toNatClampNeg w1 := ⟨_, rfl⟩
      replace hf := tx_let_e hf eu_L_3
      refine tx_iast (ws' := cl_X5 g a_L u_L_3 v_L ++ X) S hE hw 3 rfl h_2 (by rw [eu_L_3]; rfl) dJ7_fill_53178_13 (fun H locs hw => ?_)
      obtain ⟨y_4, ey_4⟩ : ∃ y : Int32, y = w2 + (1 : Int32) := ⟨_, rfl⟩
      replace hf := tx_let_e hf ey_4
      refine lv_iinc (v := y_4) (lv' := [(2, .int y_4), (0, .ref (a_L 3)), (1, .int w1), (3, .int w3)]) hx hb dJ7_fill_53178_14 hl (k := 2) rfl (by rw [ey_4]; rfl) (by decide) rfl (fun ls hl => ?_)
      refine lv_goto (tgt := 5) hx hb dJ7_fill_53178_17 (by decide) ?_
      exact hK5 hf hw (lv_sub hl [1, 2, 0, 3] rfl)
  have L5 : ∀ (n : Nat), ∀ {u_L : S32} {w1 : Int32} {w2 : Int32} {w3 : Int32} {H : Heap} {locs : List Loc} {ls : Array Slot}, f_J7_fill_53178_oX5r3_L5 fu v_L n u_L w1 w2 w3 = some zu_L → WD g A s.heap (cl_X5 g a_L u_L v_L ++ X) H locs → lv_has ls 4 [(0, .ref (a_L 3)), (1, .int w1), (2, .int w2), (3, .int w3)] → W p l e (rmH 0) s m (List.toArray [.ref (a_L 3), .int x1]) below meth c H locs 0 0 (MQ below (va_Qv (fun (_ : Unit) => True) (fun _ t => POST g A (cl_X5 g a_L zu_L v_L ++ X) t) A) (List.toArray [.ref (a_L 3), .int x1]) s 0 0 A) (F0 m 5 ls []) := by
    intro  n
    induction n with
    | zero => intro u_L w1 w2 w3 H locs ls hf; exact absurd hf (by intro q; cases q)
    | succ n ih => exact fun hf hw hl => J5 ih hf hw hl
  unfold f_J7_fill_53178_oX5r3 at hf
  refine lv_iconst (v := 0) hx hb dJ7_fill_53178_0 (by decide) ?_
  refine lv_istore_n (lv' := [(2, .int (0 : Int32)), (0, .ref (a_L 3)), (1, .int x1)]) hx hb dJ7_fill_53178_1 rfl hl (by decide) rfl (fun ls hl => ?_)
  refine lv_aload_n hx hb dJ7_fill_53178_2 rfl (lv_at hl 1 rfl) ?_
  refine tx_alen (v := 3) S hE hw 3 1 rfl rfl rfl dJ7_fill_53178_3 ?_
  refine lv_istore_n (lv' := [(3, .int (3 : Int32)), (2, .int (0 : Int32)), (0, .ref (a_L 3)), (1, .int x1)]) hx hb dJ7_fill_53178_4 rfl hl (by decide) rfl (fun ls hl => ?_)
  exact L5 fu hf hw (lv_sub hl [2, 3, 1, 0] rfl)
def f_X5_clear (fu : Nat) (v_T : S64) (u_T : S32) : Option (S32) := tx_let (up2 u_T 0 5 (0 : Int32)) fun (u_T_1 : S32) => tx_b1 (f_J7_fill_53178_oX5r3 fu v_T u_T_1 (-1 : Int32)) fun (u_T_3 : S32) => some u_T_3
set_option maxHeartbeats 4000000 in
set_option maxRecDepth 100000 in
theorem c_X5_clear {l : Launch} {g : GG} {A : Nat → Prop} {X : va_W} {fu : Nat} {a_T : Nat → Nat} {u_T : S32} {v_T : S64} {zu_T : S32} (hf : f_X5_clear fu v_T u_T = some zu_T) : MV l yX5_clear cX5_clear 1 none 1 g A (cl_X5 g a_T u_T v_T ++ X) [.ref (a_T 0)] (cl_X5 g a_T zu_T v_T ++ X) := by
  refine tx_start (av := [.ref (a_T 0)]) (by decide) (Nat.le_of_ble_eq_true rfl) ?_
  intro p e s m below meth c ls S hr hlk hE hw hl
  have S : CallFix p m c cX5_clear 1 s (List.toArray [.ref (a_T 0)]) (Cond.code yX5_clear cX5_clear 1 none :: allW) RX5 := S
  have hx := S.1
  have hb := S.2.1
  have hown := S.2.2.2.1
  have hts : ∀ w ∈ allW, w.before (List.toArray [.ref (a_T 0)]) s = true := fun w h => S.2.2.2.2 w (List.mem_cons_of_mem _ h)
  have hl : lv_has ls 1 [(0, .ref (a_T 0))] := hl
  unfold f_X5_clear at hf
  refine lv_aload_n hx hb dX5_clear_0 rfl (lv_at hl 0 rfl) ?_
  refine lv_iconst (v := 0) hx hb dX5_clear_1 (by decide) ?_
  obtain ⟨u_T_1, eu_T_1⟩ : ∃ z : S32, z = up2 u_T 0 5 (0 : Int32) := ⟨_, rfl⟩
  replace hf := tx_let_e hf eu_T_1
  refine pf_X5_28 (ws' := cl_X5 g a_T u_T_1 v_T ++ X) S hE hw rfl rfl 0 rfl (Nat.le_of_ble_eq_true rfl) (by rw [eu_T_1]; rfl) dX5_clear_2 (fun H locs hw => ?_)
  refine lv_aload_n hx hb dX5_clear_5 rfl (lv_at hl 0 rfl) ?_
  refine gf_X5_18 S hE hw 0 rfl rfl dX5_clear_6 ?_
  refine lv_iconst (v := -1) hx hb dX5_clear_9 (by decide) ?_
  obtain ⟨u_T_3, h_2, hf⟩ := tx_b1_e hf
  refine tx_cv hw (tx_runS S hE hw (c_J7_fill_53178_oX5r3 h_2) lk_X5_32 rfl hl.1 (rest := []) rfl (Nat.le_of_ble_eq_true rfl) ⟨by decide, by decide⟩ dX5_clear_10 ⟨Nat.zero_le _, Nat.zero_le _⟩) (fun H locs hw => ?_)
  obtain e0 := tx_in1 hf
  rw [← e0]
  exact tx_vret S hr hlk hw dX5_clear_13
def f_X0_clear (fu : Nat) (v_L : S64) (u_T : S32) (u_L : S32) : Option (S32 × S32) := tx_let (up2 u_T 0 0 (0 : Int32)) fun (u_T_1 : S32) => tx_let (up2 u_T_1 0 1 (0 : Int32)) fun (u_T_2 : S32) => tx_let (up2 u_T_2 0 5 (0 : Int32)) fun (u_T_3 : S32) => tx_let (up2 u_T_3 0 10 (0 : Int32)) fun (u_T_4 : S32) => tx_let (up2 u_T_4 0 14 (20 : Int32)) fun (u_T_5 : S32) => tx_let (up2 u_T_5 0 15 (5 : Int32)) fun (u_T_6 : S32) => tx_let (up2 u_T_6 0 16 (0 : Int32)) fun (u_T_7 : S32) => tx_b1 (f_X5_clear fu v_L u_L) fun (u_L_9 : S32) => some (u_T_7, u_L_9)
set_option maxHeartbeats 4000000 in
set_option maxRecDepth 100000 in
theorem c_X0_clear {l : Launch} {g : GG} {A : Nat → Prop} {X : va_W} {fu : Nat} {a_T a_L : Nat → Nat} {u_T : S32} {u_L : S32} {v_L : S64} {zu_T : S32} {zu_L : S32} (hf : f_X0_clear fu v_L u_T u_L = some (zu_T, zu_L)) : MV l yX0_clear cX0_clear 1 none 2 g A (cl_X0 g a_T (a_L 0) u_T ++ (cl_X5 g a_L u_L v_L ++ X)) [.ref (a_T 0)] (cl_X0 g a_T (a_L 0) zu_T ++ (cl_X5 g a_L zu_L v_L ++ X)) := by
  refine tx_start (av := [.ref (a_T 0)]) (by decide) (Nat.le_of_ble_eq_true rfl) ?_
  intro p e s m below meth c ls S hr hlk hE hw hl
  have S : CallFix p m c cX0_clear 1 s (List.toArray [.ref (a_T 0)]) (Cond.code yX0_clear cX0_clear 1 none :: allW) RX0 := S
  have hx := S.1
  have hb := S.2.1
  have hown := S.2.2.2.1
  have hts : ∀ w ∈ allW, w.before (List.toArray [.ref (a_T 0)]) s = true := fun w h => S.2.2.2.2 w (List.mem_cons_of_mem _ h)
  have hl : lv_has ls 1 [(0, .ref (a_T 0))] := hl
  unfold f_X0_clear at hf
  refine lv_aload_n hx hb dX0_clear_0 rfl (lv_at hl 0 rfl) ?_
  refine lv_iconst (v := 0) hx hb dX0_clear_1 (by decide) ?_
  obtain ⟨u_T_1, eu_T_1⟩ : ∃ z : S32, z = up2 u_T 0 0 (0 : Int32) := ⟨_, rfl⟩
  replace hf := tx_let_e hf eu_T_1
  refine pf_X0_56 (ws' := cl_X0 g a_T (a_L 0) u_T_1 ++ (cl_X5 g a_L u_L v_L ++ X)) S hE hw rfl rfl 0 rfl (Nat.le_of_ble_eq_true rfl) (by rw [eu_T_1]; rfl) dX0_clear_2 (fun H locs hw => ?_)
  refine lv_aload_n hx hb dX0_clear_5 rfl (lv_at hl 0 rfl) ?_
  refine lv_iconst (v := 0) hx hb dX0_clear_6 (by decide) ?_
  obtain ⟨u_T_2, eu_T_2⟩ : ∃ z : S32, z = up2 u_T_1 0 1 (0 : Int32) := ⟨_, rfl⟩
  replace hf := tx_let_e hf eu_T_2
  refine pf_X0_59 (ws' := cl_X0 g a_T (a_L 0) u_T_2 ++ (cl_X5 g a_L u_L v_L ++ X)) S hE hw rfl rfl 0 rfl (Nat.le_of_ble_eq_true rfl) (by rw [eu_T_2]; rfl) dX0_clear_7 (fun H locs hw => ?_)
  refine lv_aload_n hx hb dX0_clear_10 rfl (lv_at hl 0 rfl) ?_
  refine lv_iconst (v := 0) hx hb dX0_clear_11 (by decide) ?_
  obtain ⟨u_T_3, eu_T_3⟩ : ∃ z : S32, z = up2 u_T_2 0 5 (0 : Int32) := ⟨_, rfl⟩
  replace hf := tx_let_e hf eu_T_3
  refine pf_X0_62 (ws' := cl_X0 g a_T (a_L 0) u_T_3 ++ (cl_X5 g a_L u_L v_L ++ X)) S hE hw rfl rfl 0 rfl (Nat.le_of_ble_eq_true rfl) (by rw [eu_T_3]; rfl) dX0_clear_12 (fun H locs hw => ?_)
  refine lv_aload_n hx hb dX0_clear_15 rfl (lv_at hl 0 rfl) ?_
  refine lv_iconst (v := 0) hx hb dX0_clear_16 (by decide) ?_
  obtain ⟨u_T_4, eu_T_4⟩ : ∃ z : S32, z = up2 u_T_3 0 10 (0 : Int32) := ⟨_, rfl⟩
  replace hf := tx_let_e hf eu_T_4
  refine pf_X0_65 (ws' := cl_X0 g a_T (a_L 0) u_T_4 ++ (cl_X5 g a_L u_L v_L ++ X)) S hE hw rfl rfl 0 rfl (Nat.le_of_ble_eq_true rfl) (by rw [eu_T_4]; rfl) dX0_clear_17 (fun H locs hw => ?_)
  refine lv_aload_n hx hb dX0_clear_20 rfl (lv_at hl 0 rfl) ?_
  refine lv_bipush (v := 20) hx hb dX0_clear_21 (by decide) ?_
  obtain ⟨u_T_5, eu_T_5⟩ : ∃ z : S32, z = up2 u_T_4 0 14 (20 : Int32) := ⟨_, rfl⟩
  replace hf := tx_let_e hf eu_T_5
  refine pf_X0_42 (ws' := cl_X0 g a_T (a_L 0) u_T_5 ++ (cl_X5 g a_L u_L v_L ++ X)) S hE hw rfl rfl 0 rfl (Nat.le_of_ble_eq_true rfl) (by rw [eu_T_5]; rfl) dX0_clear_23 (fun H locs hw => ?_)
  refine lv_aload_n hx hb dX0_clear_26 rfl (lv_at hl 0 rfl) ?_
  refine lv_iconst (v := 5) hx hb dX0_clear_27 (by decide) ?_
  obtain ⟨u_T_6, eu_T_6⟩ : ∃ z : S32, z = up2 u_T_5 0 15 (5 : Int32) := ⟨_, rfl⟩
  replace hf := tx_let_e hf eu_T_6
  refine pf_X0_46 (ws' := cl_X0 g a_T (a_L 0) u_T_6 ++ (cl_X5 g a_L u_L v_L ++ X)) S hE hw rfl rfl 0 rfl (Nat.le_of_ble_eq_true rfl) (by rw [eu_T_6]; rfl) dX0_clear_28 (fun H locs hw => ?_)
  refine lv_aload_n hx hb dX0_clear_31 rfl (lv_at hl 0 rfl) ?_
  refine lv_iconst (v := 0) hx hb dX0_clear_32 (by decide) ?_
  obtain ⟨u_T_7, eu_T_7⟩ : ∃ z : S32, z = up2 u_T_6 0 16 (0 : Int32) := ⟨_, rfl⟩
  replace hf := tx_let_e hf eu_T_7
  refine pf_X0_68 (ws' := cl_X0 g a_T (a_L 0) u_T_7 ++ (cl_X5 g a_L u_L v_L ++ X)) S hE hw rfl rfl 0 rfl (Nat.le_of_ble_eq_true rfl) (by rw [eu_T_7]; rfl) dX0_clear_33 (fun H locs hw => ?_)
  refine lv_aload_n hx hb dX0_clear_36 rfl (lv_at hl 0 rfl) ?_
  refine gf_X0_52 S hE hw 0 rfl rfl dX0_clear_37 ?_
  have hw := hw.u1
  obtain ⟨u_L_9, h_8, hf⟩ := tx_b1_e hf
  refine tx_cv hw (tx_runN S hE hw (c_X5_clear h_8) lk_X0_71 (q0 := 0) rfl rfl rfl hl.1 (rest := []) rfl (Nat.le_of_ble_eq_true rfl) ⟨by decide, by decide⟩ dX0_clear_40 ⟨Nat.zero_le _, Nat.zero_le _⟩) (fun H locs hw => ?_)
  have hw := hw.u1
  obtain ⟨e0, e1⟩ := tx_in2 hf
  rw [← e0, ← e1]
  exact tx_vret S hr hlk hw dX0_clear_43
def f_X8_signAt (fu : Nat) (u_T : S32) (u_P : S32) (x1 : Int32) : Option (Int32) := if x1 < (0 : Int32) then (some (0 : Int32)) else (if (u_T 0 1) ≤ x1 then (some (0 : Int32)) else (if (700 : Int32) ≤ x1 then (some (0 : Int32)) else (tx_ck x1 700 <| some (u_P 1 x1.toNatClampNeg))))
set_option maxHeartbeats 4000000 in
set_option maxRecDepth 100000 in
theorem c_X8_signAt {l : Launch} {g : GG} {A : Nat → Prop} {X : va_W} {fu : Nat} {a_T a_P : Nat → Nat} {u_T : S32} {u_P : S32} {x1 : Int32} {r : Int32} (hf : f_X8_signAt fu u_T u_P x1 = some r) : MI l yX8_signAt cX8_signAt 2 (some .int) 0 g A (cl_X8 g a_T (a_P 0) u_T ++ (cl_X6 g a_P u_P ++ X)) [.ref (a_T 0), .int x1] r (cl_X8 g a_T (a_P 0) u_T ++ (cl_X6 g a_P u_P ++ X)) := by
  refine tx_start (av := [.ref (a_T 0), .int x1]) (by decide) (Nat.le_of_ble_eq_true rfl) ?_
  intro p e s m below meth c ls S hr hlk hE hw hl
  have S : CallFix p m c cX8_signAt 2 s (List.toArray [.ref (a_T 0), .int x1]) (Cond.code yX8_signAt cX8_signAt 2 (some .int) :: allW) RX8 := S
  have hx := S.1
  have hb := S.2.1
  have hown := S.2.2.2.1
  have hts : ∀ w ∈ allW, w.before (List.toArray [.ref (a_T 0), .int x1]) s = true := fun w h => S.2.2.2.2 w (List.mem_cons_of_mem _ h)
  have hl : lv_has ls 2 [(0, .ref (a_T 0)), (1, .int x1)] := hl
  unfold f_X8_signAt at hf
  refine lv_iload_n hx hb dX8_signAt_0 rfl (lv_at hl 1 rfl) ?_
  refine lv_if_lt (tgt := 31) hx hb dX8_signAt_1 (by decide) (fun h_1 => ?_) (fun h_1 => ?_)
  · replace hf := tx_pos hf h_1
    refine lv_iconst (v := 0) hx hb dX8_signAt_31 (by decide) ?_
    obtain e0 := tx_in1 hf
    rw [← e0]
    exact tx_iret S hr hlk hw dX8_signAt_32
  · replace hf := tx_neg hf h_1
    refine lv_iload_n hx hb dX8_signAt_4 rfl (lv_at hl 1 rfl) ?_
    refine lv_aload_n hx hb dX8_signAt_5 rfl (lv_at hl 0 rfl) ?_
    refine gf_X8_15 S hE hw 0 rfl rfl dX8_signAt_6 ?_
    refine lv_icmp_ge (tgt := 31) hx hb dX8_signAt_9 (by decide) (fun h_2 => ?_) (fun h_2 => ?_)
    · replace hf := tx_pos hf h_2
      refine lv_iconst (v := 0) hx hb dX8_signAt_31 (by decide) ?_
      obtain e0 := tx_in1 hf
      rw [← e0]
      exact tx_iret S hr hlk hw dX8_signAt_32
    · replace hf := tx_neg hf h_2
      refine lv_iload_n hx hb dX8_signAt_12 rfl (lv_at hl 1 rfl) ?_
      refine lv_sipush (v := 700) hx hb dX8_signAt_13 (by decide) ?_
      refine lv_icmp_ge (tgt := 31) hx hb dX8_signAt_16 (by decide) (fun h_3 => ?_) (fun h_3 => ?_)
      · replace hf := tx_pos hf h_3
        refine lv_iconst (v := 0) hx hb dX8_signAt_31 (by decide) ?_
        obtain e0 := tx_in1 hf
        rw [← e0]
        exact tx_iret S hr hlk hw dX8_signAt_32
      · replace hf := tx_neg hf h_3
        refine lv_aload_n hx hb dX8_signAt_19 rfl (lv_at hl 0 rfl) ?_
        refine gf_X8_9 S hE hw 0 rfl rfl dX8_signAt_20 ?_
        refine gf_X8_57 S hE hw 1 rfl rfl dX8_signAt_23 ?_
        refine lv_iload_n hx hb dX8_signAt_26 rfl (lv_at hl 1 rfl) ?_
        obtain ⟨h_4, hf⟩ := tx_ck_e hf
        refine tx_bald S hE hw 2 rfl h_4 dX8_signAt_27 ?_
        refine lv_goto (tgt := 32) hx hb dX8_signAt_28 (by decide) ?_
        obtain e0 := tx_in1 hf
        rw [← e0]
        exact tx_iret S hr hlk hw dX8_signAt_32
def f_X8_isLetter (fu : Nat) (x0 : Int32) : Option (Int32) := if x0 < (97 : Int32) then (some (0 : Int32)) else (if (122 : Int32) < x0 then (some (0 : Int32)) else (some (1 : Int32)))
set_option maxHeartbeats 4000000 in
set_option maxRecDepth 100000 in
theorem c_X8_isLetter {l : Launch} {g : GG} {A : Nat → Prop} {X : va_W} {fu : Nat} {x0 : Int32} {r : Int32} (hf : f_X8_isLetter fu  x0 = some r) : MI l yX8_isLetter cX8_isLetter 1 (some .boolean) 0 g A (X) [.int x0] r (X) := by
  refine tx_start (av := [.int x0]) (by decide) (Nat.le_of_ble_eq_true rfl) ?_
  intro p e s m below meth c ls S hr hlk hE hw hl
  have S : CallFix p m c cX8_isLetter 1 s (List.toArray [.int x0]) (Cond.code yX8_isLetter cX8_isLetter 1 (some .boolean) :: allW) RX8 := S
  have hx := S.1
  have hb := S.2.1
  have hown := S.2.2.2.1
  have hts : ∀ w ∈ allW, w.before (List.toArray [.int x0]) s = true := fun w h => S.2.2.2.2 w (List.mem_cons_of_mem _ h)
  have hl : lv_has ls 1 [(0, .int x0)] := hl
  unfold f_X8_isLetter at hf
  refine lv_iload_n hx hb dX8_isLetter_0 rfl (lv_at hl 0 rfl) ?_
  refine lv_bipush (v := 97) hx hb dX8_isLetter_1 (by decide) ?_
  refine lv_icmp_lt (tgt := 16) hx hb dX8_isLetter_3 (by decide) (fun h_1 => ?_) (fun h_1 => ?_)
  · replace hf := tx_pos hf h_1
    refine lv_iconst (v := 0) hx hb dX8_isLetter_16 (by decide) ?_
    obtain e0 := tx_in1 hf
    rw [← e0]
    exact tx_zret S hr hlk (by decide) hw dX8_isLetter_17
  · replace hf := tx_neg hf h_1
    refine lv_iload_n hx hb dX8_isLetter_6 rfl (lv_at hl 0 rfl) ?_
    refine lv_bipush (v := 122) hx hb dX8_isLetter_7 (by decide) ?_
    refine lv_icmp_gt (tgt := 16) hx hb dX8_isLetter_9 (by decide) (fun h_2 => ?_) (fun h_2 => ?_)
    · replace hf := tx_pos hf h_2
      refine lv_iconst (v := 0) hx hb dX8_isLetter_16 (by decide) ?_
      obtain e0 := tx_in1 hf
      rw [← e0]
      exact tx_zret S hr hlk (by decide) hw dX8_isLetter_17
    · replace hf := tx_neg hf h_2
      refine lv_iconst (v := 1) hx hb dX8_isLetter_12 (by decide) ?_
      refine lv_goto (tgt := 17) hx hb dX8_isLetter_13 (by decide) ?_
      obtain e0 := tx_in1 hf
      rw [← e0]
      exact tx_zret S hr hlk (by decide) hw dX8_isLetter_17
def f_X8_isDigit (fu : Nat) (x0 : Int32) : Option (Int32) := if x0 < (48 : Int32) then (some (0 : Int32)) else (if (57 : Int32) < x0 then (some (0 : Int32)) else (some (1 : Int32)))
set_option maxHeartbeats 4000000 in
set_option maxRecDepth 100000 in
theorem c_X8_isDigit {l : Launch} {g : GG} {A : Nat → Prop} {X : va_W} {fu : Nat} {x0 : Int32} {r : Int32} (hf : f_X8_isDigit fu  x0 = some r) : MI l yX8_isDigit cX8_isDigit 1 (some .boolean) 0 g A (X) [.int x0] r (X) := by
  refine tx_start (av := [.int x0]) (by decide) (Nat.le_of_ble_eq_true rfl) ?_
  intro p e s m below meth c ls S hr hlk hE hw hl
  have S : CallFix p m c cX8_isDigit 1 s (List.toArray [.int x0]) (Cond.code yX8_isDigit cX8_isDigit 1 (some .boolean) :: allW) RX8 := S
  have hx := S.1
  have hb := S.2.1
  have hown := S.2.2.2.1
  have hts : ∀ w ∈ allW, w.before (List.toArray [.int x0]) s = true := fun w h => S.2.2.2.2 w (List.mem_cons_of_mem _ h)
  have hl : lv_has ls 1 [(0, .int x0)] := hl
  unfold f_X8_isDigit at hf
  refine lv_iload_n hx hb dX8_isDigit_0 rfl (lv_at hl 0 rfl) ?_
  refine lv_bipush (v := 48) hx hb dX8_isDigit_1 (by decide) ?_
  refine lv_icmp_lt (tgt := 16) hx hb dX8_isDigit_3 (by decide) (fun h_1 => ?_) (fun h_1 => ?_)
  · replace hf := tx_pos hf h_1
    refine lv_iconst (v := 0) hx hb dX8_isDigit_16 (by decide) ?_
    obtain e0 := tx_in1 hf
    rw [← e0]
    exact tx_zret S hr hlk (by decide) hw dX8_isDigit_17
  · replace hf := tx_neg hf h_1
    refine lv_iload_n hx hb dX8_isDigit_6 rfl (lv_at hl 0 rfl) ?_
    refine lv_bipush (v := 57) hx hb dX8_isDigit_7 (by decide) ?_
    refine lv_icmp_gt (tgt := 16) hx hb dX8_isDigit_9 (by decide) (fun h_2 => ?_) (fun h_2 => ?_)
    · replace hf := tx_pos hf h_2
      refine lv_iconst (v := 0) hx hb dX8_isDigit_16 (by decide) ?_
      obtain e0 := tx_in1 hf
      rw [← e0]
      exact tx_zret S hr hlk (by decide) hw dX8_isDigit_17
    · replace hf := tx_neg hf h_2
      refine lv_iconst (v := 1) hx hb dX8_isDigit_12 (by decide) ?_
      refine lv_goto (tgt := 17) hx hb dX8_isDigit_13 (by decide) ?_
      obtain e0 := tx_in1 hf
      rw [← e0]
      exact tx_zret S hr hlk (by decide) hw dX8_isDigit_17
def f_X8_takeSign_J294 (fu : Nat) (u_P : S32) (u_T : S32) : Option (S32) := tx_let (up2 u_T 0 2 ((u_T 0 2) + (1 : Int32))) fun (u_T_46 : S32) => some u_T_46
def f_X8_takeSign_J259 (fu : Nat) (u_P : S32) (u_T : S32) : Option (S32) := if (u_T 0 4) = (5 : Int32) then (if (u_T 0 5) = (6 : Int32) then (f_X8_takeSign_J294 fu u_P u_T) else (if (u_T 0 5) = (8 : Int32) then (f_X8_takeSign_J294 fu u_P u_T) else (if (u_T 0 5) = (9 : Int32) then (f_X8_takeSign_J294 fu u_P u_T) else (some u_T)))) else (some u_T)
def f_X8_takeSign_J254 (fu : Nat) (u_P : S32) (u_T : S32) : Option (S32) := tx_let (up2 u_T 0 4 (1 : Int32)) fun (u_T_41 : S32) => f_X8_takeSign_J259 fu u_P u_T_41
def f_X8_takeSign_J228 (fu : Nat) (u_P : S32) (u_T : S32) (t1 : Int32) : Option (S32) := tx_let (up2 u_T 0 5 t1) fun (u_T_40 : S32) => f_X8_takeSign_J259 fu u_P u_T_40
def f_X8_takeSign_J248 (fu : Nat) (u_P : S32) (u_T : S32) (t1 : Int32) : Option (S32) := tx_let (up2 u_T 0 5 t1) fun (u_T_39 : S32) => f_X8_takeSign_J259 fu u_P u_T_39
def f_X8_takeSign (fu : Nat) (u_P : S32) (u_T : S32) (x1 : Int32) : Option (S32) := tx_b1 (f_X8_signAt fu u_T u_P ((u_T 0 2) + (1 : Int32))) fun (r_2 : Int32) => tx_let (up2 u_T 0 4 (5 : Int32)) fun (u_T_3 : S32) => tx_let (up2 u_T_3 0 2 ((u_T_3 0 2) + (1 : Int32))) fun (u_T_4 : S32) => if x1 = (40 : Int32) then (tx_let (up2 u_T_4 0 5 (15 : Int32)) fun (u_T_6 : S32) => f_X8_takeSign_J259 fu u_P u_T_6) else if x1 = (41 : Int32) then (tx_let (up2 u_T_4 0 5 (16 : Int32)) fun (u_T_8 : S32) => f_X8_takeSign_J259 fu u_P u_T_8) else if x1 = (42 : Int32) then (tx_let (up2 u_T_4 0 5 (13 : Int32)) fun (u_T_10 : S32) => f_X8_takeSign_J259 fu u_P u_T_10) else if x1 = (43 : Int32) then (tx_let (up2 u_T_4 0 5 (11 : Int32)) fun (u_T_12 : S32) => f_X8_takeSign_J259 fu u_P u_T_12) else if x1 = (44 : Int32) then (f_X8_takeSign_J254 fu u_P u_T_4) else if x1 = (45 : Int32) then (tx_let (up2 u_T_4 0 5 (12 : Int32)) fun (u_T_15 : S32) => f_X8_takeSign_J259 fu u_P u_T_15) else if x1 = (46 : Int32) then (f_X8_takeSign_J254 fu u_P u_T_4) else if x1 = (47 : Int32) then (tx_let (up2 u_T_4 0 5 (14 : Int32)) fun (u_T_18 : S32) => f_X8_takeSign_J259 fu u_P u_T_18) else if x1 = (48 : Int32) then (f_X8_takeSign_J254 fu u_P u_T_4) else if x1 = (49 : Int32) then (f_X8_takeSign_J254 fu u_P u_T_4) else if x1 = (50 : Int32) then (f_X8_takeSign_J254 fu u_P u_T_4) else if x1 = (51 : Int32) then (f_X8_takeSign_J254 fu u_P u_T_4) else if x1 = (52 : Int32) then (f_X8_takeSign_J254 fu u_P u_T_4) else if x1 = (53 : Int32) then (f_X8_takeSign_J254 fu u_P u_T_4) else if x1 = (54 : Int32) then (f_X8_takeSign_J254 fu u_P u_T_4) else if x1 = (55 : Int32) then (f_X8_takeSign_J254 fu u_P u_T_4) else if x1 = (56 : Int32) then (f_X8_takeSign_J254 fu u_P u_T_4) else if x1 = (57 : Int32) then (f_X8_takeSign_J254 fu u_P u_T_4) else if x1 = (58 : Int32) then (f_X8_takeSign_J254 fu u_P u_T_4) else if x1 = (59 : Int32) then (tx_let (up2 u_T_4 0 5 (17 : Int32)) fun (u_T_31 : S32) => f_X8_takeSign_J259 fu u_P u_T_31) else if x1 = (60 : Int32) then (if r_2 = (61 : Int32) then (f_X8_takeSign_J228 fu u_P u_T_4 (6 : Int32)) else (if r_2 = (62 : Int32) then (f_X8_takeSign_J228 fu u_P u_T_4 (8 : Int32)) else (f_X8_takeSign_J228 fu u_P u_T_4 (5 : Int32)))) else if x1 = (61 : Int32) then (tx_let (up2 u_T_4 0 5 (7 : Int32)) fun (u_T_36 : S32) => f_X8_takeSign_J259 fu u_P u_T_36) else if x1 = (62 : Int32) then (if r_2 = (61 : Int32) then (f_X8_takeSign_J248 fu u_P u_T_4 (9 : Int32)) else (f_X8_takeSign_J248 fu u_P u_T_4 (10 : Int32))) else (f_X8_takeSign_J254 fu u_P u_T_4)
set_option maxHeartbeats 4000000 in
set_option maxRecDepth 100000 in
theorem c_X8_takeSign {l : Launch} {g : GG} {A : Nat → Prop} {X : va_W} {fu : Nat} {a_T a_P : Nat → Nat} {u_T : S32} {u_P : S32} {x1 : Int32} {zu_T : S32} (hf : f_X8_takeSign fu u_P u_T x1 = some zu_T) : MV l yX8_takeSign cX8_takeSign 3 none 1 g A (cl_X8 g a_T (a_P 0) u_T ++ (cl_X6 g a_P u_P ++ X)) [.ref (a_T 0), .int x1] (cl_X8 g a_T (a_P 0) zu_T ++ (cl_X6 g a_P u_P ++ X)) := by
  refine tx_start (av := [.ref (a_T 0), .int x1]) (by decide) (Nat.le_of_ble_eq_true rfl) ?_
  intro p e s m below meth c ls S hr hlk hE hw hl
  have S : CallFix p m c cX8_takeSign 3 s (List.toArray [.ref (a_T 0), .int x1]) (Cond.code yX8_takeSign cX8_takeSign 3 none :: allW) RX8 := S
  have hx := S.1
  have hb := S.2.1
  have hown := S.2.2.2.1
  have hts : ∀ w ∈ allW, w.before (List.toArray [.ref (a_T 0), .int x1]) s = true := fun w h => S.2.2.2.2 w (List.mem_cons_of_mem _ h)
  have hl : lv_has ls 3 [(0, .ref (a_T 0)), (1, .int x1)] := hl
  have J294 : ∀ {u_T : S32} {H : Heap} {locs : List Loc} {ls : Array Slot}, f_X8_takeSign_J294 fu u_P u_T = some zu_T → WD g A s.heap (cl_X8 g a_T (a_P 0) u_T ++ (cl_X6 g a_P u_P ++ X)) H locs → lv_has ls 3 [(0, .ref (a_T 0))] → W p l e (rmH 1) s m (List.toArray [.ref (a_T 0), .int x1]) below meth c H locs 0 0 (MQ below (va_Qv (fun (_ : Unit) => True) (fun _ t => POST g A (cl_X8 g a_T (a_P 0) zu_T ++ (cl_X6 g a_P u_P ++ X)) t) A) (List.toArray [.ref (a_T 0), .int x1]) s 0 0 A) (F0 m 294 ls []) := by
    intro u_T H locs ls hf hw hl
    unfold f_X8_takeSign_J294 at hf
    refine lv_aload_n hx hb dX8_takeSign_294 rfl (lv_at hl 0 rfl) ?_
    refine lv_dup hx hb dX8_takeSign_295 rfl ?_
    refine gf_X8_19 S hE hw 0 rfl rfl dX8_takeSign_296 ?_
    refine lv_iconst (v := 1) hx hb dX8_takeSign_299 (by decide) ?_
    refine lv_iadd hx hb dX8_takeSign_300 ?_
    obtain ⟨u_T_46, eu_T_46⟩ : ∃ z : S32, z = up2 u_T 0 2 ((u_T 0 2) + (1 : Int32)) := ⟨_, rfl⟩
    replace hf := tx_let_e hf eu_T_46
    refine pf_X8_19 (ws' := cl_X8 g a_T (a_P 0) u_T_46 ++ (cl_X6 g a_P u_P ++ X)) S hE hw rfl rfl 0 rfl (Nat.le_of_ble_eq_true rfl) (by rw [eu_T_46]; rfl) dX8_takeSign_301 (fun H locs hw => ?_)
    obtain e0 := tx_in1 hf
    rw [← e0]
    exact tx_vret S hr hlk hw dX8_takeSign_304
  have J259 : ∀ {u_T : S32} {H : Heap} {locs : List Loc} {ls : Array Slot}, f_X8_takeSign_J259 fu u_P u_T = some zu_T → WD g A s.heap (cl_X8 g a_T (a_P 0) u_T ++ (cl_X6 g a_P u_P ++ X)) H locs → lv_has ls 3 [(0, .ref (a_T 0))] → W p l e (rmH 1) s m (List.toArray [.ref (a_T 0), .int x1]) below meth c H locs 0 0 (MQ below (va_Qv (fun (_ : Unit) => True) (fun _ t => POST g A (cl_X8 g a_T (a_P 0) zu_T ++ (cl_X6 g a_P u_P ++ X)) t) A) (List.toArray [.ref (a_T 0), .int x1]) s 0 0 A) (F0 m 259 ls []) := by
    intro u_T H locs ls hf hw hl
    unfold f_X8_takeSign_J259 at hf
    refine lv_aload_n hx hb dX8_takeSign_259 rfl (lv_at hl 0 rfl) ?_
    refine gf_X8_25 S hE hw 0 rfl rfl dX8_takeSign_260 ?_
    refine lv_iconst (v := 5) hx hb dX8_takeSign_263 (by decide) ?_
    refine lv_icmp_ne (tgt := 304) hx hb dX8_takeSign_264 (by decide) (fun h_42 => ?_) (fun h_42 => ?_)
    · replace hf := tx_neg hf h_42
      obtain e0 := tx_in1 hf
      rw [← e0]
      exact tx_vret S hr hlk hw dX8_takeSign_304
    · replace hf := tx_pos hf h_42
      refine lv_aload_n hx hb dX8_takeSign_267 rfl (lv_at hl 0 rfl) ?_
      refine gf_X8_28 S hE hw 0 rfl rfl dX8_takeSign_268 ?_
      refine lv_bipush (v := 6) hx hb dX8_takeSign_271 (by decide) ?_
      refine lv_icmp_eq (tgt := 294) hx hb dX8_takeSign_273 (by decide) (fun h_43 => ?_) (fun h_43 => ?_)
      · replace hf := tx_pos hf h_43
        exact J294 hf hw (lv_sub hl [0] rfl)
      · replace hf := tx_neg hf h_43
        refine lv_aload_n hx hb dX8_takeSign_276 rfl (lv_at hl 0 rfl) ?_
        refine gf_X8_28 S hE hw 0 rfl rfl dX8_takeSign_277 ?_
        refine lv_bipush (v := 8) hx hb dX8_takeSign_280 (by decide) ?_
        refine lv_icmp_eq (tgt := 294) hx hb dX8_takeSign_282 (by decide) (fun h_44 => ?_) (fun h_44 => ?_)
        · replace hf := tx_pos hf h_44
          exact J294 hf hw (lv_sub hl [0] rfl)
        · replace hf := tx_neg hf h_44
          refine lv_aload_n hx hb dX8_takeSign_285 rfl (lv_at hl 0 rfl) ?_
          refine gf_X8_28 S hE hw 0 rfl rfl dX8_takeSign_286 ?_
          refine lv_bipush (v := 9) hx hb dX8_takeSign_289 (by decide) ?_
          refine lv_icmp_ne (tgt := 304) hx hb dX8_takeSign_291 (by decide) (fun h_45 => ?_) (fun h_45 => ?_)
          · replace hf := tx_neg hf h_45
            obtain e0 := tx_in1 hf
            rw [← e0]
            exact tx_vret S hr hlk hw dX8_takeSign_304
          · replace hf := tx_pos hf h_45
            exact J294 hf hw (lv_sub hl [0] rfl)
  have J254 : ∀ {u_T : S32} {H : Heap} {locs : List Loc} {ls : Array Slot}, f_X8_takeSign_J254 fu u_P u_T = some zu_T → WD g A s.heap (cl_X8 g a_T (a_P 0) u_T ++ (cl_X6 g a_P u_P ++ X)) H locs → lv_has ls 3 [(0, .ref (a_T 0))] → W p l e (rmH 1) s m (List.toArray [.ref (a_T 0), .int x1]) below meth c H locs 0 0 (MQ below (va_Qv (fun (_ : Unit) => True) (fun _ t => POST g A (cl_X8 g a_T (a_P 0) zu_T ++ (cl_X6 g a_P u_P ++ X)) t) A) (List.toArray [.ref (a_T 0), .int x1]) s 0 0 A) (F0 m 254 ls []) := by
    intro u_T H locs ls hf hw hl
    unfold f_X8_takeSign_J254 at hf
    refine lv_aload_n hx hb dX8_takeSign_254 rfl (lv_at hl 0 rfl) ?_
    refine lv_iconst (v := 1) hx hb dX8_takeSign_255 (by decide) ?_
    obtain ⟨u_T_41, eu_T_41⟩ : ∃ z : S32, z = up2 u_T 0 4 (1 : Int32) := ⟨_, rfl⟩
    replace hf := tx_let_e hf eu_T_41
    refine pf_X8_25 (ws' := cl_X8 g a_T (a_P 0) u_T_41 ++ (cl_X6 g a_P u_P ++ X)) S hE hw rfl rfl 0 rfl (Nat.le_of_ble_eq_true rfl) (by rw [eu_T_41]; rfl) dX8_takeSign_256 (fun H locs hw => ?_)
    exact J259 hf hw (lv_sub hl [0] rfl)
  have J228 : ∀ {u_T : S32} {t1 : Int32} {H : Heap} {locs : List Loc} {ls : Array Slot}, f_X8_takeSign_J228 fu u_P u_T t1 = some zu_T → WD g A s.heap (cl_X8 g a_T (a_P 0) u_T ++ (cl_X6 g a_P u_P ++ X)) H locs → lv_has ls 3 [(0, .ref (a_T 0))] → W p l e (rmH 1) s m (List.toArray [.ref (a_T 0), .int x1]) below meth c H locs 0 0 (MQ below (va_Qv (fun (_ : Unit) => True) (fun _ t => POST g A (cl_X8 g a_T (a_P 0) zu_T ++ (cl_X6 g a_P u_P ++ X)) t) A) (List.toArray [.ref (a_T 0), .int x1]) s 0 0 A) (F0 m 228 ls [.int t1, .ref (a_T 0)]) := by
    intro u_T t1 H locs ls hf hw hl
    unfold f_X8_takeSign_J228 at hf
    obtain ⟨u_T_40, eu_T_40⟩ : ∃ z : S32, z = up2 u_T 0 5 t1 := ⟨_, rfl⟩
    replace hf := tx_let_e hf eu_T_40
    refine pf_X8_28 (ws' := cl_X8 g a_T (a_P 0) u_T_40 ++ (cl_X6 g a_P u_P ++ X)) S hE hw rfl rfl 0 rfl (Nat.le_of_ble_eq_true rfl) (by rw [eu_T_40]; rfl) dX8_takeSign_228 (fun H locs hw => ?_)
    refine lv_goto (tgt := 259) hx hb dX8_takeSign_231 (by decide) ?_
    exact J259 hf hw (lv_sub hl [0] rfl)
  have J248 : ∀ {u_T : S32} {t1 : Int32} {H : Heap} {locs : List Loc} {ls : Array Slot}, f_X8_takeSign_J248 fu u_P u_T t1 = some zu_T → WD g A s.heap (cl_X8 g a_T (a_P 0) u_T ++ (cl_X6 g a_P u_P ++ X)) H locs → lv_has ls 3 [(0, .ref (a_T 0))] → W p l e (rmH 1) s m (List.toArray [.ref (a_T 0), .int x1]) below meth c H locs 0 0 (MQ below (va_Qv (fun (_ : Unit) => True) (fun _ t => POST g A (cl_X8 g a_T (a_P 0) zu_T ++ (cl_X6 g a_P u_P ++ X)) t) A) (List.toArray [.ref (a_T 0), .int x1]) s 0 0 A) (F0 m 248 ls [.int t1, .ref (a_T 0)]) := by
    intro u_T t1 H locs ls hf hw hl
    unfold f_X8_takeSign_J248 at hf
    obtain ⟨u_T_39, eu_T_39⟩ : ∃ z : S32, z = up2 u_T 0 5 t1 := ⟨_, rfl⟩
    replace hf := tx_let_e hf eu_T_39
    refine pf_X8_28 (ws' := cl_X8 g a_T (a_P 0) u_T_39 ++ (cl_X6 g a_P u_P ++ X)) S hE hw rfl rfl 0 rfl (Nat.le_of_ble_eq_true rfl) (by rw [eu_T_39]; rfl) dX8_takeSign_248 (fun H locs hw => ?_)
    refine lv_goto (tgt := 259) hx hb dX8_takeSign_251 (by decide) ?_
    exact J259 hf hw (lv_sub hl [0] rfl)
  unfold f_X8_takeSign at hf
  refine lv_aload_n hx hb dX8_takeSign_0 rfl (lv_at hl 0 rfl) ?_
  refine lv_aload_n hx hb dX8_takeSign_1 rfl (lv_at hl 0 rfl) ?_
  refine gf_X8_19 S hE hw 0 rfl rfl dX8_takeSign_2 ?_
  refine lv_iconst (v := 1) hx hb dX8_takeSign_5 (by decide) ?_
  refine lv_iadd hx hb dX8_takeSign_6 ?_
  obtain ⟨r_2, h_1, hf⟩ := tx_b1_e hf
  refine tx_ci hw (tx_runV S hE hw (c_X8_signAt h_1) lk_X8_31 (q0 := 0) rfl rfl rfl hl.1 (rest := []) rfl (Nat.le_of_ble_eq_true rfl) ⟨by decide, by decide⟩ dX8_takeSign_7 ⟨Nat.zero_le _, Nat.zero_le _⟩) (fun H locs hw => ?_)
  refine lv_istore_n (lv' := [(2, .int r_2), (0, .ref (a_T 0)), (1, .int x1)]) hx hb dX8_takeSign_10 rfl hl (by decide) rfl (fun ls hl => ?_)
  refine lv_aload_n hx hb dX8_takeSign_11 rfl (lv_at hl 1 rfl) ?_
  refine lv_iconst (v := 5) hx hb dX8_takeSign_12 (by decide) ?_
  obtain ⟨u_T_3, eu_T_3⟩ : ∃ z : S32, z = up2 u_T 0 4 (5 : Int32) := ⟨_, rfl⟩
  replace hf := tx_let_e hf eu_T_3
  refine pf_X8_25 (ws' := cl_X8 g a_T (a_P 0) u_T_3 ++ (cl_X6 g a_P u_P ++ X)) S hE hw rfl rfl 0 rfl (Nat.le_of_ble_eq_true rfl) (by rw [eu_T_3]; rfl) dX8_takeSign_13 (fun H locs hw => ?_)
  refine lv_aload_n hx hb dX8_takeSign_16 rfl (lv_at hl 1 rfl) ?_
  refine lv_dup hx hb dX8_takeSign_17 rfl ?_
  refine gf_X8_19 S hE hw 0 rfl rfl dX8_takeSign_18 ?_
  refine lv_iconst (v := 1) hx hb dX8_takeSign_21 (by decide) ?_
  refine lv_iadd hx hb dX8_takeSign_22 ?_
  obtain ⟨u_T_4, eu_T_4⟩ : ∃ z : S32, z = up2 u_T_3 0 2 ((u_T_3 0 2) + (1 : Int32)) := ⟨_, rfl⟩
  replace hf := tx_let_e hf eu_T_4
  refine pf_X8_19 (ws' := cl_X8 g a_T (a_P 0) u_T_4 ++ (cl_X6 g a_P u_P ++ X)) S hE hw rfl rfl 0 rfl (Nat.le_of_ble_eq_true rfl) (by rw [eu_T_4]; rfl) dX8_takeSign_23 (fun H locs hw => ?_)
  refine lv_iload_n hx hb dX8_takeSign_26 rfl (lv_at hl 2 rfl) ?_
  by_cases h_5 : x1 = (40 : Int32)
  · replace hf := tx_pos hf h_5
    refine lv_tableIn (off := 114) (tgt := 141) hx hb dX8_takeSign_27 (by rw [h_5]; decide) (by rw [h_5]; decide) (by rw [h_5]; rfl) (by decide) ?_
    refine lv_aload_n hx hb dX8_takeSign_141 rfl (lv_at hl 1 rfl) ?_
    refine lv_bipush (v := 15) hx hb dX8_takeSign_142 (by decide) ?_
    obtain ⟨u_T_6, eu_T_6⟩ : ∃ z : S32, z = up2 u_T_4 0 5 (15 : Int32) := ⟨_, rfl⟩
    replace hf := tx_let_e hf eu_T_6
    refine pf_X8_28 (ws' := cl_X8 g a_T (a_P 0) u_T_6 ++ (cl_X6 g a_P u_P ++ X)) S hE hw rfl rfl 0 rfl (Nat.le_of_ble_eq_true rfl) (by rw [eu_T_6]; rfl) dX8_takeSign_144 (fun H locs hw => ?_)
    refine lv_goto (tgt := 259) hx hb dX8_takeSign_147 (by decide) ?_
    exact J259 hf hw (lv_sub hl [1] rfl)
  replace hf := tx_neg hf h_5
  by_cases h_7 : x1 = (41 : Int32)
  · replace hf := tx_pos hf h_7
    refine lv_tableIn (off := 123) (tgt := 150) hx hb dX8_takeSign_27 (by rw [h_7]; decide) (by rw [h_7]; decide) (by rw [h_7]; rfl) (by decide) ?_
    refine lv_aload_n hx hb dX8_takeSign_150 rfl (lv_at hl 1 rfl) ?_
    refine lv_bipush (v := 16) hx hb dX8_takeSign_151 (by decide) ?_
    obtain ⟨u_T_8, eu_T_8⟩ : ∃ z : S32, z = up2 u_T_4 0 5 (16 : Int32) := ⟨_, rfl⟩
    replace hf := tx_let_e hf eu_T_8
    refine pf_X8_28 (ws' := cl_X8 g a_T (a_P 0) u_T_8 ++ (cl_X6 g a_P u_P ++ X)) S hE hw rfl rfl 0 rfl (Nat.le_of_ble_eq_true rfl) (by rw [eu_T_8]; rfl) dX8_takeSign_153 (fun H locs hw => ?_)
    refine lv_goto (tgt := 259) hx hb dX8_takeSign_156 (by decide) ?_
    exact J259 hf hw (lv_sub hl [1] rfl)
  replace hf := tx_neg hf h_7
  by_cases h_9 : x1 = (42 : Int32)
  · replace hf := tx_pos hf h_9
    refine lv_tableIn (off := 150) (tgt := 177) hx hb dX8_takeSign_27 (by rw [h_9]; decide) (by rw [h_9]; decide) (by rw [h_9]; rfl) (by decide) ?_
    refine lv_aload_n hx hb dX8_takeSign_177 rfl (lv_at hl 1 rfl) ?_
    refine lv_bipush (v := 13) hx hb dX8_takeSign_178 (by decide) ?_
    obtain ⟨u_T_10, eu_T_10⟩ : ∃ z : S32, z = up2 u_T_4 0 5 (13 : Int32) := ⟨_, rfl⟩
    replace hf := tx_let_e hf eu_T_10
    refine pf_X8_28 (ws' := cl_X8 g a_T (a_P 0) u_T_10 ++ (cl_X6 g a_P u_P ++ X)) S hE hw rfl rfl 0 rfl (Nat.le_of_ble_eq_true rfl) (by rw [eu_T_10]; rfl) dX8_takeSign_180 (fun H locs hw => ?_)
    refine lv_goto (tgt := 259) hx hb dX8_takeSign_183 (by decide) ?_
    exact J259 hf hw (lv_sub hl [1] rfl)
  replace hf := tx_neg hf h_9
  by_cases h_11 : x1 = (43 : Int32)
  · replace hf := tx_pos hf h_11
    refine lv_tableIn (off := 132) (tgt := 159) hx hb dX8_takeSign_27 (by rw [h_11]; decide) (by rw [h_11]; decide) (by rw [h_11]; rfl) (by decide) ?_
    refine lv_aload_n hx hb dX8_takeSign_159 rfl (lv_at hl 1 rfl) ?_
    refine lv_bipush (v := 11) hx hb dX8_takeSign_160 (by decide) ?_
    obtain ⟨u_T_12, eu_T_12⟩ : ∃ z : S32, z = up2 u_T_4 0 5 (11 : Int32) := ⟨_, rfl⟩
    replace hf := tx_let_e hf eu_T_12
    refine pf_X8_28 (ws' := cl_X8 g a_T (a_P 0) u_T_12 ++ (cl_X6 g a_P u_P ++ X)) S hE hw rfl rfl 0 rfl (Nat.le_of_ble_eq_true rfl) (by rw [eu_T_12]; rfl) dX8_takeSign_162 (fun H locs hw => ?_)
    refine lv_goto (tgt := 259) hx hb dX8_takeSign_165 (by decide) ?_
    exact J259 hf hw (lv_sub hl [1] rfl)
  replace hf := tx_neg hf h_11
  by_cases h_13 : x1 = (44 : Int32)
  · replace hf := tx_pos hf h_13
    refine lv_tableIn (off := 227) (tgt := 254) hx hb dX8_takeSign_27 (by rw [h_13]; decide) (by rw [h_13]; decide) (by rw [h_13]; rfl) (by decide) ?_
    exact J254 hf hw (lv_sub hl [1] rfl)
  replace hf := tx_neg hf h_13
  by_cases h_14 : x1 = (45 : Int32)
  · replace hf := tx_pos hf h_14
    refine lv_tableIn (off := 141) (tgt := 168) hx hb dX8_takeSign_27 (by rw [h_14]; decide) (by rw [h_14]; decide) (by rw [h_14]; rfl) (by decide) ?_
    refine lv_aload_n hx hb dX8_takeSign_168 rfl (lv_at hl 1 rfl) ?_
    refine lv_bipush (v := 12) hx hb dX8_takeSign_169 (by decide) ?_
    obtain ⟨u_T_15, eu_T_15⟩ : ∃ z : S32, z = up2 u_T_4 0 5 (12 : Int32) := ⟨_, rfl⟩
    replace hf := tx_let_e hf eu_T_15
    refine pf_X8_28 (ws' := cl_X8 g a_T (a_P 0) u_T_15 ++ (cl_X6 g a_P u_P ++ X)) S hE hw rfl rfl 0 rfl (Nat.le_of_ble_eq_true rfl) (by rw [eu_T_15]; rfl) dX8_takeSign_171 (fun H locs hw => ?_)
    refine lv_goto (tgt := 259) hx hb dX8_takeSign_174 (by decide) ?_
    exact J259 hf hw (lv_sub hl [1] rfl)
  replace hf := tx_neg hf h_14
  by_cases h_16 : x1 = (46 : Int32)
  · replace hf := tx_pos hf h_16
    refine lv_tableIn (off := 227) (tgt := 254) hx hb dX8_takeSign_27 (by rw [h_16]; decide) (by rw [h_16]; decide) (by rw [h_16]; rfl) (by decide) ?_
    exact J254 hf hw (lv_sub hl [1] rfl)
  replace hf := tx_neg hf h_16
  by_cases h_17 : x1 = (47 : Int32)
  · replace hf := tx_pos hf h_17
    refine lv_tableIn (off := 159) (tgt := 186) hx hb dX8_takeSign_27 (by rw [h_17]; decide) (by rw [h_17]; decide) (by rw [h_17]; rfl) (by decide) ?_
    refine lv_aload_n hx hb dX8_takeSign_186 rfl (lv_at hl 1 rfl) ?_
    refine lv_bipush (v := 14) hx hb dX8_takeSign_187 (by decide) ?_
    obtain ⟨u_T_18, eu_T_18⟩ : ∃ z : S32, z = up2 u_T_4 0 5 (14 : Int32) := ⟨_, rfl⟩
    replace hf := tx_let_e hf eu_T_18
    refine pf_X8_28 (ws' := cl_X8 g a_T (a_P 0) u_T_18 ++ (cl_X6 g a_P u_P ++ X)) S hE hw rfl rfl 0 rfl (Nat.le_of_ble_eq_true rfl) (by rw [eu_T_18]; rfl) dX8_takeSign_189 (fun H locs hw => ?_)
    refine lv_goto (tgt := 259) hx hb dX8_takeSign_192 (by decide) ?_
    exact J259 hf hw (lv_sub hl [1] rfl)
  replace hf := tx_neg hf h_17
  by_cases h_19 : x1 = (48 : Int32)
  · replace hf := tx_pos hf h_19
    refine lv_tableIn (off := 227) (tgt := 254) hx hb dX8_takeSign_27 (by rw [h_19]; decide) (by rw [h_19]; decide) (by rw [h_19]; rfl) (by decide) ?_
    exact J254 hf hw (lv_sub hl [1] rfl)
  replace hf := tx_neg hf h_19
  by_cases h_20 : x1 = (49 : Int32)
  · replace hf := tx_pos hf h_20
    refine lv_tableIn (off := 227) (tgt := 254) hx hb dX8_takeSign_27 (by rw [h_20]; decide) (by rw [h_20]; decide) (by rw [h_20]; rfl) (by decide) ?_
    exact J254 hf hw (lv_sub hl [1] rfl)
  replace hf := tx_neg hf h_20
  by_cases h_21 : x1 = (50 : Int32)
  · replace hf := tx_pos hf h_21
    refine lv_tableIn (off := 227) (tgt := 254) hx hb dX8_takeSign_27 (by rw [h_21]; decide) (by rw [h_21]; decide) (by rw [h_21]; rfl) (by decide) ?_
    exact J254 hf hw (lv_sub hl [1] rfl)
  replace hf := tx_neg hf h_21
  by_cases h_22 : x1 = (51 : Int32)
  · replace hf := tx_pos hf h_22
    refine lv_tableIn (off := 227) (tgt := 254) hx hb dX8_takeSign_27 (by rw [h_22]; decide) (by rw [h_22]; decide) (by rw [h_22]; rfl) (by decide) ?_
    exact J254 hf hw (lv_sub hl [1] rfl)
  replace hf := tx_neg hf h_22
  by_cases h_23 : x1 = (52 : Int32)
  · replace hf := tx_pos hf h_23
    refine lv_tableIn (off := 227) (tgt := 254) hx hb dX8_takeSign_27 (by rw [h_23]; decide) (by rw [h_23]; decide) (by rw [h_23]; rfl) (by decide) ?_
    exact J254 hf hw (lv_sub hl [1] rfl)
  replace hf := tx_neg hf h_23
  by_cases h_24 : x1 = (53 : Int32)
  · replace hf := tx_pos hf h_24
    refine lv_tableIn (off := 227) (tgt := 254) hx hb dX8_takeSign_27 (by rw [h_24]; decide) (by rw [h_24]; decide) (by rw [h_24]; rfl) (by decide) ?_
    exact J254 hf hw (lv_sub hl [1] rfl)
  replace hf := tx_neg hf h_24
  by_cases h_25 : x1 = (54 : Int32)
  · replace hf := tx_pos hf h_25
    refine lv_tableIn (off := 227) (tgt := 254) hx hb dX8_takeSign_27 (by rw [h_25]; decide) (by rw [h_25]; decide) (by rw [h_25]; rfl) (by decide) ?_
    exact J254 hf hw (lv_sub hl [1] rfl)
  replace hf := tx_neg hf h_25
  by_cases h_26 : x1 = (55 : Int32)
  · replace hf := tx_pos hf h_26
    refine lv_tableIn (off := 227) (tgt := 254) hx hb dX8_takeSign_27 (by rw [h_26]; decide) (by rw [h_26]; decide) (by rw [h_26]; rfl) (by decide) ?_
    exact J254 hf hw (lv_sub hl [1] rfl)
  replace hf := tx_neg hf h_26
  by_cases h_27 : x1 = (56 : Int32)
  · replace hf := tx_pos hf h_27
    refine lv_tableIn (off := 227) (tgt := 254) hx hb dX8_takeSign_27 (by rw [h_27]; decide) (by rw [h_27]; decide) (by rw [h_27]; rfl) (by decide) ?_
    exact J254 hf hw (lv_sub hl [1] rfl)
  replace hf := tx_neg hf h_27
  by_cases h_28 : x1 = (57 : Int32)
  · replace hf := tx_pos hf h_28
    refine lv_tableIn (off := 227) (tgt := 254) hx hb dX8_takeSign_27 (by rw [h_28]; decide) (by rw [h_28]; decide) (by rw [h_28]; rfl) (by decide) ?_
    exact J254 hf hw (lv_sub hl [1] rfl)
  replace hf := tx_neg hf h_28
  by_cases h_29 : x1 = (58 : Int32)
  · replace hf := tx_pos hf h_29
    refine lv_tableIn (off := 227) (tgt := 254) hx hb dX8_takeSign_27 (by rw [h_29]; decide) (by rw [h_29]; decide) (by rw [h_29]; rfl) (by decide) ?_
    exact J254 hf hw (lv_sub hl [1] rfl)
  replace hf := tx_neg hf h_29
  by_cases h_30 : x1 = (59 : Int32)
  · replace hf := tx_pos hf h_30
    refine lv_tableIn (off := 105) (tgt := 132) hx hb dX8_takeSign_27 (by rw [h_30]; decide) (by rw [h_30]; decide) (by rw [h_30]; rfl) (by decide) ?_
    refine lv_aload_n hx hb dX8_takeSign_132 rfl (lv_at hl 1 rfl) ?_
    refine lv_bipush (v := 17) hx hb dX8_takeSign_133 (by decide) ?_
    obtain ⟨u_T_31, eu_T_31⟩ : ∃ z : S32, z = up2 u_T_4 0 5 (17 : Int32) := ⟨_, rfl⟩
    replace hf := tx_let_e hf eu_T_31
    refine pf_X8_28 (ws' := cl_X8 g a_T (a_P 0) u_T_31 ++ (cl_X6 g a_P u_P ++ X)) S hE hw rfl rfl 0 rfl (Nat.le_of_ble_eq_true rfl) (by rw [eu_T_31]; rfl) dX8_takeSign_135 (fun H locs hw => ?_)
    refine lv_goto (tgt := 259) hx hb dX8_takeSign_138 (by decide) ?_
    exact J259 hf hw (lv_sub hl [1] rfl)
  replace hf := tx_neg hf h_30
  by_cases h_32 : x1 = (60 : Int32)
  · replace hf := tx_pos hf h_32
    refine lv_tableIn (off := 177) (tgt := 204) hx hb dX8_takeSign_27 (by rw [h_32]; decide) (by rw [h_32]; decide) (by rw [h_32]; rfl) (by decide) ?_
    refine lv_aload_n hx hb dX8_takeSign_204 rfl (lv_at hl 1 rfl) ?_
    refine lv_iload_n hx hb dX8_takeSign_205 rfl (lv_at hl 0 rfl) ?_
    refine lv_bipush (v := 61) hx hb dX8_takeSign_206 (by decide) ?_
    refine lv_icmp_ne (tgt := 216) hx hb dX8_takeSign_208 (by decide) (fun h_33 => ?_) (fun h_33 => ?_)
    · replace hf := tx_neg hf h_33
      refine lv_iload_n hx hb dX8_takeSign_216 rfl (lv_at hl 0 rfl) ?_
      refine lv_bipush (v := 62) hx hb dX8_takeSign_217 (by decide) ?_
      refine lv_icmp_ne (tgt := 227) hx hb dX8_takeSign_219 (by decide) (fun h_34 => ?_) (fun h_34 => ?_)
      · replace hf := tx_neg hf h_34
        refine lv_iconst (v := 5) hx hb dX8_takeSign_227 (by decide) ?_
        exact J228 hf hw (lv_sub hl [1] rfl)
      · replace hf := tx_pos hf h_34
        refine lv_bipush (v := 8) hx hb dX8_takeSign_222 (by decide) ?_
        refine lv_goto (tgt := 228) hx hb dX8_takeSign_224 (by decide) ?_
        exact J228 hf hw (lv_sub hl [1] rfl)
    · replace hf := tx_pos hf h_33
      refine lv_bipush (v := 6) hx hb dX8_takeSign_211 (by decide) ?_
      refine lv_goto (tgt := 228) hx hb dX8_takeSign_213 (by decide) ?_
      exact J228 hf hw (lv_sub hl [1] rfl)
  replace hf := tx_neg hf h_32
  by_cases h_35 : x1 = (61 : Int32)
  · replace hf := tx_pos hf h_35
    refine lv_tableIn (off := 168) (tgt := 195) hx hb dX8_takeSign_27 (by rw [h_35]; decide) (by rw [h_35]; decide) (by rw [h_35]; rfl) (by decide) ?_
    refine lv_aload_n hx hb dX8_takeSign_195 rfl (lv_at hl 1 rfl) ?_
    refine lv_bipush (v := 7) hx hb dX8_takeSign_196 (by decide) ?_
    obtain ⟨u_T_36, eu_T_36⟩ : ∃ z : S32, z = up2 u_T_4 0 5 (7 : Int32) := ⟨_, rfl⟩
    replace hf := tx_let_e hf eu_T_36
    refine pf_X8_28 (ws' := cl_X8 g a_T (a_P 0) u_T_36 ++ (cl_X6 g a_P u_P ++ X)) S hE hw rfl rfl 0 rfl (Nat.le_of_ble_eq_true rfl) (by rw [eu_T_36]; rfl) dX8_takeSign_198 (fun H locs hw => ?_)
    refine lv_goto (tgt := 259) hx hb dX8_takeSign_201 (by decide) ?_
    exact J259 hf hw (lv_sub hl [1] rfl)
  replace hf := tx_neg hf h_35
  by_cases h_37 : x1 = (62 : Int32)
  · replace hf := tx_pos hf h_37
    refine lv_tableIn (off := 207) (tgt := 234) hx hb dX8_takeSign_27 (by rw [h_37]; decide) (by rw [h_37]; decide) (by rw [h_37]; rfl) (by decide) ?_
    refine lv_aload_n hx hb dX8_takeSign_234 rfl (lv_at hl 1 rfl) ?_
    refine lv_iload_n hx hb dX8_takeSign_235 rfl (lv_at hl 0 rfl) ?_
    refine lv_bipush (v := 61) hx hb dX8_takeSign_236 (by decide) ?_
    refine lv_icmp_ne (tgt := 246) hx hb dX8_takeSign_238 (by decide) (fun h_38 => ?_) (fun h_38 => ?_)
    · replace hf := tx_neg hf h_38
      refine lv_bipush (v := 10) hx hb dX8_takeSign_246 (by decide) ?_
      exact J248 hf hw (lv_sub hl [1] rfl)
    · replace hf := tx_pos hf h_38
      refine lv_bipush (v := 9) hx hb dX8_takeSign_241 (by decide) ?_
      refine lv_goto (tgt := 248) hx hb dX8_takeSign_243 (by decide) ?_
      exact J248 hf hw (lv_sub hl [1] rfl)
  replace hf := tx_neg hf h_37
  have eh_5 : x1.toInt ≠ 40 := tx_ne h_5
  have eh_7 : x1.toInt ≠ 41 := tx_ne h_7
  have eh_9 : x1.toInt ≠ 42 := tx_ne h_9
  have eh_11 : x1.toInt ≠ 43 := tx_ne h_11
  have eh_13 : x1.toInt ≠ 44 := tx_ne h_13
  have eh_14 : x1.toInt ≠ 45 := tx_ne h_14
  have eh_16 : x1.toInt ≠ 46 := tx_ne h_16
  have eh_17 : x1.toInt ≠ 47 := tx_ne h_17
  have eh_19 : x1.toInt ≠ 48 := tx_ne h_19
  have eh_20 : x1.toInt ≠ 49 := tx_ne h_20
  have eh_21 : x1.toInt ≠ 50 := tx_ne h_21
  have eh_22 : x1.toInt ≠ 51 := tx_ne h_22
  have eh_23 : x1.toInt ≠ 52 := tx_ne h_23
  have eh_24 : x1.toInt ≠ 53 := tx_ne h_24
  have eh_25 : x1.toInt ≠ 54 := tx_ne h_25
  have eh_26 : x1.toInt ≠ 55 := tx_ne h_26
  have eh_27 : x1.toInt ≠ 56 := tx_ne h_27
  have eh_28 : x1.toInt ≠ 57 := tx_ne h_28
  have eh_29 : x1.toInt ≠ 58 := tx_ne h_29
  have eh_30 : x1.toInt ≠ 59 := tx_ne h_30
  have eh_32 : x1.toInt ≠ 60 := tx_ne h_32
  have eh_35 : x1.toInt ≠ 61 := tx_ne h_35
  have eh_37 : x1.toInt ≠ 62 := tx_ne h_37
  refine lv_tableOut (tgt := 254) hx hb dX8_takeSign_27 (by omega) (by decide) ?_
  exact J254 hf hw (lv_sub hl [1] rfl)
def f_X8_takeNumber_J67 (fu : Nat) (u_P : S32) (K10 : S32 → Option (S32)) (u_T : S32) : Option (S32) := tx_let (up2 u_T 0 2 ((u_T 0 2) + (1 : Int32))) fun (u_T_13 : S32) => K10 u_T_13
def f_X8_takeNumber_J10 (fu : Nat) (u_P : S32) (K10 : S32 → Option (S32)) (u_T : S32) : Option (S32) := if (u_T 0 1) ≤ (u_T 0 2) then (some u_T) else (tx_b1 (f_X8_signAt fu u_T u_P (u_T 0 2)) fun (r_5 : Int32) => tx_b1 (f_X8_isDigit fu r_5) fun (r_7 : Int32) => if r_7 = (0 : Int32) then (some u_T) else (if (1000000 : Int32) ≤ (u_T 0 5) then (f_X8_takeNumber_J67 fu u_P K10 u_T) else (tx_b1 (f_X8_signAt fu u_T u_P (u_T 0 2)) fun (r_11 : Int32) => tx_let (up2 u_T 0 5 ((((u_T 0 5) * (10 : Int32)) + r_11) - (48 : Int32))) fun (u_T_12 : S32) => f_X8_takeNumber_J67 fu u_P K10 u_T_12)))
def f_X8_takeNumber_L10 (fu : Nat) (u_P : S32) : Nat → S32 → Option (S32)
  | 0 => fun _ => none
  | n + 1 => f_X8_takeNumber_J10 fu u_P (f_X8_takeNumber_L10 fu u_P n)
def f_X8_takeNumber (fu : Nat) (u_P : S32) (u_T : S32) : Option (S32) := tx_let (up2 u_T 0 4 (2 : Int32)) fun (u_T_1 : S32) => tx_let (up2 u_T_1 0 5 (0 : Int32)) fun (u_T_2 : S32) => f_X8_takeNumber_L10 fu u_P fu u_T_2
set_option maxHeartbeats 4000000 in
set_option maxRecDepth 100000 in
theorem c_X8_takeNumber {l : Launch} {g : GG} {A : Nat → Prop} {X : va_W} {fu : Nat} {a_T a_P : Nat → Nat} {u_T : S32} {u_P : S32} {zu_T : S32} (hf : f_X8_takeNumber fu u_P u_T = some zu_T) : MV l yX8_takeNumber cX8_takeNumber 1 none 1 g A (cl_X8 g a_T (a_P 0) u_T ++ (cl_X6 g a_P u_P ++ X)) [.ref (a_T 0)] (cl_X8 g a_T (a_P 0) zu_T ++ (cl_X6 g a_P u_P ++ X)) := by
  refine tx_start (av := [.ref (a_T 0)]) (by decide) (Nat.le_of_ble_eq_true rfl) ?_
  intro p e s m below meth c ls S hr hlk hE hw hl
  have S : CallFix p m c cX8_takeNumber 1 s (List.toArray [.ref (a_T 0)]) (Cond.code yX8_takeNumber cX8_takeNumber 1 none :: allW) RX8 := S
  have hx := S.1
  have hb := S.2.1
  have hown := S.2.2.2.1
  have hts : ∀ w ∈ allW, w.before (List.toArray [.ref (a_T 0)]) s = true := fun w h => S.2.2.2.2 w (List.mem_cons_of_mem _ h)
  have hl : lv_has ls 1 [(0, .ref (a_T 0))] := hl
  have J67 : ∀ {K10 : S32 → Option (S32)} (hK10 : ∀ {u_T : S32} {H : Heap} {locs : List Loc} {ls : Array Slot}, K10 u_T = some zu_T → WD g A s.heap (cl_X8 g a_T (a_P 0) u_T ++ (cl_X6 g a_P u_P ++ X)) H locs → lv_has ls 1 [(0, .ref (a_T 0))] → W p l e (rmH 1) s m (List.toArray [.ref (a_T 0)]) below meth c H locs 0 0 (MQ below (va_Qv (fun (_ : Unit) => True) (fun _ t => POST g A (cl_X8 g a_T (a_P 0) zu_T ++ (cl_X6 g a_P u_P ++ X)) t) A) (List.toArray [.ref (a_T 0)]) s 0 0 A) (F0 m 10 ls [])), ∀ {u_T : S32} {H : Heap} {locs : List Loc} {ls : Array Slot}, f_X8_takeNumber_J67 fu u_P K10 u_T = some zu_T → WD g A s.heap (cl_X8 g a_T (a_P 0) u_T ++ (cl_X6 g a_P u_P ++ X)) H locs → lv_has ls 1 [(0, .ref (a_T 0))] → W p l e (rmH 1) s m (List.toArray [.ref (a_T 0)]) below meth c H locs 0 0 (MQ below (va_Qv (fun (_ : Unit) => True) (fun _ t => POST g A (cl_X8 g a_T (a_P 0) zu_T ++ (cl_X6 g a_P u_P ++ X)) t) A) (List.toArray [.ref (a_T 0)]) s 0 0 A) (F0 m 67 ls []) := by
    intro K10 hK10 u_T H locs ls hf hw hl
    unfold f_X8_takeNumber_J67 at hf
    refine lv_aload_n hx hb dX8_takeNumber_67 rfl (lv_at hl 0 rfl) ?_
    refine lv_dup hx hb dX8_takeNumber_68 rfl ?_
    refine gf_X8_19 S hE hw 0 rfl rfl dX8_takeNumber_69 ?_
    refine lv_iconst (v := 1) hx hb dX8_takeNumber_72 (by decide) ?_
    refine lv_iadd hx hb dX8_takeNumber_73 ?_
    obtain ⟨u_T_13, eu_T_13⟩ : ∃ z : S32, z = up2 u_T 0 2 ((u_T 0 2) + (1 : Int32)) := ⟨_, rfl⟩
    replace hf := tx_let_e hf eu_T_13
    refine pf_X8_19 (ws' := cl_X8 g a_T (a_P 0) u_T_13 ++ (cl_X6 g a_P u_P ++ X)) S hE hw rfl rfl 0 rfl (Nat.le_of_ble_eq_true rfl) (by rw [eu_T_13]; rfl) dX8_takeNumber_74 (fun H locs hw => ?_)
    refine lv_goto (tgt := 10) hx hb dX8_takeNumber_77 (by decide) ?_
    exact hK10 hf hw (lv_sub hl [0] rfl)
  have J10 : ∀ {K10 : S32 → Option (S32)} (hK10 : ∀ {u_T : S32} {H : Heap} {locs : List Loc} {ls : Array Slot}, K10 u_T = some zu_T → WD g A s.heap (cl_X8 g a_T (a_P 0) u_T ++ (cl_X6 g a_P u_P ++ X)) H locs → lv_has ls 1 [(0, .ref (a_T 0))] → W p l e (rmH 1) s m (List.toArray [.ref (a_T 0)]) below meth c H locs 0 0 (MQ below (va_Qv (fun (_ : Unit) => True) (fun _ t => POST g A (cl_X8 g a_T (a_P 0) zu_T ++ (cl_X6 g a_P u_P ++ X)) t) A) (List.toArray [.ref (a_T 0)]) s 0 0 A) (F0 m 10 ls [])), ∀ {u_T : S32} {H : Heap} {locs : List Loc} {ls : Array Slot}, f_X8_takeNumber_J10 fu u_P K10 u_T = some zu_T → WD g A s.heap (cl_X8 g a_T (a_P 0) u_T ++ (cl_X6 g a_P u_P ++ X)) H locs → lv_has ls 1 [(0, .ref (a_T 0))] → W p l e (rmH 1) s m (List.toArray [.ref (a_T 0)]) below meth c H locs 0 0 (MQ below (va_Qv (fun (_ : Unit) => True) (fun _ t => POST g A (cl_X8 g a_T (a_P 0) zu_T ++ (cl_X6 g a_P u_P ++ X)) t) A) (List.toArray [.ref (a_T 0)]) s 0 0 A) (F0 m 10 ls []) := by
    intro K10 hK10 u_T H locs ls hf hw hl
    unfold f_X8_takeNumber_J10 at hf
    refine lv_aload_n hx hb dX8_takeNumber_10 rfl (lv_at hl 0 rfl) ?_
    refine gf_X8_19 S hE hw 0 rfl rfl dX8_takeNumber_11 ?_
    refine lv_aload_n hx hb dX8_takeNumber_14 rfl (lv_at hl 0 rfl) ?_
    refine gf_X8_15 S hE hw 0 rfl rfl dX8_takeNumber_15 ?_
    refine lv_icmp_ge (tgt := 80) hx hb dX8_takeNumber_18 (by decide) (fun h_3 => ?_) (fun h_3 => ?_)
    · replace hf := tx_pos hf h_3
      obtain e0 := tx_in1 hf
      rw [← e0]
      exact tx_vret S hr hlk hw dX8_takeNumber_80
    · replace hf := tx_neg hf h_3
      refine lv_aload_n hx hb dX8_takeNumber_21 rfl (lv_at hl 0 rfl) ?_
      refine lv_aload_n hx hb dX8_takeNumber_22 rfl (lv_at hl 0 rfl) ?_
      refine gf_X8_19 S hE hw 0 rfl rfl dX8_takeNumber_23 ?_
      obtain ⟨r_5, h_4, hf⟩ := tx_b1_e hf
      refine tx_ci hw (tx_runV S hE hw (c_X8_signAt h_4) lk_X8_31 (q0 := 0) rfl rfl rfl hl.1 (rest := []) rfl (Nat.le_of_ble_eq_true rfl) ⟨by decide, by decide⟩ dX8_takeNumber_26 ⟨Nat.zero_le _, Nat.zero_le _⟩) (fun H locs hw => ?_)
      obtain ⟨r_7, h_6, hf⟩ := tx_b1_e hf
      refine tx_ci hw (tx_runS S hE hw (c_X8_isDigit h_6) lk_X8_45 rfl hl.1 (rest := []) rfl (Nat.le_of_ble_eq_true rfl) ⟨by decide, by decide⟩ dX8_takeNumber_29 ⟨Nat.zero_le _, Nat.zero_le _⟩) (fun H locs hw => ?_)
      refine lv_if_eq (tgt := 80) hx hb dX8_takeNumber_32 (by decide) (fun h_8 => ?_) (fun h_8 => ?_)
      · replace hf := tx_pos hf h_8
        obtain e0 := tx_in1 hf
        rw [← e0]
        exact tx_vret S hr hlk hw dX8_takeNumber_80
      · replace hf := tx_neg hf h_8
        refine lv_aload_n hx hb dX8_takeNumber_35 rfl (lv_at hl 0 rfl) ?_
        refine gf_X8_28 S hE hw 0 rfl rfl dX8_takeNumber_36 ?_
        refine lv_ldc (v := 1000000) hx hb hown (hts _ kw_563) dX8_takeNumber_39 ?_
        refine lv_icmp_ge (tgt := 67) hx hb dX8_takeNumber_41 (by decide) (fun h_9 => ?_) (fun h_9 => ?_)
        · replace hf := tx_pos hf h_9
          exact J67 hK10 hf hw (lv_sub hl [0] rfl)
        · replace hf := tx_neg hf h_9
          refine lv_aload_n hx hb dX8_takeNumber_44 rfl (lv_at hl 0 rfl) ?_
          refine lv_aload_n hx hb dX8_takeNumber_45 rfl (lv_at hl 0 rfl) ?_
          refine gf_X8_28 S hE hw 0 rfl rfl dX8_takeNumber_46 ?_
          refine lv_bipush (v := 10) hx hb dX8_takeNumber_49 (by decide) ?_
          refine lv_imul hx hb dX8_takeNumber_51 ?_
          refine lv_aload_n hx hb dX8_takeNumber_52 rfl (lv_at hl 0 rfl) ?_
          refine lv_aload_n hx hb dX8_takeNumber_53 rfl (lv_at hl 0 rfl) ?_
          refine gf_X8_19 S hE hw 0 rfl rfl dX8_takeNumber_54 ?_
          obtain ⟨r_11, h_10, hf⟩ := tx_b1_e hf
          refine tx_ci hw (tx_runV S hE hw (c_X8_signAt h_10) lk_X8_31 (q0 := 0) rfl rfl rfl hl.1 (rest := [.int ((u_T 0 5) * (10 : Int32)), .ref (a_T 0)]) rfl (Nat.le_of_ble_eq_true rfl) ⟨by decide, by decide⟩ dX8_takeNumber_57 ⟨Nat.zero_le _, Nat.zero_le _⟩) (fun H locs hw => ?_)
          refine lv_iadd hx hb dX8_takeNumber_60 ?_
          refine lv_bipush (v := 48) hx hb dX8_takeNumber_61 (by decide) ?_
          refine lv_isub hx hb dX8_takeNumber_63 ?_
          obtain ⟨u_T_12, eu_T_12⟩ : ∃ z : S32, z = up2 u_T 0 5 ((((u_T 0 5) * (10 : Int32)) + r_11) - (48 : Int32)) := ⟨_, rfl⟩
          replace hf := tx_let_e hf eu_T_12
          refine pf_X8_28 (ws' := cl_X8 g a_T (a_P 0) u_T_12 ++ (cl_X6 g a_P u_P ++ X)) S hE hw rfl rfl 0 rfl (Nat.le_of_ble_eq_true rfl) (by rw [eu_T_12]; rfl) dX8_takeNumber_64 (fun H locs hw => ?_)
          exact J67 hK10 hf hw (lv_sub hl [0] rfl)
  have L10 : ∀ (n : Nat), ∀ {u_T : S32} {H : Heap} {locs : List Loc} {ls : Array Slot}, f_X8_takeNumber_L10 fu u_P n u_T = some zu_T → WD g A s.heap (cl_X8 g a_T (a_P 0) u_T ++ (cl_X6 g a_P u_P ++ X)) H locs → lv_has ls 1 [(0, .ref (a_T 0))] → W p l e (rmH 1) s m (List.toArray [.ref (a_T 0)]) below meth c H locs 0 0 (MQ below (va_Qv (fun (_ : Unit) => True) (fun _ t => POST g A (cl_X8 g a_T (a_P 0) zu_T ++ (cl_X6 g a_P u_P ++ X)) t) A) (List.toArray [.ref (a_T 0)]) s 0 0 A) (F0 m 10 ls []) := by
    intro  n
    induction n with
    | zero => intro u_T H locs ls hf; exact absurd hf (by intro q; cases q)
    | succ n ih => exact fun hf hw hl => J10 ih hf hw hl
  unfold f_X8_takeNumber at hf
  refine lv_aload_n hx hb dX8_takeNumber_0 rfl (lv_at hl 0 rfl) ?_
  refine lv_iconst (v := 2) hx hb dX8_takeNumber_1 (by decide) ?_
  obtain ⟨u_T_1, eu_T_1⟩ : ∃ z : S32, z = up2 u_T 0 4 (2 : Int32) := ⟨_, rfl⟩
  replace hf := tx_let_e hf eu_T_1
  refine pf_X8_25 (ws' := cl_X8 g a_T (a_P 0) u_T_1 ++ (cl_X6 g a_P u_P ++ X)) S hE hw rfl rfl 0 rfl (Nat.le_of_ble_eq_true rfl) (by rw [eu_T_1]; rfl) dX8_takeNumber_2 (fun H locs hw => ?_)
  refine lv_aload_n hx hb dX8_takeNumber_5 rfl (lv_at hl 0 rfl) ?_
  refine lv_iconst (v := 0) hx hb dX8_takeNumber_6 (by decide) ?_
  obtain ⟨u_T_2, eu_T_2⟩ : ∃ z : S32, z = up2 u_T_1 0 5 (0 : Int32) := ⟨_, rfl⟩
  replace hf := tx_let_e hf eu_T_2
  refine pf_X8_28 (ws' := cl_X8 g a_T (a_P 0) u_T_2 ++ (cl_X6 g a_P u_P ++ X)) S hE hw rfl rfl 0 rfl (Nat.le_of_ble_eq_true rfl) (by rw [eu_T_2]; rfl) dX8_takeNumber_7 (fun H locs hw => ?_)
  exact L10 fu hf hw (lv_sub hl [0] rfl)
def f_X8_wordOf_J2 (fu : Nat) (K2 : Int64 → Int32 → Option (Int32)) (w0 : Int64) (w2 : Int32) : Option (Int32) := if (20 : Int32) ≤ w2 then (some (-1 : Int32)) else (tx_ck w2 20 <| if (lg_cmp (tx_words w2.toNatClampNeg) w0) = (0 : Int32) then (some w2) else (tx_let (w2 + (1 : Int32)) fun (y_4 : Int32) => K2 w0 y_4))
def f_X8_wordOf_L2 (fu : Nat) : Nat → Int64 → Int32 → Option (Int32)
  | 0 => fun _ _ => none
  | n + 1 => f_X8_wordOf_J2 fu (f_X8_wordOf_L2 fu n)
def f_X8_wordOf (fu : Nat) (x0 : Int64) : Option (Int32) := f_X8_wordOf_L2 fu fu x0 (0 : Int32)
set_option maxHeartbeats 4000000 in
set_option maxRecDepth 100000 in
theorem c_X8_wordOf {l : Launch} {g : GG} {A : Nat → Prop} {X : va_W} {fu : Nat} {x0 : Int64} {r : Int32} (hf : f_X8_wordOf fu  x0 = some r) : MI l yX8_wordOf cX8_wordOf 3 (some .int) 0 g A (X) [.long x0] r (X) := by
  refine tx_start (av := [.long x0]) (by decide) (Nat.le_of_ble_eq_true rfl) ?_
  intro p e s m below meth c ls S hr hlk hE hw hl
  have S : CallFix p m c cX8_wordOf 3 s (List.toArray [.long x0]) (Cond.code yX8_wordOf cX8_wordOf 3 (some .int) :: allW) RX8 := S
  have hx := S.1
  have hb := S.2.1
  have hown := S.2.2.2.1
  have hts : ∀ w ∈ allW, w.before (List.toArray [.long x0]) s = true := fun w h => S.2.2.2.2 w (List.mem_cons_of_mem _ h)
  have hl : lv_has ls 3 [(0, .long x0)] := hl
  have J2 : ∀ {K2 : Int64 → Int32 → Option (Int32)} (hK2 : ∀ {w0 : Int64} {w2 : Int32} {H : Heap} {locs : List Loc} {ls : Array Slot}, K2 w0 w2 = some r → WD g A s.heap (X) H locs → lv_has ls 3 [(0, .long w0), (2, .int w2)] → W p l e (rmH 0) s m (List.toArray [.long x0]) below meth c H locs 0 0 (MQ below (va_Qi (fun r2 (_ : Unit) => r2 = r) (fun _ t => POST g A (X) t) A) (List.toArray [.long x0]) s 0 0 A) (F0 m 2 ls [])), ∀ {w0 : Int64} {w2 : Int32} {H : Heap} {locs : List Loc} {ls : Array Slot}, f_X8_wordOf_J2 fu K2 w0 w2 = some r → WD g A s.heap (X) H locs → lv_has ls 3 [(0, .long w0), (2, .int w2)] → W p l e (rmH 0) s m (List.toArray [.long x0]) below meth c H locs 0 0 (MQ below (va_Qi (fun r2 (_ : Unit) => r2 = r) (fun _ t => POST g A (X) t) A) (List.toArray [.long x0]) s 0 0 A) (F0 m 2 ls []) := by
    intro K2 hK2 w0 w2 H locs ls hf hw hl
    unfold f_X8_wordOf_J2 at hf
    refine lv_iload_n hx hb dX8_wordOf_2 rfl (lv_at hl 1 rfl) ?_
    refine va_gets hx hb hE.2.1.1.1 hw.2.2 hown (hts _ kw_554) (fun _ h => h) dX8_wordOf_3 ?_
    refine va_tlen (v := 20) hx hb hE.2.1.1.2 hw.2.2 (by decide) dX8_wordOf_6 ?_
    refine lv_icmp_ge (tgt := 28) hx hb dX8_wordOf_7 (by decide) (fun h_1 => ?_) (fun h_1 => ?_)
    · replace hf := tx_pos hf h_1
      refine lv_iconst (v := -1) hx hb dX8_wordOf_28 (by decide) ?_
      obtain e0 := tx_in1 hf
      rw [← e0]
      exact tx_iret S hr hlk hw dX8_wordOf_29
    · replace hf := tx_neg hf h_1
      refine va_gets hx hb hE.2.1.1.1 hw.2.2 hown (hts _ kw_554) (fun _ h => h) dX8_wordOf_10 ?_
      refine lv_iload_n hx hb dX8_wordOf_13 rfl (lv_at hl 1 rfl) ?_
      obtain ⟨h_2, hf⟩ := tx_ck_e hf
      refine va_tl hx hb hE.2.1.1.2 hw.2.2 h_2 rfl dX8_wordOf_14 ?_
      refine lv_lload_n hx hb dX8_wordOf_15 rfl (lv_at hl 0 rfl) ?_
      refine W.lcmp hx hb dX8_wordOf_16 ?_
      refine lv_if_ne (tgt := 22) hx hb dX8_wordOf_17 (by decide) (fun h_3 => ?_) (fun h_3 => ?_)
      · replace hf := tx_neg hf h_3
        obtain ⟨y_4, ey_4⟩ : ∃ y : Int32, y = w2 + (1 : Int32) := ⟨_, rfl⟩
        replace hf := tx_let_e hf ey_4
        refine lv_iinc (v := y_4) (lv' := [(2, .int y_4), (0, .long w0)]) hx hb dX8_wordOf_22 hl (k := 1) rfl (by rw [ey_4]; rfl) (by decide) rfl (fun ls hl => ?_)
        refine lv_goto (tgt := 2) hx hb dX8_wordOf_25 (by decide) ?_
        exact hK2 hf hw (lv_sub hl [1, 0] rfl)
      · replace hf := tx_pos hf h_3
        refine lv_iload_n hx hb dX8_wordOf_20 rfl (lv_at hl 1 rfl) ?_
        obtain e0 := tx_in1 hf
        rw [← e0]
        exact tx_iret S hr hlk hw dX8_wordOf_21
  have L2 : ∀ (n : Nat), ∀ {w0 : Int64} {w2 : Int32} {H : Heap} {locs : List Loc} {ls : Array Slot}, f_X8_wordOf_L2 fu n w0 w2 = some r → WD g A s.heap (X) H locs → lv_has ls 3 [(0, .long w0), (2, .int w2)] → W p l e (rmH 0) s m (List.toArray [.long x0]) below meth c H locs 0 0 (MQ below (va_Qi (fun r2 (_ : Unit) => r2 = r) (fun _ t => POST g A (X) t) A) (List.toArray [.long x0]) s 0 0 A) (F0 m 2 ls []) := by
    intro  n
    induction n with
    | zero => intro w0 w2 H locs ls hf; exact absurd hf (by intro q; cases q)
    | succ n ih => exact fun hf hw hl => J2 ih hf hw hl
  unfold f_X8_wordOf at hf
  refine lv_iconst (v := 0) hx hb dX8_wordOf_0 (by decide) ?_
  refine lv_istore_n (lv' := [(2, .int (0 : Int32)), (0, .long x0)]) hx hb dX8_wordOf_1 rfl hl (by decide) rfl (fun ls hl => ?_)
  exact L2 fu hf hw (lv_sub hl [1, 0] rfl)
def f_X8_takeWord_J101 (fu : Nat) (u_P : S32) (u_T : S32) (w3 : Int32) (w4 : Int32) (t0 : Int32) : Option (S32) := if t0 = (-1 : Int32) then (if (6 : Int32) < w4 then (tx_let (up2 u_T 0 4 (1 : Int32)) fun (u_T_20 : S32) => some u_T_20) else (tx_let (up2 u_T 0 4 (3 : Int32)) fun (u_T_21 : S32) => tx_let (up2 u_T_21 0 5 (w3 <<< (((5 : Int32) * ((6 : Int32) - w4)) &&& 31))) fun (u_T_22 : S32) => some u_T_22)) else (tx_let (up2 u_T 0 4 (4 : Int32)) fun (u_T_23 : S32) => tx_let (up2 u_T_23 0 5 t0) fun (u_T_24 : S32) => some u_T_24)
def f_X8_takeWord_J75 (fu : Nat) (u_P : S32) (u_T : S32) (w1 : Int64) (w3 : Int32) : Option (S32) := tx_let ((u_T 0 2) - (u_T 0 3)) fun (y_14 : Int32) => if (7 : Int32) < y_14 then (f_X8_takeWord_J101 fu u_P u_T w3 y_14 (-1 : Int32)) else (tx_b1 (f_X8_wordOf fu w1) fun (r_17 : Int32) => f_X8_takeWord_J101 fu u_P u_T w3 y_14 r_17)
def f_X8_takeWord_J4 (fu : Nat) (u_P : S32) (K4 : S32 → Int64 → Int32 → Option (S32)) (u_T : S32) (w1 : Int64) (w3 : Int32) : Option (S32) := if (u_T 0 1) ≤ (u_T 0 2) then (f_X8_takeWord_J75 fu u_P u_T w1 w3) else (tx_b1 (f_X8_signAt fu u_T u_P (u_T 0 2)) fun (r_3 : Int32) => tx_b1 (f_X8_isLetter fu r_3) fun (r_5 : Int32) => if r_5 = (0 : Int32) then (f_X8_takeWord_J75 fu u_P u_T w1 w3) else (tx_b1 (f_X8_signAt fu u_T u_P (u_T 0 2)) fun (r_8 : Int32) => tx_let ((w1 <<< ((8 : Int32).toInt64 &&& 63)) ||| (r_8.toInt64)) fun (y_9 : Int64) => tx_b1 (f_X8_signAt fu u_T u_P (u_T 0 2)) fun (r_11 : Int32) => tx_let ((w3 <<< ((5 : Int32) &&& 31)) ||| ((r_11 - (97 : Int32)) + (1 : Int32))) fun (y_12 : Int32) => tx_let (up2 u_T 0 2 ((u_T 0 2) + (1 : Int32))) fun (u_T_13 : S32) => K4 u_T_13 y_9 y_12))
def f_X8_takeWord_L4 (fu : Nat) (u_P : S32) : Nat → S32 → Int64 → Int32 → Option (S32)
  | 0 => fun _ _ _ => none
  | n + 1 => f_X8_takeWord_J4 fu u_P (f_X8_takeWord_L4 fu u_P n)
def f_X8_takeWord (fu : Nat) (u_P : S32) (u_T : S32) : Option (S32) := f_X8_takeWord_L4 fu u_P fu u_T (0 : Int64) (0 : Int32)
set_option maxHeartbeats 4000000 in
set_option maxRecDepth 100000 in
theorem c_X8_takeWord {l : Launch} {g : GG} {A : Nat → Prop} {X : va_W} {fu : Nat} {a_T a_P : Nat → Nat} {u_T : S32} {u_P : S32} {zu_T : S32} (hf : f_X8_takeWord fu u_P u_T = some zu_T) : MV l yX8_takeWord cX8_takeWord 6 none 1 g A (cl_X8 g a_T (a_P 0) u_T ++ (cl_X6 g a_P u_P ++ X)) [.ref (a_T 0)] (cl_X8 g a_T (a_P 0) zu_T ++ (cl_X6 g a_P u_P ++ X)) := by
  refine tx_start (av := [.ref (a_T 0)]) (by decide) (Nat.le_of_ble_eq_true rfl) ?_
  intro p e s m below meth c ls S hr hlk hE hw hl
  have S : CallFix p m c cX8_takeWord 6 s (List.toArray [.ref (a_T 0)]) (Cond.code yX8_takeWord cX8_takeWord 6 none :: allW) RX8 := S
  have hx := S.1
  have hb := S.2.1
  have hown := S.2.2.2.1
  have hts : ∀ w ∈ allW, w.before (List.toArray [.ref (a_T 0)]) s = true := fun w h => S.2.2.2.2 w (List.mem_cons_of_mem _ h)
  have hl : lv_has ls 6 [(0, .ref (a_T 0))] := hl
  have J101 : ∀ {u_T : S32} {w3 : Int32} {w4 : Int32} {t0 : Int32} {H : Heap} {locs : List Loc} {ls : Array Slot}, f_X8_takeWord_J101 fu u_P u_T w3 w4 t0 = some zu_T → WD g A s.heap (cl_X8 g a_T (a_P 0) u_T ++ (cl_X6 g a_P u_P ++ X)) H locs → lv_has ls 6 [(0, .ref (a_T 0)), (3, .int w3), (4, .int w4)] → W p l e (rmH 1) s m (List.toArray [.ref (a_T 0)]) below meth c H locs 0 0 (MQ below (va_Qv (fun (_ : Unit) => True) (fun _ t => POST g A (cl_X8 g a_T (a_P 0) zu_T ++ (cl_X6 g a_P u_P ++ X)) t) A) (List.toArray [.ref (a_T 0)]) s 0 0 A) (F0 m 101 ls [.int t0]) := by
    intro u_T w3 w4 t0 H locs ls hf hw hl
    unfold f_X8_takeWord_J101 at hf
    refine lv_istore (lv' := [(5, .int t0), (0, .ref (a_T 0)), (3, .int w3), (4, .int w4)]) hx hb dX8_takeWord_101 hl (by decide) rfl (fun ls hl => ?_)
    refine lv_iload hx hb dX8_takeWord_103 (lv_at hl 0 rfl) ?_
    refine lv_iconst (v := -1) hx hb dX8_takeWord_105 (by decide) ?_
    refine lv_icmp_eq (tgt := 123) hx hb dX8_takeWord_106 (by decide) (fun h_18 => ?_) (fun h_18 => ?_)
    · replace hf := tx_pos hf h_18
      refine lv_iload hx hb dX8_takeWord_123 (lv_at hl 3 rfl) ?_
      refine lv_bipush (v := 6) hx hb dX8_takeWord_125 (by decide) ?_
      refine lv_icmp_gt (tgt := 151) hx hb dX8_takeWord_127 (by decide) (fun h_19 => ?_) (fun h_19 => ?_)
      · replace hf := tx_pos hf h_19
        refine lv_aload_n hx hb dX8_takeWord_151 rfl (lv_at hl 1 rfl) ?_
        refine lv_iconst (v := 1) hx hb dX8_takeWord_152 (by decide) ?_
        obtain ⟨u_T_20, eu_T_20⟩ : ∃ z : S32, z = up2 u_T 0 4 (1 : Int32) := ⟨_, rfl⟩
        replace hf := tx_let_e hf eu_T_20
        refine pf_X8_25 (ws' := cl_X8 g a_T (a_P 0) u_T_20 ++ (cl_X6 g a_P u_P ++ X)) S hE hw rfl rfl 0 rfl (Nat.le_of_ble_eq_true rfl) (by rw [eu_T_20]; rfl) dX8_takeWord_153 (fun H locs hw => ?_)
        obtain e0 := tx_in1 hf
        rw [← e0]
        exact tx_vret S hr hlk hw dX8_takeWord_156
      · replace hf := tx_neg hf h_19
        refine lv_aload_n hx hb dX8_takeWord_130 rfl (lv_at hl 1 rfl) ?_
        refine lv_iconst (v := 3) hx hb dX8_takeWord_131 (by decide) ?_
        obtain ⟨u_T_21, eu_T_21⟩ : ∃ z : S32, z = up2 u_T 0 4 (3 : Int32) := ⟨_, rfl⟩
        replace hf := tx_let_e hf eu_T_21
        refine pf_X8_25 (ws' := cl_X8 g a_T (a_P 0) u_T_21 ++ (cl_X6 g a_P u_P ++ X)) S hE hw rfl rfl 0 rfl (Nat.le_of_ble_eq_true rfl) (by rw [eu_T_21]; rfl) dX8_takeWord_132 (fun H locs hw => ?_)
        refine lv_aload_n hx hb dX8_takeWord_135 rfl (lv_at hl 1 rfl) ?_
        refine lv_iload_n hx hb dX8_takeWord_136 rfl (lv_at hl 2 rfl) ?_
        refine lv_iconst (v := 5) hx hb dX8_takeWord_137 (by decide) ?_
        refine lv_bipush (v := 6) hx hb dX8_takeWord_138 (by decide) ?_
        refine lv_iload hx hb dX8_takeWord_140 (lv_at hl 3 rfl) ?_
        refine lv_isub hx hb dX8_takeWord_142 ?_
        refine lv_imul hx hb dX8_takeWord_143 ?_
        refine lv_ishl hx hb dX8_takeWord_144 ?_
        obtain ⟨u_T_22, eu_T_22⟩ : ∃ z : S32, z = up2 u_T_21 0 5 (w3 <<< (((5 : Int32) * ((6 : Int32) - w4)) &&& 31)) := ⟨_, rfl⟩
        replace hf := tx_let_e hf eu_T_22
        refine pf_X8_28 (ws' := cl_X8 g a_T (a_P 0) u_T_22 ++ (cl_X6 g a_P u_P ++ X)) S hE hw rfl rfl 0 rfl (Nat.le_of_ble_eq_true rfl) (by rw [eu_T_22]; rfl) dX8_takeWord_145 (fun H locs hw => ?_)
        refine lv_goto (tgt := 156) hx hb dX8_takeWord_148 (by decide) ?_
        obtain e0 := tx_in1 hf
        rw [← e0]
        exact tx_vret S hr hlk hw dX8_takeWord_156
    · replace hf := tx_neg hf h_18
      refine lv_aload_n hx hb dX8_takeWord_109 rfl (lv_at hl 1 rfl) ?_
      refine lv_iconst (v := 4) hx hb dX8_takeWord_110 (by decide) ?_
      obtain ⟨u_T_23, eu_T_23⟩ : ∃ z : S32, z = up2 u_T 0 4 (4 : Int32) := ⟨_, rfl⟩
      replace hf := tx_let_e hf eu_T_23
      refine pf_X8_25 (ws' := cl_X8 g a_T (a_P 0) u_T_23 ++ (cl_X6 g a_P u_P ++ X)) S hE hw rfl rfl 0 rfl (Nat.le_of_ble_eq_true rfl) (by rw [eu_T_23]; rfl) dX8_takeWord_111 (fun H locs hw => ?_)
      refine lv_aload_n hx hb dX8_takeWord_114 rfl (lv_at hl 1 rfl) ?_
      refine lv_iload hx hb dX8_takeWord_115 (lv_at hl 0 rfl) ?_
      obtain ⟨u_T_24, eu_T_24⟩ : ∃ z : S32, z = up2 u_T_23 0 5 t0 := ⟨_, rfl⟩
      replace hf := tx_let_e hf eu_T_24
      refine pf_X8_28 (ws' := cl_X8 g a_T (a_P 0) u_T_24 ++ (cl_X6 g a_P u_P ++ X)) S hE hw rfl rfl 0 rfl (Nat.le_of_ble_eq_true rfl) (by rw [eu_T_24]; rfl) dX8_takeWord_117 (fun H locs hw => ?_)
      refine lv_goto (tgt := 156) hx hb dX8_takeWord_120 (by decide) ?_
      obtain e0 := tx_in1 hf
      rw [← e0]
      exact tx_vret S hr hlk hw dX8_takeWord_156
  have J75 : ∀ {u_T : S32} {w1 : Int64} {w3 : Int32} {H : Heap} {locs : List Loc} {ls : Array Slot}, f_X8_takeWord_J75 fu u_P u_T w1 w3 = some zu_T → WD g A s.heap (cl_X8 g a_T (a_P 0) u_T ++ (cl_X6 g a_P u_P ++ X)) H locs → lv_has ls 6 [(0, .ref (a_T 0)), (1, .long w1), (3, .int w3)] → W p l e (rmH 1) s m (List.toArray [.ref (a_T 0)]) below meth c H locs 0 0 (MQ below (va_Qv (fun (_ : Unit) => True) (fun _ t => POST g A (cl_X8 g a_T (a_P 0) zu_T ++ (cl_X6 g a_P u_P ++ X)) t) A) (List.toArray [.ref (a_T 0)]) s 0 0 A) (F0 m 75 ls []) := by
    intro u_T w1 w3 H locs ls hf hw hl
    unfold f_X8_takeWord_J75 at hf
    refine lv_aload_n hx hb dX8_takeWord_75 rfl (lv_at hl 0 rfl) ?_
    refine gf_X8_19 S hE hw 0 rfl rfl dX8_takeWord_76 ?_
    refine lv_aload_n hx hb dX8_takeWord_79 rfl (lv_at hl 0 rfl) ?_
    refine gf_X8_35 S hE hw 0 rfl rfl dX8_takeWord_80 ?_
    refine lv_isub hx hb dX8_takeWord_83 ?_
    refine lv_topi (fun y_14 ey_14 => ?_)
    replace hf := tx_let_e hf ey_14
    refine lv_istore (lv' := [(4, .int y_14), (0, .ref (a_T 0)), (1, .long w1), (3, .int w3)]) hx hb dX8_takeWord_84 hl (by decide) rfl (fun ls hl => ?_)
    refine lv_iload hx hb dX8_takeWord_86 (lv_at hl 0 rfl) ?_
    refine lv_bipush (v := 7) hx hb dX8_takeWord_88 (by decide) ?_
    refine lv_icmp_gt (tgt := 100) hx hb dX8_takeWord_90 (by decide) (fun h_15 => ?_) (fun h_15 => ?_)
    · replace hf := tx_pos hf h_15
      refine lv_iconst (v := -1) hx hb dX8_takeWord_100 (by decide) ?_
      exact J101 hf hw (lv_sub hl [1, 3, 0] rfl)
    · replace hf := tx_neg hf h_15
      refine lv_lload_n hx hb dX8_takeWord_93 rfl (lv_at hl 2 rfl) ?_
      obtain ⟨r_17, h_16, hf⟩ := tx_b1_e hf
      refine tx_ci hw (tx_runS S hE hw (c_X8_wordOf h_16) lk_X8_62 rfl hl.1 (rest := []) rfl (Nat.le_of_ble_eq_true rfl) ⟨by decide, by decide⟩ dX8_takeWord_94 ⟨Nat.zero_le _, Nat.zero_le _⟩) (fun H locs hw => ?_)
      refine lv_goto (tgt := 101) hx hb dX8_takeWord_97 (by decide) ?_
      exact J101 hf hw (lv_sub hl [1, 3, 0] rfl)
  have J4 : ∀ {K4 : S32 → Int64 → Int32 → Option (S32)} (hK4 : ∀ {u_T : S32} {w1 : Int64} {w3 : Int32} {H : Heap} {locs : List Loc} {ls : Array Slot}, K4 u_T w1 w3 = some zu_T → WD g A s.heap (cl_X8 g a_T (a_P 0) u_T ++ (cl_X6 g a_P u_P ++ X)) H locs → lv_has ls 6 [(0, .ref (a_T 0)), (1, .long w1), (3, .int w3)] → W p l e (rmH 1) s m (List.toArray [.ref (a_T 0)]) below meth c H locs 0 0 (MQ below (va_Qv (fun (_ : Unit) => True) (fun _ t => POST g A (cl_X8 g a_T (a_P 0) zu_T ++ (cl_X6 g a_P u_P ++ X)) t) A) (List.toArray [.ref (a_T 0)]) s 0 0 A) (F0 m 4 ls [])), ∀ {u_T : S32} {w1 : Int64} {w3 : Int32} {H : Heap} {locs : List Loc} {ls : Array Slot}, f_X8_takeWord_J4 fu u_P K4 u_T w1 w3 = some zu_T → WD g A s.heap (cl_X8 g a_T (a_P 0) u_T ++ (cl_X6 g a_P u_P ++ X)) H locs → lv_has ls 6 [(0, .ref (a_T 0)), (1, .long w1), (3, .int w3)] → W p l e (rmH 1) s m (List.toArray [.ref (a_T 0)]) below meth c H locs 0 0 (MQ below (va_Qv (fun (_ : Unit) => True) (fun _ t => POST g A (cl_X8 g a_T (a_P 0) zu_T ++ (cl_X6 g a_P u_P ++ X)) t) A) (List.toArray [.ref (a_T 0)]) s 0 0 A) (F0 m 4 ls []) := by
    intro K4 hK4 u_T w1 w3 H locs ls hf hw hl
    unfold f_X8_takeWord_J4 at hf
    refine lv_aload_n hx hb dX8_takeWord_4 rfl (lv_at hl 0 rfl) ?_
    refine gf_X8_19 S hE hw 0 rfl rfl dX8_takeWord_5 ?_
    refine lv_aload_n hx hb dX8_takeWord_8 rfl (lv_at hl 0 rfl) ?_
    refine gf_X8_15 S hE hw 0 rfl rfl dX8_takeWord_9 ?_
    refine lv_icmp_ge (tgt := 75) hx hb dX8_takeWord_12 (by decide) (fun h_1 => ?_) (fun h_1 => ?_)
    · replace hf := tx_pos hf h_1
      exact J75 hf hw (lv_sub hl [0, 1, 2] rfl)
    · replace hf := tx_neg hf h_1
      refine lv_aload_n hx hb dX8_takeWord_15 rfl (lv_at hl 0 rfl) ?_
      refine lv_aload_n hx hb dX8_takeWord_16 rfl (lv_at hl 0 rfl) ?_
      refine gf_X8_19 S hE hw 0 rfl rfl dX8_takeWord_17 ?_
      obtain ⟨r_3, h_2, hf⟩ := tx_b1_e hf
      refine tx_ci hw (tx_runV S hE hw (c_X8_signAt h_2) lk_X8_31 (q0 := 0) rfl rfl rfl hl.1 (rest := []) rfl (Nat.le_of_ble_eq_true rfl) ⟨by decide, by decide⟩ dX8_takeWord_20 ⟨Nat.zero_le _, Nat.zero_le _⟩) (fun H locs hw => ?_)
      obtain ⟨r_5, h_4, hf⟩ := tx_b1_e hf
      refine tx_ci hw (tx_runS S hE hw (c_X8_isLetter h_4) lk_X8_38 rfl hl.1 (rest := []) rfl (Nat.le_of_ble_eq_true rfl) ⟨by decide, by decide⟩ dX8_takeWord_23 ⟨Nat.zero_le _, Nat.zero_le _⟩) (fun H locs hw => ?_)
      refine lv_if_eq (tgt := 75) hx hb dX8_takeWord_26 (by decide) (fun h_6 => ?_) (fun h_6 => ?_)
      · replace hf := tx_pos hf h_6
        exact J75 hf hw (lv_sub hl [0, 1, 2] rfl)
      · replace hf := tx_neg hf h_6
        refine lv_lload_n hx hb dX8_takeWord_29 rfl (lv_at hl 1 rfl) ?_
        refine lv_bipush (v := 8) hx hb dX8_takeWord_30 (by decide) ?_
        refine lv_lshl (v := w1 <<< ((8 : Int32).toInt64 &&& 63)) hx hb dX8_takeWord_32 rfl ?_
        refine lv_aload_n hx hb dX8_takeWord_33 rfl (lv_at hl 0 rfl) ?_
        refine lv_aload_n hx hb dX8_takeWord_34 rfl (lv_at hl 0 rfl) ?_
        refine gf_X8_19 S hE hw 0 rfl rfl dX8_takeWord_35 ?_
        obtain ⟨r_8, h_7, hf⟩ := tx_b1_e hf
        refine tx_ci hw (tx_runV S hE hw (c_X8_signAt h_7) lk_X8_31 (q0 := 0) rfl rfl rfl hl.1 (rest := [.long (w1 <<< ((8 : Int32).toInt64 &&& 63))]) rfl (Nat.le_of_ble_eq_true rfl) ⟨by decide, by decide⟩ dX8_takeWord_38 ⟨Nat.zero_le _, Nat.zero_le _⟩) (fun H locs hw => ?_)
        refine lv_i2l (v := r_8.toInt64) hx hb dX8_takeWord_41 rfl ?_
        refine lv_lor hx hb dX8_takeWord_42 ?_
        refine lv_topl (fun y_9 ey_9 => ?_)
        replace hf := tx_let_e hf ey_9
        refine lv_lstore_n (lv' := [(1, .long y_9), (0, .ref (a_T 0)), (3, .int w3)]) hx hb dX8_takeWord_43 rfl hl (by decide) rfl (fun ls hl => ?_)
        refine lv_iload_n hx hb dX8_takeWord_44 rfl (lv_at hl 2 rfl) ?_
        refine lv_iconst (v := 5) hx hb dX8_takeWord_45 (by decide) ?_
        refine lv_ishl hx hb dX8_takeWord_46 ?_
        refine lv_aload_n hx hb dX8_takeWord_47 rfl (lv_at hl 1 rfl) ?_
        refine lv_aload_n hx hb dX8_takeWord_48 rfl (lv_at hl 1 rfl) ?_
        refine gf_X8_19 S hE hw 0 rfl rfl dX8_takeWord_49 ?_
        obtain ⟨r_11, h_10, hf⟩ := tx_b1_e hf
        refine tx_ci hw (tx_runV S hE hw (c_X8_signAt h_10) lk_X8_31 (q0 := 0) rfl rfl rfl hl.1 (rest := [.int (w3 <<< ((5 : Int32) &&& 31))]) rfl (Nat.le_of_ble_eq_true rfl) ⟨by decide, by decide⟩ dX8_takeWord_52 ⟨Nat.zero_le _, Nat.zero_le _⟩) (fun H locs hw => ?_)
        refine lv_bipush (v := 97) hx hb dX8_takeWord_55 (by decide) ?_
        refine lv_isub hx hb dX8_takeWord_57 ?_
        refine lv_iconst (v := 1) hx hb dX8_takeWord_58 (by decide) ?_
        refine lv_iadd hx hb dX8_takeWord_59 ?_
        refine lv_ior hx hb dX8_takeWord_60 ?_
        refine lv_topi (fun y_12 ey_12 => ?_)
        replace hf := tx_let_e hf ey_12
        refine lv_istore_n (lv' := [(3, .int y_12), (1, .long y_9), (0, .ref (a_T 0))]) hx hb dX8_takeWord_61 rfl hl (by decide) rfl (fun ls hl => ?_)
        refine lv_aload_n hx hb dX8_takeWord_62 rfl (lv_at hl 2 rfl) ?_
        refine lv_dup hx hb dX8_takeWord_63 rfl ?_
        refine gf_X8_19 S hE hw 0 rfl rfl dX8_takeWord_64 ?_
        refine lv_iconst (v := 1) hx hb dX8_takeWord_67 (by decide) ?_
        refine lv_iadd hx hb dX8_takeWord_68 ?_
        obtain ⟨u_T_13, eu_T_13⟩ : ∃ z : S32, z = up2 u_T 0 2 ((u_T 0 2) + (1 : Int32)) := ⟨_, rfl⟩
        replace hf := tx_let_e hf eu_T_13
        refine pf_X8_19 (ws' := cl_X8 g a_T (a_P 0) u_T_13 ++ (cl_X6 g a_P u_P ++ X)) S hE hw rfl rfl 0 rfl (Nat.le_of_ble_eq_true rfl) (by rw [eu_T_13]; rfl) dX8_takeWord_69 (fun H locs hw => ?_)
        refine lv_goto (tgt := 4) hx hb dX8_takeWord_72 (by decide) ?_
        exact hK4 hf hw (lv_sub hl [2, 1, 0] rfl)
  have L4 : ∀ (n : Nat), ∀ {u_T : S32} {w1 : Int64} {w3 : Int32} {H : Heap} {locs : List Loc} {ls : Array Slot}, f_X8_takeWord_L4 fu u_P n u_T w1 w3 = some zu_T → WD g A s.heap (cl_X8 g a_T (a_P 0) u_T ++ (cl_X6 g a_P u_P ++ X)) H locs → lv_has ls 6 [(0, .ref (a_T 0)), (1, .long w1), (3, .int w3)] → W p l e (rmH 1) s m (List.toArray [.ref (a_T 0)]) below meth c H locs 0 0 (MQ below (va_Qv (fun (_ : Unit) => True) (fun _ t => POST g A (cl_X8 g a_T (a_P 0) zu_T ++ (cl_X6 g a_P u_P ++ X)) t) A) (List.toArray [.ref (a_T 0)]) s 0 0 A) (F0 m 4 ls []) := by
    intro  n
    induction n with
    | zero => intro u_T w1 w3 H locs ls hf; exact absurd hf (by intro q; cases q)
    | succ n ih => exact fun hf hw hl => J4 ih hf hw hl
  unfold f_X8_takeWord at hf
  refine lv_lconst (v := 0) hx hb dX8_takeWord_0 (by decide) ?_
  refine lv_lstore_n (lv' := [(1, .long (0 : Int64)), (0, .ref (a_T 0))]) hx hb dX8_takeWord_1 rfl hl (by decide) rfl (fun ls hl => ?_)
  refine lv_iconst (v := 0) hx hb dX8_takeWord_2 (by decide) ?_
  refine lv_istore_n (lv' := [(3, .int (0 : Int32)), (1, .long (0 : Int64)), (0, .ref (a_T 0))]) hx hb dX8_takeWord_3 rfl hl (by decide) rfl (fun ls hl => ?_)
  exact L4 fu hf hw (lv_sub hl [2, 1, 0] rfl)
def f_X8_advance_J37 (fu : Nat) (u_P : S32) (K0 : S32 → Option (S32)) (u_T : S32) : Option (S32) := tx_let (up2 u_T 0 2 ((u_T 0 2) + (1 : Int32))) fun (u_T_25 : S32) => K0 u_T_25
def f_X8_advance_J50 (fu : Nat) (u_P : S32) (u_T : S32) : Option (S32) := tx_let (up2 u_T 0 3 (u_T 0 2)) fun (u_T_8 : S32) => tx_b1 (f_X8_signAt fu u_T_8 u_P (u_T_8 0 2)) fun (r_10 : Int32) => if (u_T_8 0 2) < (u_T_8 0 1) then (tx_b1 (f_X8_isLetter fu r_10) fun (r_13 : Int32) => if r_13 = (0 : Int32) then (tx_b1 (f_X8_isDigit fu r_10) fun (r_16 : Int32) => if r_16 = (0 : Int32) then (tx_b1 (f_X8_takeSign fu u_P u_T_8 r_10) fun (u_T_19 : S32) => some u_T_19) else (tx_b1 (f_X8_takeNumber fu u_P u_T_8) fun (u_T_21 : S32) => some u_T_21)) else (tx_b1 (f_X8_takeWord fu u_P u_T_8) fun (u_T_23 : S32) => some u_T_23)) else (tx_let (up2 u_T_8 0 4 (0 : Int32)) fun (u_T_24 : S32) => some u_T_24)
def f_X8_advance_J0 (fu : Nat) (u_P : S32) (K0 : S32 → Option (S32)) (u_T : S32) : Option (S32) := if (u_T 0 1) ≤ (u_T 0 2) then (f_X8_advance_J50 fu u_P u_T) else (tx_b1 (f_X8_signAt fu u_T u_P (u_T 0 2)) fun (r_3 : Int32) => if r_3 = (10 : Int32) then (f_X8_advance_J37 fu u_P K0 u_T) else (tx_b1 (f_X8_signAt fu u_T u_P (u_T 0 2)) fun (r_6 : Int32) => if r_6 = (32 : Int32) then (f_X8_advance_J37 fu u_P K0 u_T) else (f_X8_advance_J50 fu u_P u_T)))
def f_X8_advance_L0 (fu : Nat) (u_P : S32) : Nat → S32 → Option (S32)
  | 0 => fun _ => none
  | n + 1 => f_X8_advance_J0 fu u_P (f_X8_advance_L0 fu u_P n)
def f_X8_advance (fu : Nat) (u_P : S32) (u_T : S32) : Option (S32) := f_X8_advance_L0 fu u_P fu u_T
set_option maxHeartbeats 4000000 in
set_option maxRecDepth 100000 in
theorem c_X8_advance {l : Launch} {g : GG} {A : Nat → Prop} {X : va_W} {fu : Nat} {a_T a_P : Nat → Nat} {u_T : S32} {u_P : S32} {zu_T : S32} (hf : f_X8_advance fu u_P u_T = some zu_T) : MV l yX8_advance cX8_advance 2 none 2 g A (cl_X8 g a_T (a_P 0) u_T ++ (cl_X6 g a_P u_P ++ X)) [.ref (a_T 0)] (cl_X8 g a_T (a_P 0) zu_T ++ (cl_X6 g a_P u_P ++ X)) := by
  refine tx_start (av := [.ref (a_T 0)]) (by decide) (Nat.le_of_ble_eq_true rfl) ?_
  intro p e s m below meth c ls S hr hlk hE hw hl
  have S : CallFix p m c cX8_advance 2 s (List.toArray [.ref (a_T 0)]) (Cond.code yX8_advance cX8_advance 2 none :: allW) RX8 := S
  have hx := S.1
  have hb := S.2.1
  have hown := S.2.2.2.1
  have hts : ∀ w ∈ allW, w.before (List.toArray [.ref (a_T 0)]) s = true := fun w h => S.2.2.2.2 w (List.mem_cons_of_mem _ h)
  have hl : lv_has ls 2 [(0, .ref (a_T 0))] := hl
  have J37 : ∀ {K0 : S32 → Option (S32)} (hK0 : ∀ {u_T : S32} {H : Heap} {locs : List Loc} {ls : Array Slot}, K0 u_T = some zu_T → WD g A s.heap (cl_X8 g a_T (a_P 0) u_T ++ (cl_X6 g a_P u_P ++ X)) H locs → lv_has ls 2 [(0, .ref (a_T 0))] → W p l e (rmH 2) s m (List.toArray [.ref (a_T 0)]) below meth c H locs 0 0 (MQ below (va_Qv (fun (_ : Unit) => True) (fun _ t => POST g A (cl_X8 g a_T (a_P 0) zu_T ++ (cl_X6 g a_P u_P ++ X)) t) A) (List.toArray [.ref (a_T 0)]) s 0 0 A) (F0 m 0 ls [])), ∀ {u_T : S32} {H : Heap} {locs : List Loc} {ls : Array Slot}, f_X8_advance_J37 fu u_P K0 u_T = some zu_T → WD g A s.heap (cl_X8 g a_T (a_P 0) u_T ++ (cl_X6 g a_P u_P ++ X)) H locs → lv_has ls 2 [(0, .ref (a_T 0))] → W p l e (rmH 2) s m (List.toArray [.ref (a_T 0)]) below meth c H locs 0 0 (MQ below (va_Qv (fun (_ : Unit) => True) (fun _ t => POST g A (cl_X8 g a_T (a_P 0) zu_T ++ (cl_X6 g a_P u_P ++ X)) t) A) (List.toArray [.ref (a_T 0)]) s 0 0 A) (F0 m 37 ls []) := by
    intro K0 hK0 u_T H locs ls hf hw hl
    unfold f_X8_advance_J37 at hf
    refine lv_aload_n hx hb dX8_advance_37 rfl (lv_at hl 0 rfl) ?_
    refine lv_dup hx hb dX8_advance_38 rfl ?_
    refine gf_X8_19 S hE hw 0 rfl rfl dX8_advance_39 ?_
    refine lv_iconst (v := 1) hx hb dX8_advance_42 (by decide) ?_
    refine lv_iadd hx hb dX8_advance_43 ?_
    obtain ⟨u_T_25, eu_T_25⟩ : ∃ z : S32, z = up2 u_T 0 2 ((u_T 0 2) + (1 : Int32)) := ⟨_, rfl⟩
    replace hf := tx_let_e hf eu_T_25
    refine pf_X8_19 (ws' := cl_X8 g a_T (a_P 0) u_T_25 ++ (cl_X6 g a_P u_P ++ X)) S hE hw rfl rfl 0 rfl (Nat.le_of_ble_eq_true rfl) (by rw [eu_T_25]; rfl) dX8_advance_44 (fun H locs hw => ?_)
    refine lv_goto (tgt := 0) hx hb dX8_advance_47 (by decide) ?_
    exact hK0 hf hw (lv_sub hl [0] rfl)
  have J50 : ∀ {u_T : S32} {H : Heap} {locs : List Loc} {ls : Array Slot}, f_X8_advance_J50 fu u_P u_T = some zu_T → WD g A s.heap (cl_X8 g a_T (a_P 0) u_T ++ (cl_X6 g a_P u_P ++ X)) H locs → lv_has ls 2 [(0, .ref (a_T 0))] → W p l e (rmH 2) s m (List.toArray [.ref (a_T 0)]) below meth c H locs 0 0 (MQ below (va_Qv (fun (_ : Unit) => True) (fun _ t => POST g A (cl_X8 g a_T (a_P 0) zu_T ++ (cl_X6 g a_P u_P ++ X)) t) A) (List.toArray [.ref (a_T 0)]) s 0 0 A) (F0 m 50 ls []) := by
    intro u_T H locs ls hf hw hl
    unfold f_X8_advance_J50 at hf
    refine lv_aload_n hx hb dX8_advance_50 rfl (lv_at hl 0 rfl) ?_
    refine lv_aload_n hx hb dX8_advance_51 rfl (lv_at hl 0 rfl) ?_
    refine gf_X8_19 S hE hw 0 rfl rfl dX8_advance_52 ?_
    obtain ⟨u_T_8, eu_T_8⟩ : ∃ z : S32, z = up2 u_T 0 3 (u_T 0 2) := ⟨_, rfl⟩
    replace hf := tx_let_e hf eu_T_8
    refine pf_X8_35 (ws' := cl_X8 g a_T (a_P 0) u_T_8 ++ (cl_X6 g a_P u_P ++ X)) S hE hw rfl rfl 0 rfl (Nat.le_of_ble_eq_true rfl) (by rw [eu_T_8]; rfl) dX8_advance_55 (fun H locs hw => ?_)
    refine lv_aload_n hx hb dX8_advance_58 rfl (lv_at hl 0 rfl) ?_
    refine lv_aload_n hx hb dX8_advance_59 rfl (lv_at hl 0 rfl) ?_
    refine gf_X8_19 S hE hw 0 rfl rfl dX8_advance_60 ?_
    obtain ⟨r_10, h_9, hf⟩ := tx_b1_e hf
    refine tx_ci hw (tx_runV S hE hw (c_X8_signAt h_9) lk_X8_31 (q0 := 0) rfl rfl rfl hl.1 (rest := []) rfl (Nat.le_of_ble_eq_true rfl) ⟨by decide, by decide⟩ dX8_advance_63 ⟨Nat.zero_le _, Nat.zero_le _⟩) (fun H locs hw => ?_)
    refine lv_istore_n (lv' := [(1, .int r_10), (0, .ref (a_T 0))]) hx hb dX8_advance_66 rfl hl (by decide) rfl (fun ls hl => ?_)
    refine lv_aload_n hx hb dX8_advance_67 rfl (lv_at hl 1 rfl) ?_
    refine gf_X8_19 S hE hw 0 rfl rfl dX8_advance_68 ?_
    refine lv_aload_n hx hb dX8_advance_71 rfl (lv_at hl 1 rfl) ?_
    refine gf_X8_15 S hE hw 0 rfl rfl dX8_advance_72 ?_
    refine lv_icmp_lt (tgt := 86) hx hb dX8_advance_75 (by decide) (fun h_11 => ?_) (fun h_11 => ?_)
    · replace hf := tx_pos hf h_11
      refine lv_iload_n hx hb dX8_advance_86 rfl (lv_at hl 0 rfl) ?_
      obtain ⟨r_13, h_12, hf⟩ := tx_b1_e hf
      refine tx_ci hw (tx_runS S hE hw (c_X8_isLetter h_12) lk_X8_38 rfl hl.1 (rest := []) rfl (Nat.le_of_ble_eq_true rfl) ⟨by decide, by decide⟩ dX8_advance_87 ⟨Nat.zero_le _, Nat.zero_le _⟩) (fun H locs hw => ?_)
      refine lv_if_eq (tgt := 100) hx hb dX8_advance_90 (by decide) (fun h_14 => ?_) (fun h_14 => ?_)
      · replace hf := tx_pos hf h_14
        refine lv_iload_n hx hb dX8_advance_100 rfl (lv_at hl 0 rfl) ?_
        obtain ⟨r_16, h_15, hf⟩ := tx_b1_e hf
        refine tx_ci hw (tx_runS S hE hw (c_X8_isDigit h_15) lk_X8_45 rfl hl.1 (rest := []) rfl (Nat.le_of_ble_eq_true rfl) ⟨by decide, by decide⟩ dX8_advance_101 ⟨Nat.zero_le _, Nat.zero_le _⟩) (fun H locs hw => ?_)
        refine lv_if_eq (tgt := 114) hx hb dX8_advance_104 (by decide) (fun h_17 => ?_) (fun h_17 => ?_)
        · replace hf := tx_pos hf h_17
          refine lv_aload_n hx hb dX8_advance_114 rfl (lv_at hl 1 rfl) ?_
          refine lv_iload_n hx hb dX8_advance_115 rfl (lv_at hl 0 rfl) ?_
          obtain ⟨u_T_19, h_18, hf⟩ := tx_b1_e hf
          refine tx_cv hw (tx_runV S hE hw (c_X8_takeSign h_18) lk_X8_51 (q0 := 0) rfl rfl rfl hl.1 (rest := []) rfl (Nat.le_of_ble_eq_true rfl) ⟨by decide, by decide⟩ dX8_advance_116 ⟨Nat.zero_le _, Nat.zero_le _⟩) (fun H locs hw => ?_)
          obtain e0 := tx_in1 hf
          rw [← e0]
          exact tx_vret S hr hlk hw dX8_advance_119
        · replace hf := tx_neg hf h_17
          refine lv_aload_n hx hb dX8_advance_107 rfl (lv_at hl 1 rfl) ?_
          obtain ⟨u_T_21, h_20, hf⟩ := tx_b1_e hf
          refine tx_cv hw (tx_runV S hE hw (c_X8_takeNumber h_20) lk_X8_48 (q0 := 0) rfl rfl rfl hl.1 (rest := []) rfl (Nat.le_of_ble_eq_true rfl) ⟨by decide, by decide⟩ dX8_advance_108 ⟨Nat.zero_le _, Nat.zero_le _⟩) (fun H locs hw => ?_)
          refine lv_goto (tgt := 119) hx hb dX8_advance_111 (by decide) ?_
          obtain e0 := tx_in1 hf
          rw [← e0]
          exact tx_vret S hr hlk hw dX8_advance_119
      · replace hf := tx_neg hf h_14
        refine lv_aload_n hx hb dX8_advance_93 rfl (lv_at hl 1 rfl) ?_
        obtain ⟨u_T_23, h_22, hf⟩ := tx_b1_e hf
        refine tx_cv hw (tx_runV S hE hw (c_X8_takeWord h_22) lk_X8_42 (q0 := 0) rfl rfl rfl hl.1 (rest := []) rfl (Nat.le_of_ble_eq_true rfl) ⟨by decide, by decide⟩ dX8_advance_94 ⟨Nat.zero_le _, Nat.zero_le _⟩) (fun H locs hw => ?_)
        refine lv_goto (tgt := 119) hx hb dX8_advance_97 (by decide) ?_
        obtain e0 := tx_in1 hf
        rw [← e0]
        exact tx_vret S hr hlk hw dX8_advance_119
    · replace hf := tx_neg hf h_11
      refine lv_aload_n hx hb dX8_advance_78 rfl (lv_at hl 1 rfl) ?_
      refine lv_iconst (v := 0) hx hb dX8_advance_79 (by decide) ?_
      obtain ⟨u_T_24, eu_T_24⟩ : ∃ z : S32, z = up2 u_T_8 0 4 (0 : Int32) := ⟨_, rfl⟩
      replace hf := tx_let_e hf eu_T_24
      refine pf_X8_25 (ws' := cl_X8 g a_T (a_P 0) u_T_24 ++ (cl_X6 g a_P u_P ++ X)) S hE hw rfl rfl 0 rfl (Nat.le_of_ble_eq_true rfl) (by rw [eu_T_24]; rfl) dX8_advance_80 (fun H locs hw => ?_)
      refine lv_goto (tgt := 119) hx hb dX8_advance_83 (by decide) ?_
      obtain e0 := tx_in1 hf
      rw [← e0]
      exact tx_vret S hr hlk hw dX8_advance_119
  have J0 : ∀ {K0 : S32 → Option (S32)} (hK0 : ∀ {u_T : S32} {H : Heap} {locs : List Loc} {ls : Array Slot}, K0 u_T = some zu_T → WD g A s.heap (cl_X8 g a_T (a_P 0) u_T ++ (cl_X6 g a_P u_P ++ X)) H locs → lv_has ls 2 [(0, .ref (a_T 0))] → W p l e (rmH 2) s m (List.toArray [.ref (a_T 0)]) below meth c H locs 0 0 (MQ below (va_Qv (fun (_ : Unit) => True) (fun _ t => POST g A (cl_X8 g a_T (a_P 0) zu_T ++ (cl_X6 g a_P u_P ++ X)) t) A) (List.toArray [.ref (a_T 0)]) s 0 0 A) (F0 m 0 ls [])), ∀ {u_T : S32} {H : Heap} {locs : List Loc} {ls : Array Slot}, f_X8_advance_J0 fu u_P K0 u_T = some zu_T → WD g A s.heap (cl_X8 g a_T (a_P 0) u_T ++ (cl_X6 g a_P u_P ++ X)) H locs → lv_has ls 2 [(0, .ref (a_T 0))] → W p l e (rmH 2) s m (List.toArray [.ref (a_T 0)]) below meth c H locs 0 0 (MQ below (va_Qv (fun (_ : Unit) => True) (fun _ t => POST g A (cl_X8 g a_T (a_P 0) zu_T ++ (cl_X6 g a_P u_P ++ X)) t) A) (List.toArray [.ref (a_T 0)]) s 0 0 A) (F0 m 0 ls []) := by
    intro K0 hK0 u_T H locs ls hf hw hl
    unfold f_X8_advance_J0 at hf
    refine lv_aload_n hx hb dX8_advance_0 rfl (lv_at hl 0 rfl) ?_
    refine gf_X8_19 S hE hw 0 rfl rfl dX8_advance_1 ?_
    refine lv_aload_n hx hb dX8_advance_4 rfl (lv_at hl 0 rfl) ?_
    refine gf_X8_15 S hE hw 0 rfl rfl dX8_advance_5 ?_
    refine lv_icmp_ge (tgt := 50) hx hb dX8_advance_8 (by decide) (fun h_1 => ?_) (fun h_1 => ?_)
    · replace hf := tx_pos hf h_1
      exact J50 hf hw (lv_sub hl [0] rfl)
    · replace hf := tx_neg hf h_1
      refine lv_aload_n hx hb dX8_advance_11 rfl (lv_at hl 0 rfl) ?_
      refine lv_aload_n hx hb dX8_advance_12 rfl (lv_at hl 0 rfl) ?_
      refine gf_X8_19 S hE hw 0 rfl rfl dX8_advance_13 ?_
      obtain ⟨r_3, h_2, hf⟩ := tx_b1_e hf
      refine tx_ci hw (tx_runV S hE hw (c_X8_signAt h_2) lk_X8_31 (q0 := 0) rfl rfl rfl hl.1 (rest := []) rfl (Nat.le_of_ble_eq_true rfl) ⟨by decide, by decide⟩ dX8_advance_16 ⟨Nat.zero_le _, Nat.zero_le _⟩) (fun H locs hw => ?_)
      refine lv_bipush (v := 10) hx hb dX8_advance_19 (by decide) ?_
      refine lv_icmp_eq (tgt := 37) hx hb dX8_advance_21 (by decide) (fun h_4 => ?_) (fun h_4 => ?_)
      · replace hf := tx_pos hf h_4
        exact J37 hK0 hf hw (lv_sub hl [0] rfl)
      · replace hf := tx_neg hf h_4
        refine lv_aload_n hx hb dX8_advance_24 rfl (lv_at hl 0 rfl) ?_
        refine lv_aload_n hx hb dX8_advance_25 rfl (lv_at hl 0 rfl) ?_
        refine gf_X8_19 S hE hw 0 rfl rfl dX8_advance_26 ?_
        obtain ⟨r_6, h_5, hf⟩ := tx_b1_e hf
        refine tx_ci hw (tx_runV S hE hw (c_X8_signAt h_5) lk_X8_31 (q0 := 0) rfl rfl rfl hl.1 (rest := []) rfl (Nat.le_of_ble_eq_true rfl) ⟨by decide, by decide⟩ dX8_advance_29 ⟨Nat.zero_le _, Nat.zero_le _⟩) (fun H locs hw => ?_)
        refine lv_bipush (v := 32) hx hb dX8_advance_32 (by decide) ?_
        refine lv_icmp_ne (tgt := 50) hx hb dX8_advance_34 (by decide) (fun h_7 => ?_) (fun h_7 => ?_)
        · replace hf := tx_neg hf h_7
          exact J50 hf hw (lv_sub hl [0] rfl)
        · replace hf := tx_pos hf h_7
          exact J37 hK0 hf hw (lv_sub hl [0] rfl)
  have L0 : ∀ (n : Nat), ∀ {u_T : S32} {H : Heap} {locs : List Loc} {ls : Array Slot}, f_X8_advance_L0 fu u_P n u_T = some zu_T → WD g A s.heap (cl_X8 g a_T (a_P 0) u_T ++ (cl_X6 g a_P u_P ++ X)) H locs → lv_has ls 2 [(0, .ref (a_T 0))] → W p l e (rmH 2) s m (List.toArray [.ref (a_T 0)]) below meth c H locs 0 0 (MQ below (va_Qv (fun (_ : Unit) => True) (fun _ t => POST g A (cl_X8 g a_T (a_P 0) zu_T ++ (cl_X6 g a_P u_P ++ X)) t) A) (List.toArray [.ref (a_T 0)]) s 0 0 A) (F0 m 0 ls []) := by
    intro  n
    induction n with
    | zero => intro u_T H locs ls hf; exact absurd hf (by intro q; cases q)
    | succ n ih => exact fun hf hw hl => J0 ih hf hw hl
  unfold f_X8_advance at hf
  exact L0 fu hf hw (lv_sub hl [0] rfl)
def f_X8_start (fu : Nat) (u_P : S32) (u_T : S32) (x1 : Int32) : Option (S32) := tx_let (up2 u_T 0 1 x1) fun (u_T_1 : S32) => tx_let (up2 u_T_1 0 2 (0 : Int32)) fun (u_T_2 : S32) => tx_b1 (f_X8_advance fu u_P u_T_2) fun (u_T_4 : S32) => some u_T_4
set_option maxHeartbeats 4000000 in
set_option maxRecDepth 100000 in
theorem c_X8_start {l : Launch} {g : GG} {A : Nat → Prop} {X : va_W} {fu : Nat} {a_T a_P : Nat → Nat} {u_T : S32} {u_P : S32} {x1 : Int32} {zu_T : S32} (hf : f_X8_start fu u_P u_T x1 = some zu_T) : MV l yX8_start cX8_start 2 none 3 g A (cl_X8 g a_T (a_P 0) u_T ++ (cl_X6 g a_P u_P ++ X)) [.ref (a_T 0), .int x1] (cl_X8 g a_T (a_P 0) zu_T ++ (cl_X6 g a_P u_P ++ X)) := by
  refine tx_start (av := [.ref (a_T 0), .int x1]) (by decide) (Nat.le_of_ble_eq_true rfl) ?_
  intro p e s m below meth c ls S hr hlk hE hw hl
  have S : CallFix p m c cX8_start 2 s (List.toArray [.ref (a_T 0), .int x1]) (Cond.code yX8_start cX8_start 2 none :: allW) RX8 := S
  have hx := S.1
  have hb := S.2.1
  have hown := S.2.2.2.1
  have hts : ∀ w ∈ allW, w.before (List.toArray [.ref (a_T 0), .int x1]) s = true := fun w h => S.2.2.2.2 w (List.mem_cons_of_mem _ h)
  have hl : lv_has ls 2 [(0, .ref (a_T 0)), (1, .int x1)] := hl
  unfold f_X8_start at hf
  refine lv_aload_n hx hb dX8_start_0 rfl (lv_at hl 0 rfl) ?_
  refine lv_iload_n hx hb dX8_start_1 rfl (lv_at hl 1 rfl) ?_
  obtain ⟨u_T_1, eu_T_1⟩ : ∃ z : S32, z = up2 u_T 0 1 x1 := ⟨_, rfl⟩
  replace hf := tx_let_e hf eu_T_1
  refine pf_X8_15 (ws' := cl_X8 g a_T (a_P 0) u_T_1 ++ (cl_X6 g a_P u_P ++ X)) S hE hw rfl rfl 0 rfl (Nat.le_of_ble_eq_true rfl) (by rw [eu_T_1]; rfl) dX8_start_2 (fun H locs hw => ?_)
  refine lv_aload_n hx hb dX8_start_5 rfl (lv_at hl 0 rfl) ?_
  refine lv_iconst (v := 0) hx hb dX8_start_6 (by decide) ?_
  obtain ⟨u_T_2, eu_T_2⟩ : ∃ z : S32, z = up2 u_T_1 0 2 (0 : Int32) := ⟨_, rfl⟩
  replace hf := tx_let_e hf eu_T_2
  refine pf_X8_19 (ws' := cl_X8 g a_T (a_P 0) u_T_2 ++ (cl_X6 g a_P u_P ++ X)) S hE hw rfl rfl 0 rfl (Nat.le_of_ble_eq_true rfl) (by rw [eu_T_2]; rfl) dX8_start_7 (fun H locs hw => ?_)
  refine lv_aload_n hx hb dX8_start_10 rfl (lv_at hl 0 rfl) ?_
  obtain ⟨u_T_4, h_3, hf⟩ := tx_b1_e hf
  refine tx_cv hw (tx_runV S hE hw (c_X8_advance h_3) lk_X8_22 (q0 := 0) rfl rfl rfl hl.1 (rest := []) rfl (Nat.le_of_ble_eq_true rfl) ⟨by decide, by decide⟩ dX8_start_11 ⟨Nat.zero_le _, Nat.zero_le _⟩) (fun H locs hw => ?_)
  obtain e0 := tx_in1 hf
  rw [← e0]
  exact tx_vret S hr hlk hw dX8_start_14
def f_X0_placeOf_oX0r3_J2 (fu : Nat) (u_B : S32) (K2 : Int32 → Int32 → Int32 → Option (Int32)) (w1 : Int32) (w2 : Int32) (w3 : Int32) : Option (Int32) := if w1 ≤ w3 then (some (-1 : Int32)) else (if (6 : Int32) ≤ w3 then (some (-1 : Int32)) else (tx_ck w3 6 <| if (u_B 3 w3.toNatClampNeg) = w2 then (some w3) else (tx_let (w3 + (1 : Int32)) fun (y_5 : Int32) => K2 w1 w2 y_5)))
def f_X0_placeOf_oX0r3_L2 (fu : Nat) (u_B : S32) : Nat → Int32 → Int32 → Int32 → Option (Int32)
  | 0 => fun _ _ _ => none
  | n + 1 => f_X0_placeOf_oX0r3_J2 fu u_B (f_X0_placeOf_oX0r3_L2 fu u_B n)
def f_X0_placeOf_oX0r3 (fu : Nat) (u_B : S32) (x1 : Int32) (x2 : Int32) : Option (Int32) := f_X0_placeOf_oX0r3_L2 fu u_B fu x1 x2 (0 : Int32)
set_option maxHeartbeats 4000000 in
set_option maxRecDepth 100000 in
theorem c_X0_placeOf_oX0r3 {l : Launch} {g : GG} {A : Nat → Prop} {X : va_W} {fu : Nat} {a_B : Nat → Nat} {p_B_17 : Nat} {u_B : S32} {x1 : Int32} {x2 : Int32} {r : Int32} (hf : f_X0_placeOf_oX0r3 fu u_B x1 x2 = some r) : MI l yX0_placeOf cX0_placeOf 4 (some .int) 0 g A (cl_X0 g a_B p_B_17 u_B ++ X) [.ref (a_B 3), .int x1, .int x2] r (cl_X0 g a_B p_B_17 u_B ++ X) := by
  refine tx_start (av := [.ref (a_B 3), .int x1, .int x2]) (by decide) (Nat.le_of_ble_eq_true rfl) ?_
  intro p e s m below meth c ls S hr hlk hE hw hl
  have S : CallFix p m c cX0_placeOf 4 s (List.toArray [.ref (a_B 3), .int x1, .int x2]) (Cond.code yX0_placeOf cX0_placeOf 4 (some .int) :: allW) RX0 := S
  have hx := S.1
  have hb := S.2.1
  have hown := S.2.2.2.1
  have hts : ∀ w ∈ allW, w.before (List.toArray [.ref (a_B 3), .int x1, .int x2]) s = true := fun w h => S.2.2.2.2 w (List.mem_cons_of_mem _ h)
  have hl : lv_has ls 4 [(0, .ref (a_B 3)), (1, .int x1), (2, .int x2)] := hl
  have J2 : ∀ {K2 : Int32 → Int32 → Int32 → Option (Int32)} (hK2 : ∀ {w1 : Int32} {w2 : Int32} {w3 : Int32} {H : Heap} {locs : List Loc} {ls : Array Slot}, K2 w1 w2 w3 = some r → WD g A s.heap (cl_X0 g a_B p_B_17 u_B ++ X) H locs → lv_has ls 4 [(0, .ref (a_B 3)), (1, .int w1), (2, .int w2), (3, .int w3)] → W p l e (rmH 0) s m (List.toArray [.ref (a_B 3), .int x1, .int x2]) below meth c H locs 0 0 (MQ below (va_Qi (fun r2 (_ : Unit) => r2 = r) (fun _ t => POST g A (cl_X0 g a_B p_B_17 u_B ++ X) t) A) (List.toArray [.ref (a_B 3), .int x1, .int x2]) s 0 0 A) (F0 m 2 ls [])), ∀ {w1 : Int32} {w2 : Int32} {w3 : Int32} {H : Heap} {locs : List Loc} {ls : Array Slot}, f_X0_placeOf_oX0r3_J2 fu u_B K2 w1 w2 w3 = some r → WD g A s.heap (cl_X0 g a_B p_B_17 u_B ++ X) H locs → lv_has ls 4 [(0, .ref (a_B 3)), (1, .int w1), (2, .int w2), (3, .int w3)] → W p l e (rmH 0) s m (List.toArray [.ref (a_B 3), .int x1, .int x2]) below meth c H locs 0 0 (MQ below (va_Qi (fun r2 (_ : Unit) => r2 = r) (fun _ t => POST g A (cl_X0 g a_B p_B_17 u_B ++ X) t) A) (List.toArray [.ref (a_B 3), .int x1, .int x2]) s 0 0 A) (F0 m 2 ls []) := by
    intro K2 hK2 w1 w2 w3 H locs ls hf hw hl
    unfold f_X0_placeOf_oX0r3_J2 at hf
    refine lv_iload_n hx hb dX0_placeOf_2 rfl (lv_at hl 3 rfl) ?_
    refine lv_iload_n hx hb dX0_placeOf_3 rfl (lv_at hl 1 rfl) ?_
    refine lv_icmp_ge (tgt := 28) hx hb dX0_placeOf_4 (by decide) (fun h_1 => ?_) (fun h_1 => ?_)
    · replace hf := tx_pos hf h_1
      refine lv_iconst (v := -1) hx hb dX0_placeOf_28 (by decide) ?_
      obtain e0 := tx_in1 hf
      rw [← e0]
      exact tx_iret S hr hlk hw dX0_placeOf_29
    · replace hf := tx_neg hf h_1
      refine lv_iload_n hx hb dX0_placeOf_7 rfl (lv_at hl 3 rfl) ?_
      refine lv_aload_n hx hb dX0_placeOf_8 rfl (lv_at hl 0 rfl) ?_
      refine tx_alen (v := 6) S hE hw 1 1 rfl rfl rfl dX0_placeOf_9 ?_
      refine lv_icmp_ge (tgt := 28) hx hb dX0_placeOf_10 (by decide) (fun h_2 => ?_) (fun h_2 => ?_)
      · replace hf := tx_pos hf h_2
        refine lv_iconst (v := -1) hx hb dX0_placeOf_28 (by decide) ?_
        obtain e0 := tx_in1 hf
        rw [← e0]
        exact tx_iret S hr hlk hw dX0_placeOf_29
      · replace hf := tx_neg hf h_2
        refine lv_aload_n hx hb dX0_placeOf_13 rfl (lv_at hl 0 rfl) ?_
        refine lv_iload_n hx hb dX0_placeOf_14 rfl (lv_at hl 3 rfl) ?_
        obtain ⟨h_3, hf⟩ := tx_ck_e hf
        refine tx_iald S hE hw 1 rfl h_3 dX0_placeOf_15 ?_
        refine lv_iload_n hx hb dX0_placeOf_16 rfl (lv_at hl 2 rfl) ?_
        refine lv_icmp_ne (tgt := 22) hx hb dX0_placeOf_17 (by decide) (fun h_4 => ?_) (fun h_4 => ?_)
        · replace hf := tx_neg hf h_4
          obtain ⟨y_5, ey_5⟩ : ∃ y : Int32, y = w3 + (1 : Int32) := ⟨_, rfl⟩
          replace hf := tx_let_e hf ey_5
          refine lv_iinc (v := y_5) (lv' := [(3, .int y_5), (0, .ref (a_B 3)), (1, .int w1), (2, .int w2)]) hx hb dX0_placeOf_22 hl (k := 3) rfl (by rw [ey_5]; rfl) (by decide) rfl (fun ls hl => ?_)
          refine lv_goto (tgt := 2) hx hb dX0_placeOf_25 (by decide) ?_
          exact hK2 hf hw (lv_sub hl [1, 2, 3, 0] rfl)
        · replace hf := tx_pos hf h_4
          refine lv_iload_n hx hb dX0_placeOf_20 rfl (lv_at hl 3 rfl) ?_
          obtain e0 := tx_in1 hf
          rw [← e0]
          exact tx_iret S hr hlk hw dX0_placeOf_21
  have L2 : ∀ (n : Nat), ∀ {w1 : Int32} {w2 : Int32} {w3 : Int32} {H : Heap} {locs : List Loc} {ls : Array Slot}, f_X0_placeOf_oX0r3_L2 fu u_B n w1 w2 w3 = some r → WD g A s.heap (cl_X0 g a_B p_B_17 u_B ++ X) H locs → lv_has ls 4 [(0, .ref (a_B 3)), (1, .int w1), (2, .int w2), (3, .int w3)] → W p l e (rmH 0) s m (List.toArray [.ref (a_B 3), .int x1, .int x2]) below meth c H locs 0 0 (MQ below (va_Qi (fun r2 (_ : Unit) => r2 = r) (fun _ t => POST g A (cl_X0 g a_B p_B_17 u_B ++ X) t) A) (List.toArray [.ref (a_B 3), .int x1, .int x2]) s 0 0 A) (F0 m 2 ls []) := by
    intro  n
    induction n with
    | zero => intro w1 w2 w3 H locs ls hf; exact absurd hf (by intro q; cases q)
    | succ n ih => exact fun hf hw hl => J2 ih hf hw hl
  unfold f_X0_placeOf_oX0r3 at hf
  refine lv_iconst (v := 0) hx hb dX0_placeOf_0 (by decide) ?_
  refine lv_istore_n (lv' := [(3, .int (0 : Int32)), (0, .ref (a_B 3)), (1, .int x1), (2, .int x2)]) hx hb dX0_placeOf_1 rfl hl (by decide) rfl (fun ls hl => ?_)
  exact L2 fu hf hw (lv_sub hl [1, 2, 3, 0] rfl)
