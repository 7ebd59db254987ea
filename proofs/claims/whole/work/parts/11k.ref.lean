def f_X12_chance_J93 (fu : Nat) (K50 : S32 → S64 → Int32 → Int32 → Int64 → Int32 → Int32 → Option (Int32 × S32 × S64)) (u_T : S32) (v_T : S64) (w2 : Int32) (w3 : Int32) (w4 : Int64) (w7 : Int32) (t0 : Int32) (t1 : Int32) : Option (Int32 × S32 × S64) := tx_let (t0 + t1) fun (y_25 : Int32) => tx_let (w7 + (1 : Int32)) fun (y_26 : Int32) => K50 u_T v_T w2 w3 w4 y_25 y_26
def f_X12_chance_J50 (fu : Nat) (K50 : S32 → S64 → Int32 → Int32 → Int64 → Int32 → Int32 → Option (Int32 × S32 × S64)) (u_T : S32) (v_T : S64) (w2 : Int32) (w3 : Int32) (w4 : Int64) (w6 : Int32) (w7 : Int32) : Option (Int32 × S32 × S64) := if (10 : Int32) ≤ w7 then (tx_let (up2 u_T 0 61 (0 : Int32)) fun (u_T_12 : S32) => tx_let (up4 v_T 0 59 w4) fun (v_T_13 : S64) => some (w6, u_T_12, v_T_13)) else (tx_b1 (f_X12_layTried fu v_T u_T) fun (u_T_15 : S32) => tx_let (up2 u_T_15 0 61 (1 : Int32)) fun (u_T_16 : S32) => tx_b2 (f_X12_goMany fu u_T_16 v_T w2) fun (u_T_18 : S32) (v_T_19 : S64) => tx_b1 (f_X12_paidAll fu u_T_18 v_T_19 (1 : Int32)) fun (r_21 : Int32) => tx_b1 (f_X12_paidAll fu u_T_18 v_T_19 (0 : Int32)) fun (r_23 : Int32) => if (r_21 - r_23) < w3 then (f_X12_chance_J93 fu K50 u_T_18 v_T_19 w2 w3 w4 w7 w6 (0 : Int32)) else (f_X12_chance_J93 fu K50 u_T_18 v_T_19 w2 w3 w4 w7 w6 (1 : Int32)))
def f_X12_chance_L50 (fu : Nat) : Nat → S32 → S64 → Int32 → Int32 → Int64 → Int32 → Int32 → Option (Int32 × S32 × S64)
  | 0 => fun _ _ _ _ _ _ _ => none
  | n + 1 => f_X12_chance_J50 fu (f_X12_chance_L50 fu n)
def f_X12_chance (fu : Nat) (u_T : S32) (v_T : S64) (x1 : Int32) (x2 : Int32) (x3 : Int32) : Option (Int32 × S32 × S64) := tx_let (up2 u_T 0 2 (0 : Int32)) fun (u_T_1 : S32) => if x1 < (0 : Int32) then (some ((-1 : Int32), u_T_1, v_T)) else (tx_b1 (f_X12_isIn fu x2 (1 : Int32) (99 : Int32)) fun (r_4 : Int32) => if r_4 = (0 : Int32) then (some ((-1 : Int32), u_T_1, v_T)) else (tx_b1 (f_X12_isIn fu x3 (0 : Int32) (999 : Int32)) fun (r_7 : Int32) => if r_7 = (0 : Int32) then (some ((-1 : Int32), u_T_1, v_T)) else (tx_let (v_T 0 59) fun (y_9 : Int64) => tx_let (up4 v_T 0 59 (x1.toInt64)) fun (v_T_10 : S64) => f_X12_chance_L50 fu fu u_T_1 v_T_10 x2 x3 y_9 (0 : Int32) (0 : Int32))))
set_option maxHeartbeats 4000000 in
set_option maxRecDepth 100000 in
theorem c_X12_chance {l : Launch} {g : GG} {A : Nat → Prop} {X : va_W} {fu : Nat} {a_T : Nat → Nat} {u_T : S32} {v_T : S64} {x1 : Int32} {x2 : Int32} {x3 : Int32} {r : Int32} {zu_T : S32} {zv_T : S64} (hf : f_X12_chance fu  u_T v_T x1 x2 x3 = some (r, zu_T, zv_T)) : MI l yX12_chance cX12_chance 8 (some .int) 9 g A (cl_X12 g a_T u_T v_T ++ X) [.ref (a_T 0), .int x1, .int x2, .int x3] r (cl_X12 g a_T zu_T zv_T ++ X) := by
  refine tx_start (av := [.ref (a_T 0), .int x1, .int x2, .int x3]) (by decide) (Nat.le_of_ble_eq_true rfl) ?_
  intro p e s m below meth c ls S hr hlk hE hw hl
  have S : CallFix p m c cX12_chance 8 s (List.toArray [.ref (a_T 0), .int x1, .int x2, .int x3]) (Cond.code yX12_chance cX12_chance 8 (some .int) :: allW) RX12 := S
  have hx := S.1
  have hb := S.2.1
  have hown := S.2.2.2.1
  have hts : ∀ w ∈ allW, w.before (List.toArray [.ref (a_T 0), .int x1, .int x2, .int x3]) s = true := fun w h => S.2.2.2.2 w (List.mem_cons_of_mem _ h)
  have hl : lv_has ls 8 [(0, .ref (a_T 0)), (1, .int x1), (2, .int x2), (3, .int x3)] := hl
  have J93 : ∀ {K50 : S32 → S64 → Int32 → Int32 → Int64 → Int32 → Int32 → Option (Int32 × S32 × S64)} (hK50 : ∀ {u_T : S32} {v_T : S64} {w2 : Int32} {w3 : Int32} {w4 : Int64} {w6 : Int32} {w7 : Int32} {H : Heap} {locs : List Loc} {ls : Array Slot}, K50 u_T v_T w2 w3 w4 w6 w7 = some (r, zu_T, zv_T) → WD g A s.heap (cl_X12 g a_T u_T v_T ++ X) H locs → lv_has ls 8 [(0, .ref (a_T 0)), (2, .int w2), (3, .int w3), (4, .long w4), (6, .int w6), (7, .int w7)] → W p l e (rmH 9) s m (List.toArray [.ref (a_T 0), .int x1, .int x2, .int x3]) below meth c H locs 0 0 (MQ below (va_Qi (fun r2 (_ : Unit) => r2 = r) (fun _ t => POST g A (cl_X12 g a_T zu_T zv_T ++ X) t) A) (List.toArray [.ref (a_T 0), .int x1, .int x2, .int x3]) s 0 0 A) (F0 m 50 ls [])), ∀ {u_T : S32} {v_T : S64} {w2 : Int32} {w3 : Int32} {w4 : Int64} {w7 : Int32} {t0 : Int32} {t1 : Int32} {H : Heap} {locs : List Loc} {ls : Array Slot}, f_X12_chance_J93 fu K50 u_T v_T w2 w3 w4 w7 t0 t1 = some (r, zu_T, zv_T) → WD g A s.heap (cl_X12 g a_T u_T v_T ++ X) H locs → lv_has ls 8 [(0, .ref (a_T 0)), (2, .int w2), (3, .int w3), (4, .long w4), (7, .int w7)] → W p l e (rmH 9) s m (List.toArray [.ref (a_T 0), .int x1, .int x2, .int x3]) below meth c H locs 0 0 (MQ below (va_Qi (fun r2 (_ : Unit) => r2 = r) (fun _ t => POST g A (cl_X12 g a_T zu_T zv_T ++ X) t) A) (List.toArray [.ref (a_T 0), .int x1, .int x2, .int x3]) s 0 0 A) (F0 m 93 ls [.int t1, .int t0]) := by
    intro K50 hK50 u_T v_T w2 w3 w4 w7 t0 t1 H locs ls hf hw hl
    unfold f_X12_chance_J93 at hf
    refine lv_iadd hx hb dX12_chance_93 ?_
    refine lv_topi (fun y_25 ey_25 => ?_)
    replace hf := tx_let_e hf ey_25
    refine lv_istore (lv' := [(6, .int y_25), (0, .ref (a_T 0)), (2, .int w2), (3, .int w3), (4, .long w4), (7, .int w7)]) hx hb dX12_chance_94 hl (by decide) rfl (fun ls hl => ?_)
    obtain ⟨y_26, ey_26⟩ : ∃ y : Int32, y = w7 + (1 : Int32) := ⟨_, rfl⟩
    replace hf := tx_let_e hf ey_26
    refine lv_iinc (v := y_26) (lv' := [(7, .int y_26), (6, .int y_25), (0, .ref (a_T 0)), (2, .int w2), (3, .int w3), (4, .long w4)]) hx hb dX12_chance_96 hl (k := 5) rfl (by rw [ey_26]; rfl) (by decide) rfl (fun ls hl => ?_)
    refine lv_goto (tgt := 50) hx hb dX12_chance_99 (by decide) ?_
    exact hK50 hf hw (lv_sub hl [2, 3, 4, 5, 1, 0] rfl)
  have J50 : ∀ {K50 : S32 → S64 → Int32 → Int32 → Int64 → Int32 → Int32 → Option (Int32 × S32 × S64)} (hK50 : ∀ {u_T : S32} {v_T : S64} {w2 : Int32} {w3 : Int32} {w4 : Int64} {w6 : Int32} {w7 : Int32} {H : Heap} {locs : List Loc} {ls : Array Slot}, K50 u_T v_T w2 w3 w4 w6 w7 = some (r, zu_T, zv_T) → WD g A s.heap (cl_X12 g a_T u_T v_T ++ X) H locs → lv_has ls 8 [(0, .ref (a_T 0)), (2, .int w2), (3, .int w3), (4, .long w4), (6, .int w6), (7, .int w7)] → W p l e (rmH 9) s m (List.toArray [.ref (a_T 0), .int x1, .int x2, .int x3]) below meth c H locs 0 0 (MQ below (va_Qi (fun r2 (_ : Unit) => r2 = r) (fun _ t => POST g A (cl_X12 g a_T zu_T zv_T ++ X) t) A) (List.toArray [.ref (a_T 0), .int x1, .int x2, .int x3]) s 0 0 A) (F0 m 50 ls [])), ∀ {u_T : S32} {v_T : S64} {w2 : Int32} {w3 : Int32} {w4 : Int64} {w6 : Int32} {w7 : Int32} {H : Heap} {locs : List Loc} {ls : Array Slot}, f_X12_chance_J50 fu K50 u_T v_T w2 w3 w4 w6 w7 = some (r, zu_T, zv_T) → WD g A s.heap (cl_X12 g a_T u_T v_T ++ X) H locs → lv_has ls 8 [(0, .ref (a_T 0)), (2, .int w2), (3, .int w3), (4, .long w4), (6, .int w6), (7, .int w7)] → W p l e (rmH 9) s m (List.toArray [.ref (a_T 0), .int x1, .int x2, .int x3]) below meth c H locs 0 0 (MQ below (va_Qi (fun r2 (_ : Unit) => r2 = r) (fun _ t => POST g A (cl_X12 g a_T zu_T zv_T ++ X) t) A) (List.toArray [.ref (a_T 0), .int x1, .int x2, .int x3]) s 0 0 A) (F0 m 50 ls []) := by
    intro K50 hK50 u_T v_T w2 w3 w4 w6 w7 H locs ls hf hw hl
    unfold f_X12_chance_J50 at hf
    refine lv_iload hx hb dX12_chance_50 (lv_at hl 5 rfl) ?_
    refine lv_bipush (v := 10) hx hb dX12_chance_52 (by decide) ?_
    refine lv_icmp_ge (tgt := 102) hx hb dX12_chance_54 (by decide) (fun h_11 => ?_) (fun h_11 => ?_)
    · replace hf := tx_pos hf h_11
      refine lv_aload_n hx hb dX12_chance_102 rfl (lv_at hl 0 rfl) ?_
      refine lv_iconst (v := 0) hx hb dX12_chance_103 (by decide) ?_
      obtain ⟨u_T_12, eu_T_12⟩ : ∃ z : S32, z = up2 u_T 0 61 (0 : Int32) := ⟨_, rfl⟩
      replace hf := tx_let_e hf eu_T_12
      refine pf_X12_356 (ws' := cl_X12 g a_T u_T_12 v_T ++ X) S hE hw (by decide) (by decide) 0 rfl (Nat.le_of_ble_eq_true rfl) (by rw [eu_T_12]; rfl) dX12_chance_104 (fun H locs hw => ?_)
      refine lv_aload_n hx hb dX12_chance_107 rfl (lv_at hl 0 rfl) ?_
      refine lv_lload hx hb dX12_chance_108 (lv_at hl 3 rfl) ?_
      obtain ⟨v_T_13, ev_T_13⟩ : ∃ z : S64, z = up4 v_T 0 59 w4 := ⟨_, rfl⟩
      replace hf := tx_let_e hf ev_T_13
      refine pf_X12_340 (ws' := cl_X12 g a_T u_T_12 v_T_13 ++ X) S hE hw rfl rfl 0 rfl (Nat.le_of_ble_eq_true rfl) (by rw [ev_T_13]; rfl) dX12_chance_110 (fun H locs hw => ?_)
      refine lv_iload hx hb dX12_chance_113 (lv_at hl 4 rfl) ?_
      obtain ⟨e0, e1, e2⟩ := tx_in3 hf
      rw [← e0, ← e1, ← e2]
      exact tx_iret S hr hlk hw dX12_chance_115
    · replace hf := tx_neg hf h_11
      refine lv_aload_n hx hb dX12_chance_57 rfl (lv_at hl 0 rfl) ?_
      obtain ⟨u_T_15, h_14, hf⟩ := tx_b1_e hf
      refine tx_cv hw (tx_runV S hE hw (c_X12_layTried h_14) lk_X12_474 (q0 := 0) rfl rfl rfl hl.1 (rest := []) rfl (Nat.le_of_ble_eq_true rfl) ⟨by decide, by decide⟩ dX12_chance_58 ⟨Nat.zero_le _, Nat.zero_le _⟩) (fun H locs hw => ?_)
      refine lv_aload_n hx hb dX12_chance_61 rfl (lv_at hl 0 rfl) ?_
      refine lv_iconst (v := 1) hx hb dX12_chance_62 (by decide) ?_
      obtain ⟨u_T_16, eu_T_16⟩ : ∃ z : S32, z = up2 u_T_15 0 61 (1 : Int32) := ⟨_, rfl⟩
      replace hf := tx_let_e hf eu_T_16
      refine pf_X12_356 (ws' := cl_X12 g a_T u_T_16 v_T ++ X) S hE hw (by decide) (by decide) 0 rfl (Nat.le_of_ble_eq_true rfl) (by rw [eu_T_16]; rfl) dX12_chance_63 (fun H locs hw => ?_)
      refine lv_aload_n hx hb dX12_chance_66 rfl (lv_at hl 0 rfl) ?_
      refine lv_iload_n hx hb dX12_chance_67 rfl (lv_at hl 1 rfl) ?_
      obtain ⟨u_T_18, v_T_19, h_17, hf⟩ := tx_b2_e hf
      refine tx_cv hw (tx_runV S hE hw (c_X12_goMany h_17) lk_X12_477 (q0 := 0) rfl rfl rfl hl.1 (rest := []) rfl (Nat.le_of_ble_eq_true rfl) ⟨by decide, by decide⟩ dX12_chance_68 ⟨Nat.zero_le _, Nat.zero_le _⟩) (fun H locs hw => ?_)
      refine lv_iload hx hb dX12_chance_71 (lv_at hl 4 rfl) ?_
      refine lv_aload_n hx hb dX12_chance_73 rfl (lv_at hl 0 rfl) ?_
      refine lv_iconst (v := 1) hx hb dX12_chance_74 (by decide) ?_
      obtain ⟨r_21, h_20, hf⟩ := tx_b1_e hf
      refine tx_ci hw (tx_runV S hE hw (c_X12_paidAll h_20) lk_X12_448 (q0 := 0) rfl rfl rfl hl.1 (rest := [.int w6]) rfl (Nat.le_of_ble_eq_true rfl) ⟨by decide, by decide⟩ dX12_chance_75 ⟨Nat.zero_le _, Nat.zero_le _⟩) (fun H locs hw => ?_)
      refine lv_aload_n hx hb dX12_chance_78 rfl (lv_at hl 0 rfl) ?_
      refine lv_iconst (v := 0) hx hb dX12_chance_79 (by decide) ?_
      obtain ⟨r_23, h_22, hf⟩ := tx_b1_e hf
      refine tx_ci hw (tx_runV S hE hw (c_X12_paidAll h_22) lk_X12_448 (q0 := 0) rfl rfl rfl hl.1 (rest := [.int r_21, .int w6]) rfl (Nat.le_of_ble_eq_true rfl) ⟨by decide, by decide⟩ dX12_chance_80 ⟨Nat.zero_le _, Nat.zero_le _⟩) (fun H locs hw => ?_)
      refine lv_isub hx hb dX12_chance_83 ?_
      refine lv_iload_n hx hb dX12_chance_84 rfl (lv_at hl 2 rfl) ?_
      refine lv_icmp_lt (tgt := 92) hx hb dX12_chance_85 (by decide) (fun h_24 => ?_) (fun h_24 => ?_)
      · replace hf := tx_pos hf h_24
        refine lv_iconst (v := 0) hx hb dX12_chance_92 (by decide) ?_
        exact J93 hK50 hf hw (lv_sub hl [0, 1, 2, 3, 5] rfl)
      · replace hf := tx_neg hf h_24
        refine lv_iconst (v := 1) hx hb dX12_chance_88 (by decide) ?_
        refine lv_goto (tgt := 93) hx hb dX12_chance_89 (by decide) ?_
        exact J93 hK50 hf hw (lv_sub hl [0, 1, 2, 3, 5] rfl)
  have L50 : ∀ (n : Nat), ∀ {u_T : S32} {v_T : S64} {w2 : Int32} {w3 : Int32} {w4 : Int64} {w6 : Int32} {w7 : Int32} {H : Heap} {locs : List Loc} {ls : Array Slot}, f_X12_chance_L50 fu n u_T v_T w2 w3 w4 w6 w7 = some (r, zu_T, zv_T) → WD g A s.heap (cl_X12 g a_T u_T v_T ++ X) H locs → lv_has ls 8 [(0, .ref (a_T 0)), (2, .int w2), (3, .int w3), (4, .long w4), (6, .int w6), (7, .int w7)] → W p l e (rmH 9) s m (List.toArray [.ref (a_T 0), .int x1, .int x2, .int x3]) below meth c H locs 0 0 (MQ below (va_Qi (fun r2 (_ : Unit) => r2 = r) (fun _ t => POST g A (cl_X12 g a_T zu_T zv_T ++ X) t) A) (List.toArray [.ref (a_T 0), .int x1, .int x2, .int x3]) s 0 0 A) (F0 m 50 ls []) := by
    intro  n
    induction n with
    | zero => intro u_T v_T w2 w3 w4 w6 w7 H locs ls hf; exact absurd hf (by intro q; cases q)
    | succ n ih => exact fun hf hw hl => J50 ih hf hw hl
  unfold f_X12_chance at hf
  refine lv_aload_n hx hb dX12_chance_0 rfl (lv_at hl 0 rfl) ?_
  refine lv_iconst (v := 0) hx hb dX12_chance_1 (by decide) ?_
  obtain ⟨u_T_1, eu_T_1⟩ : ∃ z : S32, z = up2 u_T 0 2 (0 : Int32) := ⟨_, rfl⟩
  replace hf := tx_let_e hf eu_T_1
  refine pf_X12_145 (ws' := cl_X12 g a_T u_T_1 v_T ++ X) S hE hw rfl rfl 0 rfl (Nat.le_of_ble_eq_true rfl) (by rw [eu_T_1]; rfl) dX12_chance_2 (fun H locs hw => ?_)
  refine lv_iload_n hx hb dX12_chance_5 rfl (lv_at hl 1 rfl) ?_
  refine lv_if_lt (tgt := 30) hx hb dX12_chance_6 (by decide) (fun h_2 => ?_) (fun h_2 => ?_)
  · replace hf := tx_pos hf h_2
    refine lv_iconst (v := -1) hx hb dX12_chance_30 (by decide) ?_
    obtain ⟨e0, e1, e2⟩ := tx_in3 hf
    rw [← e0, ← e1, ← e2]
    exact tx_iret S hr hlk hw dX12_chance_31
  · replace hf := tx_neg hf h_2
    refine lv_iload_n hx hb dX12_chance_9 rfl (lv_at hl 2 rfl) ?_
    refine lv_iconst (v := 1) hx hb dX12_chance_10 (by decide) ?_
    refine lv_bipush (v := 99) hx hb dX12_chance_11 (by decide) ?_
    obtain ⟨r_4, h_3, hf⟩ := tx_b1_e hf
    refine tx_ci hw (tx_runS S hE hw (c_X12_isIn h_3) lk_X12_190 rfl hl.1 (rest := []) rfl (Nat.le_of_ble_eq_true rfl) ⟨by decide, by decide⟩ dX12_chance_13 ⟨Nat.zero_le _, Nat.zero_le _⟩) (fun H locs hw => ?_)
    refine lv_if_eq (tgt := 30) hx hb dX12_chance_16 (by decide) (fun h_5 => ?_) (fun h_5 => ?_)
    · replace hf := tx_pos hf h_5
      refine lv_iconst (v := -1) hx hb dX12_chance_30 (by decide) ?_
      obtain ⟨e0, e1, e2⟩ := tx_in3 hf
      rw [← e0, ← e1, ← e2]
      exact tx_iret S hr hlk hw dX12_chance_31
    · replace hf := tx_neg hf h_5
      refine lv_iload_n hx hb dX12_chance_19 rfl (lv_at hl 3 rfl) ?_
      refine lv_iconst (v := 0) hx hb dX12_chance_20 (by decide) ?_
      refine lv_sipush (v := 999) hx hb dX12_chance_21 (by decide) ?_
      obtain ⟨r_7, h_6, hf⟩ := tx_b1_e hf
      refine tx_ci hw (tx_runS S hE hw (c_X12_isIn h_6) lk_X12_190 rfl hl.1 (rest := []) rfl (Nat.le_of_ble_eq_true rfl) ⟨by decide, by decide⟩ dX12_chance_24 ⟨Nat.zero_le _, Nat.zero_le _⟩) (fun H locs hw => ?_)
      refine lv_if_ne (tgt := 32) hx hb dX12_chance_27 (by decide) (fun h_8 => ?_) (fun h_8 => ?_)
      · replace hf := tx_neg hf h_8
        refine lv_aload_n hx hb dX12_chance_32 rfl (lv_at hl 0 rfl) ?_
        refine gf_X12_340 S hE hw 0 rfl rfl dX12_chance_33 ?_
        refine lv_topl (fun y_9 ey_9 => ?_)
        replace hf := tx_let_e hf ey_9
        refine lv_lstore (lv' := [(4, .long y_9), (0, .ref (a_T 0)), (1, .int x1), (2, .int x2), (3, .int x3)]) hx hb dX12_chance_36 hl (by decide) rfl (fun ls hl => ?_)
        refine lv_aload_n hx hb dX12_chance_38 rfl (lv_at hl 1 rfl) ?_
        refine lv_iload_n hx hb dX12_chance_39 rfl (lv_at hl 2 rfl) ?_
        refine lv_i2l (v := x1.toInt64) hx hb dX12_chance_40 rfl ?_
        obtain ⟨v_T_10, ev_T_10⟩ : ∃ z : S64, z = up4 v_T 0 59 (x1.toInt64) := ⟨_, rfl⟩
        replace hf := tx_let_e hf ev_T_10
        refine pf_X12_340 (ws' := cl_X12 g a_T u_T_1 v_T_10 ++ X) S hE hw rfl rfl 0 rfl (Nat.le_of_ble_eq_true rfl) (by rw [ev_T_10]; rfl) dX12_chance_41 (fun H locs hw => ?_)
        refine lv_iconst (v := 0) hx hb dX12_chance_44 (by decide) ?_
        refine lv_istore (lv' := [(6, .int (0 : Int32)), (4, .long y_9), (0, .ref (a_T 0)), (1, .int x1), (2, .int x2), (3, .int x3)]) hx hb dX12_chance_45 hl (by decide) rfl (fun ls hl => ?_)
        refine lv_iconst (v := 0) hx hb dX12_chance_47 (by decide) ?_
        refine lv_istore (lv' := [(7, .int (0 : Int32)), (6, .int (0 : Int32)), (4, .long y_9), (0, .ref (a_T 0)), (1, .int x1), (2, .int x2), (3, .int x3)]) hx hb dX12_chance_48 hl (by decide) rfl (fun ls hl => ?_)
        exact L50 fu hf hw (lv_sub hl [3, 5, 6, 2, 1, 0] rfl)
      · replace hf := tx_pos hf h_8
        refine lv_iconst (v := -1) hx hb dX12_chance_30 (by decide) ?_
        obtain ⟨e0, e1, e2⟩ := tx_in3 hf
        rw [← e0, ← e1, ← e2]
        exact tx_iret S hr hlk hw dX12_chance_31
def f_X12_tried_J137 (fu : Nat) (u_T : S32) (v_T : S64) (w3 : Int32) : Option (Int32 × S32 × S64) := tx_b2 (f_X12_goMany fu u_T v_T w3) fun (u_T_32 : S32) (v_T_33 : S64) => tx_b1 (f_X12_plainTried fu v_T_33 u_T_32) fun (u_T_35 : S32) => tx_b1 (f_X12_paidAll fu u_T_35 v_T_33 (1 : Int32)) fun (r_37 : Int32) => tx_b1 (f_X12_paidAll fu u_T_35 v_T_33 (0 : Int32)) fun (r_39 : Int32) => some (r_37 - r_39, u_T_35, v_T_33)
def f_X12_tried_J108 (fu : Nat) (K108 : S32 → S64 → Int32 → Int32 → Int32 → Option (Int32 × S32 × S64)) (u_T : S32) (v_T : S64) (w1 : Int32) (w3 : Int32) (w4 : Int32) : Option (Int32 × S32 × S64) := if (6 : Int32) ≤ w4 then (f_X12_tried_J137 fu u_T v_T w3) else (if w1 = (1 : Int32) then (tx_ck ((6 : Int32) + w4) 12 <| tx_let (up2 u_T 56 ((6 : Int32) + w4).toNatClampNeg (0 : Int32)) fun (u_T_29 : S32) => tx_let (w4 + (1 : Int32)) fun (y_30 : Int32) => K108 u_T_29 v_T w1 w3 y_30) else (f_X12_tried_J137 fu u_T v_T w3))
def f_X12_tried_L108 (fu : Nat) : Nat → S32 → S64 → Int32 → Int32 → Int32 → Option (Int32 × S32 × S64)
  | 0 => fun _ _ _ _ _ => none
  | n + 1 => f_X12_tried_J108 fu (f_X12_tried_L108 fu n)
def f_X12_tried_J102 (fu : Nat) (u_T : S32) (v_T : S64) (w1 : Int32) (w3 : Int32) (t1 : Int32) : Option (Int32 × S32 × S64) := tx_bz t1 <| tx_let (up2 u_T 0 64 t1) fun (u_T_25 : S32) => f_X12_tried_L108 fu fu u_T_25 v_T w1 w3 (0 : Int32)
def f_X12_tried_J88 (fu : Nat) (u_T : S32) (v_T : S64) (w1 : Int32) (w3 : Int32) (t1 : Int32) : Option (Int32 × S32 × S64) := tx_bz t1 <| tx_let (up2 u_T 0 63 t1) fun (u_T_22 : S32) => if w1 = (4 : Int32) then (f_X12_tried_J102 fu u_T_22 v_T w1 w3 (1 : Int32)) else (f_X12_tried_J102 fu u_T_22 v_T w1 w3 (0 : Int32))
def f_X12_tried_J74 (fu : Nat) (u_T : S32) (v_T : S64) (w1 : Int32) (w3 : Int32) (t1 : Int32) : Option (Int32 × S32 × S64) := tx_let (up2 u_T 0 66 t1) fun (u_T_19 : S32) => if w1 = (3 : Int32) then (f_X12_tried_J88 fu u_T_19 v_T w1 w3 (1 : Int32)) else (f_X12_tried_J88 fu u_T_19 v_T w1 w3 (0 : Int32))
def f_X12_tried_J60 (fu : Nat) (u_T : S32) (v_T : S64) (w1 : Int32) (w2 : Int32) (w3 : Int32) (t1 : Int32) : Option (Int32 × S32 × S64) := tx_bz t1 <| tx_let (up2 u_T 0 62 t1) fun (u_T_17 : S32) => if w1 = (2 : Int32) then (f_X12_tried_J74 fu u_T_17 v_T w1 w3 w2) else (f_X12_tried_J74 fu u_T_17 v_T w1 w3 (-1 : Int32))
def f_X12_tried_J46 (fu : Nat) (u_T : S32) (v_T : S64) (w1 : Int32) (w2 : Int32) (w3 : Int32) : Option (Int32 × S32 × S64) := tx_b1 (f_X12_layTried fu v_T u_T) fun (u_T_14 : S32) => if w1 = (0 : Int32) then (f_X12_tried_J60 fu u_T_14 v_T w1 w2 w3 (1 : Int32)) else (f_X12_tried_J60 fu u_T_14 v_T w1 w2 w3 (0 : Int32))
def f_X12_tried (fu : Nat) (u_T : S32) (v_T : S64) (x1 : Int32) (x2 : Int32) (x3 : Int32) : Option (Int32 × S32 × S64) := tx_let (up2 u_T 0 2 (0 : Int32)) fun (u_T_1 : S32) => tx_b1 (f_X12_isIn fu x1 (0 : Int32) (4 : Int32)) fun (r_3 : Int32) => if r_3 = (0 : Int32) then (some ((-1 : Int32), u_T_1, v_T)) else (tx_b1 (f_X12_isIn fu x3 (0 : Int32) (99 : Int32)) fun (r_6 : Int32) => if r_6 = (0 : Int32) then (some ((-1 : Int32), u_T_1, v_T)) else (if x1 = (2 : Int32) then (tx_b1 (f_X12_isMan fu u_T_1 v_T x2) fun (r_11 : Int32) => if r_11 = (0 : Int32) then (some ((-1 : Int32), u_T_1, v_T)) else (f_X12_tried_J46 fu u_T_1 v_T x1 x2 x3)) else (if x2 = (0 : Int32) then (f_X12_tried_J46 fu u_T_1 v_T x1 x2 x3) else (some ((-1 : Int32), u_T_1, v_T)))))
set_option maxHeartbeats 4000000 in
set_option maxRecDepth 100000 in
theorem c_X12_tried {l : Launch} {g : GG} {A : Nat → Prop} {X : va_W} {fu : Nat} {a_T : Nat → Nat} {u_T : S32} {v_T : S64} {x1 : Int32} {x2 : Int32} {x3 : Int32} {r : Int32} {zu_T : S32} {zv_T : S64} (hf : f_X12_tried fu  u_T v_T x1 x2 x3 = some (r, zu_T, zv_T)) : MI l yX12_tried cX12_tried 5 (some .int) 9 g A (cl_X12 g a_T u_T v_T ++ X) [.ref (a_T 0), .int x1, .int x2, .int x3] r (cl_X12 g a_T zu_T zv_T ++ X) := by
  refine tx_start (av := [.ref (a_T 0), .int x1, .int x2, .int x3]) (by decide) (Nat.le_of_ble_eq_true rfl) ?_
  intro p e s m below meth c ls S hr hlk hE hw hl
  have S : CallFix p m c cX12_tried 5 s (List.toArray [.ref (a_T 0), .int x1, .int x2, .int x3]) (Cond.code yX12_tried cX12_tried 5 (some .int) :: allW) RX12 := S
  have hx := S.1
  have hb := S.2.1
  have hown := S.2.2.2.1
  have hts : ∀ w ∈ allW, w.before (List.toArray [.ref (a_T 0), .int x1, .int x2, .int x3]) s = true := fun w h => S.2.2.2.2 w (List.mem_cons_of_mem _ h)
  have hl : lv_has ls 5 [(0, .ref (a_T 0)), (1, .int x1), (2, .int x2), (3, .int x3)] := hl
  have J137 : ∀ {u_T : S32} {v_T : S64} {w3 : Int32} {H : Heap} {locs : List Loc} {ls : Array Slot}, f_X12_tried_J137 fu u_T v_T w3 = some (r, zu_T, zv_T) → WD g A s.heap (cl_X12 g a_T u_T v_T ++ X) H locs → lv_has ls 5 [(0, .ref (a_T 0)), (3, .int w3)] → W p l e (rmH 9) s m (List.toArray [.ref (a_T 0), .int x1, .int x2, .int x3]) below meth c H locs 0 0 (MQ below (va_Qi (fun r2 (_ : Unit) => r2 = r) (fun _ t => POST g A (cl_X12 g a_T zu_T zv_T ++ X) t) A) (List.toArray [.ref (a_T 0), .int x1, .int x2, .int x3]) s 0 0 A) (F0 m 137 ls []) := by
    intro u_T v_T w3 H locs ls hf hw hl
    unfold f_X12_tried_J137 at hf
    refine lv_aload_n hx hb dX12_tried_137 rfl (lv_at hl 0 rfl) ?_
    refine lv_iload_n hx hb dX12_tried_138 rfl (lv_at hl 1 rfl) ?_
    obtain ⟨u_T_32, v_T_33, h_31, hf⟩ := tx_b2_e hf
    refine tx_cv hw (tx_runV S hE hw (c_X12_goMany h_31) lk_X12_477 (q0 := 0) rfl rfl rfl hl.1 (rest := []) rfl (Nat.le_of_ble_eq_true rfl) ⟨by decide, by decide⟩ dX12_tried_139 ⟨Nat.zero_le _, Nat.zero_le _⟩) (fun H locs hw => ?_)
    refine lv_aload_n hx hb dX12_tried_142 rfl (lv_at hl 0 rfl) ?_
    obtain ⟨u_T_35, h_34, hf⟩ := tx_b1_e hf
    refine tx_cv hw (tx_runV S hE hw (c_X12_plainTried h_34) lk_X12_344 (q0 := 0) rfl rfl rfl hl.1 (rest := []) rfl (Nat.le_of_ble_eq_true rfl) ⟨by decide, by decide⟩ dX12_tried_143 ⟨Nat.zero_le _, Nat.zero_le _⟩) (fun H locs hw => ?_)
    refine lv_aload_n hx hb dX12_tried_146 rfl (lv_at hl 0 rfl) ?_
    refine lv_iconst (v := 1) hx hb dX12_tried_147 (by decide) ?_
    obtain ⟨r_37, h_36, hf⟩ := tx_b1_e hf
    refine tx_ci hw (tx_runV S hE hw (c_X12_paidAll h_36) lk_X12_448 (q0 := 0) rfl rfl rfl hl.1 (rest := []) rfl (Nat.le_of_ble_eq_true rfl) ⟨by decide, by decide⟩ dX12_tried_148 ⟨Nat.zero_le _, Nat.zero_le _⟩) (fun H locs hw => ?_)
    refine lv_aload_n hx hb dX12_tried_151 rfl (lv_at hl 0 rfl) ?_
    refine lv_iconst (v := 0) hx hb dX12_tried_152 (by decide) ?_
    obtain ⟨r_39, h_38, hf⟩ := tx_b1_e hf
    refine tx_ci hw (tx_runV S hE hw (c_X12_paidAll h_38) lk_X12_448 (q0 := 0) rfl rfl rfl hl.1 (rest := [.int r_37]) rfl (Nat.le_of_ble_eq_true rfl) ⟨by decide, by decide⟩ dX12_tried_153 ⟨Nat.zero_le _, Nat.zero_le _⟩) (fun H locs hw => ?_)
    refine lv_isub hx hb dX12_tried_156 ?_
    obtain ⟨e0, e1, e2⟩ := tx_in3 hf
    rw [← e0, ← e1, ← e2]
    exact tx_iret S hr hlk hw dX12_tried_157
  have J108 : ∀ {K108 : S32 → S64 → Int32 → Int32 → Int32 → Option (Int32 × S32 × S64)} (hK108 : ∀ {u_T : S32} {v_T : S64} {w1 : Int32} {w3 : Int32} {w4 : Int32} {H : Heap} {locs : List Loc} {ls : Array Slot}, K108 u_T v_T w1 w3 w4 = some (r, zu_T, zv_T) → WD g A s.heap (cl_X12 g a_T u_T v_T ++ X) H locs → lv_has ls 5 [(0, .ref (a_T 0)), (1, .int w1), (3, .int w3), (4, .int w4)] → W p l e (rmH 9) s m (List.toArray [.ref (a_T 0), .int x1, .int x2, .int x3]) below meth c H locs 0 0 (MQ below (va_Qi (fun r2 (_ : Unit) => r2 = r) (fun _ t => POST g A (cl_X12 g a_T zu_T zv_T ++ X) t) A) (List.toArray [.ref (a_T 0), .int x1, .int x2, .int x3]) s 0 0 A) (F0 m 108 ls [])), ∀ {u_T : S32} {v_T : S64} {w1 : Int32} {w3 : Int32} {w4 : Int32} {H : Heap} {locs : List Loc} {ls : Array Slot}, f_X12_tried_J108 fu K108 u_T v_T w1 w3 w4 = some (r, zu_T, zv_T) → WD g A s.heap (cl_X12 g a_T u_T v_T ++ X) H locs → lv_has ls 5 [(0, .ref (a_T 0)), (1, .int w1), (3, .int w3), (4, .int w4)] → W p l e (rmH 9) s m (List.toArray [.ref (a_T 0), .int x1, .int x2, .int x3]) below meth c H locs 0 0 (MQ below (va_Qi (fun r2 (_ : Unit) => r2 = r) (fun _ t => POST g A (cl_X12 g a_T zu_T zv_T ++ X) t) A) (List.toArray [.ref (a_T 0), .int x1, .int x2, .int x3]) s 0 0 A) (F0 m 108 ls []) := by
    intro K108 hK108 u_T v_T w1 w3 w4 H locs ls hf hw hl
    unfold f_X12_tried_J108 at hf
    refine lv_iload hx hb dX12_tried_108 (lv_at hl 3 rfl) ?_
    refine lv_bipush (v := 6) hx hb dX12_tried_110 (by decide) ?_
    refine lv_icmp_ge (tgt := 137) hx hb dX12_tried_112 (by decide) (fun h_26 => ?_) (fun h_26 => ?_)
    · replace hf := tx_pos hf h_26
      exact J137 hf hw (lv_sub hl [0, 2] rfl)
    · replace hf := tx_neg hf h_26
      refine lv_iload_n hx hb dX12_tried_115 rfl (lv_at hl 1 rfl) ?_
      refine lv_iconst (v := 1) hx hb dX12_tried_116 (by decide) ?_
      refine lv_icmp_ne (tgt := 137) hx hb dX12_tried_117 (by decide) (fun h_27 => ?_) (fun h_27 => ?_)
      · replace hf := tx_neg hf h_27
        exact J137 hf hw (lv_sub hl [0, 2] rfl)
      · replace hf := tx_pos hf h_27
        refine lv_aload_n hx hb dX12_tried_120 rfl (lv_at hl 0 rfl) ?_
        refine gf_X12_106 S hE hw 0 rfl rfl dX12_tried_121 ?_
        refine lv_bipush (v := 6) hx hb dX12_tried_124 (by decide) ?_
        refine lv_iload hx hb dX12_tried_126 (lv_at hl 3 rfl) ?_
        refine lv_iadd hx hb dX12_tried_128 ?_
        refine lv_iconst (v := 0) hx hb dX12_tried_129 (by decide) ?_
        obtain ⟨h_28, hf⟩ := tx_ck_e hf
        obtain ⟨u_T_29, eu_T_29⟩ : ∃ z : S32, z = up2 u_T 56 ((6 : Int32) + w4).toNatClampNeg (0 : Int32) := ⟨_, rfl⟩
        replace hf := tx_let_e hf eu_T_29
        refine tx_iast (ws' := cl_X12 g a_T u_T_29 v_T ++ X) S hE hw 31 rfl h_28 (by rw [eu_T_29]; rfl) dX12_tried_130 (fun H locs hw => ?_)
        obtain ⟨y_30, ey_30⟩ : ∃ y : Int32, y = w4 + (1 : Int32) := ⟨_, rfl⟩
        replace hf := tx_let_e hf ey_30
        refine lv_iinc (v := y_30) (lv' := [(4, .int y_30), (0, .ref (a_T 0)), (1, .int w1), (3, .int w3)]) hx hb dX12_tried_131 hl (k := 3) rfl (by rw [ey_30]; rfl) (by decide) rfl (fun ls hl => ?_)
        refine lv_goto (tgt := 108) hx hb dX12_tried_134 (by decide) ?_
        exact hK108 hf hw (lv_sub hl [1, 2, 3, 0] rfl)
  have L108 : ∀ (n : Nat), ∀ {u_T : S32} {v_T : S64} {w1 : Int32} {w3 : Int32} {w4 : Int32} {H : Heap} {locs : List Loc} {ls : Array Slot}, f_X12_tried_L108 fu n u_T v_T w1 w3 w4 = some (r, zu_T, zv_T) → WD g A s.heap (cl_X12 g a_T u_T v_T ++ X) H locs → lv_has ls 5 [(0, .ref (a_T 0)), (1, .int w1), (3, .int w3), (4, .int w4)] → W p l e (rmH 9) s m (List.toArray [.ref (a_T 0), .int x1, .int x2, .int x3]) below meth c H locs 0 0 (MQ below (va_Qi (fun r2 (_ : Unit) => r2 = r) (fun _ t => POST g A (cl_X12 g a_T zu_T zv_T ++ X) t) A) (List.toArray [.ref (a_T 0), .int x1, .int x2, .int x3]) s 0 0 A) (F0 m 108 ls []) := by
    intro  n
    induction n with
    | zero => intro u_T v_T w1 w3 w4 H locs ls hf; exact absurd hf (by intro q; cases q)
    | succ n ih => exact fun hf hw hl => J108 ih hf hw hl
  have J102 : ∀ {u_T : S32} {v_T : S64} {w1 : Int32} {w3 : Int32} {t1 : Int32} {H : Heap} {locs : List Loc} {ls : Array Slot}, f_X12_tried_J102 fu u_T v_T w1 w3 t1 = some (r, zu_T, zv_T) → WD g A s.heap (cl_X12 g a_T u_T v_T ++ X) H locs → lv_has ls 5 [(0, .ref (a_T 0)), (1, .int w1), (3, .int w3)] → W p l e (rmH 9) s m (List.toArray [.ref (a_T 0), .int x1, .int x2, .int x3]) below meth c H locs 0 0 (MQ below (va_Qi (fun r2 (_ : Unit) => r2 = r) (fun _ t => POST g A (cl_X12 g a_T zu_T zv_T ++ X) t) A) (List.toArray [.ref (a_T 0), .int x1, .int x2, .int x3]) s 0 0 A) (F0 m 102 ls [.int t1, .ref (a_T 0)]) := by
    intro u_T v_T w1 w3 t1 H locs ls hf hw hl
    unfold f_X12_tried_J102 at hf
    obtain ⟨h_24, hf⟩ := tx_bz_e hf
    obtain ⟨u_T_25, eu_T_25⟩ : ∃ z : S32, z = up2 u_T 0 64 t1 := ⟨_, rfl⟩
    replace hf := tx_let_e hf eu_T_25
    refine pf_X12_365 (ws' := cl_X12 g a_T u_T_25 v_T ++ X) S hE hw (tx_bz_n h_24) (tx_bz_f h_24) 0 rfl (Nat.le_of_ble_eq_true rfl) (by rw [eu_T_25]; rfl) dX12_tried_102 (fun H locs hw => ?_)
    refine lv_iconst (v := 0) hx hb dX12_tried_105 (by decide) ?_
    refine lv_istore (lv' := [(4, .int (0 : Int32)), (0, .ref (a_T 0)), (1, .int w1), (3, .int w3)]) hx hb dX12_tried_106 hl (by decide) rfl (fun ls hl => ?_)
    exact L108 fu hf hw (lv_sub hl [1, 2, 3, 0] rfl)
  have J88 : ∀ {u_T : S32} {v_T : S64} {w1 : Int32} {w3 : Int32} {t1 : Int32} {H : Heap} {locs : List Loc} {ls : Array Slot}, f_X12_tried_J88 fu u_T v_T w1 w3 t1 = some (r, zu_T, zv_T) → WD g A s.heap (cl_X12 g a_T u_T v_T ++ X) H locs → lv_has ls 5 [(0, .ref (a_T 0)), (1, .int w1), (3, .int w3)] → W p l e (rmH 9) s m (List.toArray [.ref (a_T 0), .int x1, .int x2, .int x3]) below meth c H locs 0 0 (MQ below (va_Qi (fun r2 (_ : Unit) => r2 = r) (fun _ t => POST g A (cl_X12 g a_T zu_T zv_T ++ X) t) A) (List.toArray [.ref (a_T 0), .int x1, .int x2, .int x3]) s 0 0 A) (F0 m 88 ls [.int t1, .ref (a_T 0)]) := by
    intro u_T v_T w1 w3 t1 H locs ls hf hw hl
    unfold f_X12_tried_J88 at hf
    obtain ⟨h_21, hf⟩ := tx_bz_e hf
    obtain ⟨u_T_22, eu_T_22⟩ : ∃ z : S32, z = up2 u_T 0 63 t1 := ⟨_, rfl⟩
    replace hf := tx_let_e hf eu_T_22
    refine pf_X12_362 (ws' := cl_X12 g a_T u_T_22 v_T ++ X) S hE hw (tx_bz_n h_21) (tx_bz_f h_21) 0 rfl (Nat.le_of_ble_eq_true rfl) (by rw [eu_T_22]; rfl) dX12_tried_88 (fun H locs hw => ?_)
    refine lv_aload_n hx hb dX12_tried_91 rfl (lv_at hl 0 rfl) ?_
    refine lv_iload_n hx hb dX12_tried_92 rfl (lv_at hl 1 rfl) ?_
    refine lv_iconst (v := 4) hx hb dX12_tried_93 (by decide) ?_
    refine lv_icmp_ne (tgt := 101) hx hb dX12_tried_94 (by decide) (fun h_23 => ?_) (fun h_23 => ?_)
    · replace hf := tx_neg hf h_23
      refine lv_iconst (v := 0) hx hb dX12_tried_101 (by decide) ?_
      exact J102 hf hw (lv_sub hl [0, 1, 2] rfl)
    · replace hf := tx_pos hf h_23
      refine lv_iconst (v := 1) hx hb dX12_tried_97 (by decide) ?_
      refine lv_goto (tgt := 102) hx hb dX12_tried_98 (by decide) ?_
      exact J102 hf hw (lv_sub hl [0, 1, 2] rfl)
  have J74 : ∀ {u_T : S32} {v_T : S64} {w1 : Int32} {w3 : Int32} {t1 : Int32} {H : Heap} {locs : List Loc} {ls : Array Slot}, f_X12_tried_J74 fu u_T v_T w1 w3 t1 = some (r, zu_T, zv_T) → WD g A s.heap (cl_X12 g a_T u_T v_T ++ X) H locs → lv_has ls 5 [(0, .ref (a_T 0)), (1, .int w1), (3, .int w3)] → W p l e (rmH 9) s m (List.toArray [.ref (a_T 0), .int x1, .int x2, .int x3]) below meth c H locs 0 0 (MQ below (va_Qi (fun r2 (_ : Unit) => r2 = r) (fun _ t => POST g A (cl_X12 g a_T zu_T zv_T ++ X) t) A) (List.toArray [.ref (a_T 0), .int x1, .int x2, .int x3]) s 0 0 A) (F0 m 74 ls [.int t1, .ref (a_T 0)]) := by
    intro u_T v_T w1 w3 t1 H locs ls hf hw hl
    unfold f_X12_tried_J74 at hf
    obtain ⟨u_T_19, eu_T_19⟩ : ∃ z : S32, z = up2 u_T 0 66 t1 := ⟨_, rfl⟩
    replace hf := tx_let_e hf eu_T_19
    refine pf_X12_371 (ws' := cl_X12 g a_T u_T_19 v_T ++ X) S hE hw rfl rfl 0 rfl (Nat.le_of_ble_eq_true rfl) (by rw [eu_T_19]; rfl) dX12_tried_74 (fun H locs hw => ?_)
    refine lv_aload_n hx hb dX12_tried_77 rfl (lv_at hl 0 rfl) ?_
    refine lv_iload_n hx hb dX12_tried_78 rfl (lv_at hl 1 rfl) ?_
    refine lv_iconst (v := 3) hx hb dX12_tried_79 (by decide) ?_
    refine lv_icmp_ne (tgt := 87) hx hb dX12_tried_80 (by decide) (fun h_20 => ?_) (fun h_20 => ?_)
    · replace hf := tx_neg hf h_20
      refine lv_iconst (v := 0) hx hb dX12_tried_87 (by decide) ?_
      exact J88 hf hw (lv_sub hl [0, 1, 2] rfl)
    · replace hf := tx_pos hf h_20
      refine lv_iconst (v := 1) hx hb dX12_tried_83 (by decide) ?_
      refine lv_goto (tgt := 88) hx hb dX12_tried_84 (by decide) ?_
      exact J88 hf hw (lv_sub hl [0, 1, 2] rfl)
  have J60 : ∀ {u_T : S32} {v_T : S64} {w1 : Int32} {w2 : Int32} {w3 : Int32} {t1 : Int32} {H : Heap} {locs : List Loc} {ls : Array Slot}, f_X12_tried_J60 fu u_T v_T w1 w2 w3 t1 = some (r, zu_T, zv_T) → WD g A s.heap (cl_X12 g a_T u_T v_T ++ X) H locs → lv_has ls 5 [(0, .ref (a_T 0)), (1, .int w1), (2, .int w2), (3, .int w3)] → W p l e (rmH 9) s m (List.toArray [.ref (a_T 0), .int x1, .int x2, .int x3]) below meth c H locs 0 0 (MQ below (va_Qi (fun r2 (_ : Unit) => r2 = r) (fun _ t => POST g A (cl_X12 g a_T zu_T zv_T ++ X) t) A) (List.toArray [.ref (a_T 0), .int x1, .int x2, .int x3]) s 0 0 A) (F0 m 60 ls [.int t1, .ref (a_T 0)]) := by
    intro u_T v_T w1 w2 w3 t1 H locs ls hf hw hl
    unfold f_X12_tried_J60 at hf
    obtain ⟨h_16, hf⟩ := tx_bz_e hf
    obtain ⟨u_T_17, eu_T_17⟩ : ∃ z : S32, z = up2 u_T 0 62 t1 := ⟨_, rfl⟩
    replace hf := tx_let_e hf eu_T_17
    refine pf_X12_359 (ws' := cl_X12 g a_T u_T_17 v_T ++ X) S hE hw (tx_bz_n h_16) (tx_bz_f h_16) 0 rfl (Nat.le_of_ble_eq_true rfl) (by rw [eu_T_17]; rfl) dX12_tried_60 (fun H locs hw => ?_)
    refine lv_aload_n hx hb dX12_tried_63 rfl (lv_at hl 0 rfl) ?_
    refine lv_iload_n hx hb dX12_tried_64 rfl (lv_at hl 1 rfl) ?_
    refine lv_iconst (v := 2) hx hb dX12_tried_65 (by decide) ?_
    refine lv_icmp_ne (tgt := 73) hx hb dX12_tried_66 (by decide) (fun h_18 => ?_) (fun h_18 => ?_)
    · replace hf := tx_neg hf h_18
      refine lv_iconst (v := -1) hx hb dX12_tried_73 (by decide) ?_
      exact J74 hf hw (lv_sub hl [0, 1, 3] rfl)
    · replace hf := tx_pos hf h_18
      refine lv_iload_n hx hb dX12_tried_69 rfl (lv_at hl 2 rfl) ?_
      refine lv_goto (tgt := 74) hx hb dX12_tried_70 (by decide) ?_
      exact J74 hf hw (lv_sub hl [0, 1, 3] rfl)
  have J46 : ∀ {u_T : S32} {v_T : S64} {w1 : Int32} {w2 : Int32} {w3 : Int32} {H : Heap} {locs : List Loc} {ls : Array Slot}, f_X12_tried_J46 fu u_T v_T w1 w2 w3 = some (r, zu_T, zv_T) → WD g A s.heap (cl_X12 g a_T u_T v_T ++ X) H locs → lv_has ls 5 [(0, .ref (a_T 0)), (1, .int w1), (2, .int w2), (3, .int w3)] → W p l e (rmH 9) s m (List.toArray [.ref (a_T 0), .int x1, .int x2, .int x3]) below meth c H locs 0 0 (MQ below (va_Qi (fun r2 (_ : Unit) => r2 = r) (fun _ t => POST g A (cl_X12 g a_T zu_T zv_T ++ X) t) A) (List.toArray [.ref (a_T 0), .int x1, .int x2, .int x3]) s 0 0 A) (F0 m 46 ls []) := by
    intro u_T v_T w1 w2 w3 H locs ls hf hw hl
    unfold f_X12_tried_J46 at hf
    refine lv_aload_n hx hb dX12_tried_46 rfl (lv_at hl 0 rfl) ?_
    obtain ⟨u_T_14, h_13, hf⟩ := tx_b1_e hf
    refine tx_cv hw (tx_runV S hE hw (c_X12_layTried h_13) lk_X12_474 (q0 := 0) rfl rfl rfl hl.1 (rest := []) rfl (Nat.le_of_ble_eq_true rfl) ⟨by decide, by decide⟩ dX12_tried_47 ⟨Nat.zero_le _, Nat.zero_le _⟩) (fun H locs hw => ?_)
    refine lv_aload_n hx hb dX12_tried_50 rfl (lv_at hl 0 rfl) ?_
    refine lv_iload_n hx hb dX12_tried_51 rfl (lv_at hl 1 rfl) ?_
    refine lv_if_ne (tgt := 59) hx hb dX12_tried_52 (by decide) (fun h_15 => ?_) (fun h_15 => ?_)
    · replace hf := tx_neg hf h_15
      refine lv_iconst (v := 0) hx hb dX12_tried_59 (by decide) ?_
      exact J60 hf hw (lv_sub hl [0, 1, 2, 3] rfl)
    · replace hf := tx_pos hf h_15
      refine lv_iconst (v := 1) hx hb dX12_tried_55 (by decide) ?_
      refine lv_goto (tgt := 60) hx hb dX12_tried_56 (by decide) ?_
      exact J60 hf hw (lv_sub hl [0, 1, 2, 3] rfl)
  unfold f_X12_tried at hf
  refine lv_aload_n hx hb dX12_tried_0 rfl (lv_at hl 0 rfl) ?_
  refine lv_iconst (v := 0) hx hb dX12_tried_1 (by decide) ?_
  obtain ⟨u_T_1, eu_T_1⟩ : ∃ z : S32, z = up2 u_T 0 2 (0 : Int32) := ⟨_, rfl⟩
  replace hf := tx_let_e hf eu_T_1
  refine pf_X12_145 (ws' := cl_X12 g a_T u_T_1 v_T ++ X) S hE hw rfl rfl 0 rfl (Nat.le_of_ble_eq_true rfl) (by rw [eu_T_1]; rfl) dX12_tried_2 (fun H locs hw => ?_)
  refine lv_iload_n hx hb dX12_tried_5 rfl (lv_at hl 1 rfl) ?_
  refine lv_iconst (v := 0) hx hb dX12_tried_6 (by decide) ?_
  refine lv_iconst (v := 4) hx hb dX12_tried_7 (by decide) ?_
  obtain ⟨r_3, h_2, hf⟩ := tx_b1_e hf
  refine tx_ci hw (tx_runS S hE hw (c_X12_isIn h_2) lk_X12_190 rfl hl.1 (rest := []) rfl (Nat.le_of_ble_eq_true rfl) ⟨by decide, by decide⟩ dX12_tried_8 ⟨Nat.zero_le _, Nat.zero_le _⟩) (fun H locs hw => ?_)
  refine lv_if_eq (tgt := 44) hx hb dX12_tried_11 (by decide) (fun h_4 => ?_) (fun h_4 => ?_)
  · replace hf := tx_pos hf h_4
    refine lv_iconst (v := -1) hx hb dX12_tried_44 (by decide) ?_
    obtain ⟨e0, e1, e2⟩ := tx_in3 hf
    rw [← e0, ← e1, ← e2]
    exact tx_iret S hr hlk hw dX12_tried_45
  · replace hf := tx_neg hf h_4
    refine lv_iload_n hx hb dX12_tried_14 rfl (lv_at hl 3 rfl) ?_
    refine lv_iconst (v := 0) hx hb dX12_tried_15 (by decide) ?_
    refine lv_bipush (v := 99) hx hb dX12_tried_16 (by decide) ?_
    obtain ⟨r_6, h_5, hf⟩ := tx_b1_e hf
    refine tx_ci hw (tx_runS S hE hw (c_X12_isIn h_5) lk_X12_190 rfl hl.1 (rest := []) rfl (Nat.le_of_ble_eq_true rfl) ⟨by decide, by decide⟩ dX12_tried_18 ⟨Nat.zero_le _, Nat.zero_le _⟩) (fun H locs hw => ?_)
    refine lv_if_eq (tgt := 44) hx hb dX12_tried_21 (by decide) (fun h_7 => ?_) (fun h_7 => ?_)
    · replace hf := tx_pos hf h_7
      refine lv_iconst (v := -1) hx hb dX12_tried_44 (by decide) ?_
      obtain ⟨e0, e1, e2⟩ := tx_in3 hf
      rw [← e0, ← e1, ← e2]
      exact tx_iret S hr hlk hw dX12_tried_45
    · replace hf := tx_neg hf h_7
      refine lv_iload_n hx hb dX12_tried_24 rfl (lv_at hl 1 rfl) ?_
      refine lv_iconst (v := 2) hx hb dX12_tried_25 (by decide) ?_
      refine lv_icmp_ne (tgt := 40) hx hb dX12_tried_26 (by decide) (fun h_8 => ?_) (fun h_8 => ?_)
      · replace hf := tx_neg hf h_8
        refine lv_iload_n hx hb dX12_tried_40 rfl (lv_at hl 2 rfl) ?_
        refine lv_if_eq (tgt := 46) hx hb dX12_tried_41 (by decide) (fun h_9 => ?_) (fun h_9 => ?_)
        · replace hf := tx_pos hf h_9
          exact J46 hf hw (lv_sub hl [0, 1, 2, 3] rfl)
        · replace hf := tx_neg hf h_9
          refine lv_iconst (v := -1) hx hb dX12_tried_44 (by decide) ?_
          obtain ⟨e0, e1, e2⟩ := tx_in3 hf
          rw [← e0, ← e1, ← e2]
          exact tx_iret S hr hlk hw dX12_tried_45
      · replace hf := tx_pos hf h_8
        refine lv_aload_n hx hb dX12_tried_29 rfl (lv_at hl 0 rfl) ?_
        refine lv_iload_n hx hb dX12_tried_30 rfl (lv_at hl 2 rfl) ?_
        obtain ⟨r_11, h_10, hf⟩ := tx_b1_e hf
        refine tx_ci hw (tx_runV S hE hw (c_X12_isMan h_10) lk_X12_460 (q0 := 0) rfl rfl rfl hl.1 (rest := []) rfl (Nat.le_of_ble_eq_true rfl) ⟨by decide, by decide⟩ dX12_tried_31 ⟨Nat.zero_le _, Nat.zero_le _⟩) (fun H locs hw => ?_)
        refine lv_if_ne (tgt := 46) hx hb dX12_tried_34 (by decide) (fun h_12 => ?_) (fun h_12 => ?_)
        · replace hf := tx_neg hf h_12
          exact J46 hf hw (lv_sub hl [0, 1, 2, 3] rfl)
        · replace hf := tx_pos hf h_12
          refine lv_goto (tgt := 44) hx hb dX12_tried_37 (by decide) ?_
          refine lv_iconst (v := -1) hx hb dX12_tried_44 (by decide) ?_
          obtain ⟨e0, e1, e2⟩ := tx_in3 hf
          rw [← e0, ← e1, ← e2]
          exact tx_iret S hr hlk hw dX12_tried_45
def f_X12_take_tX12r77_J27 (fu : Nat) (v_T : S64) (K27 : S32 → Int32 → Int32 → Option (S32)) (u_T : S32) (w2 : Int32) (w3 : Int32) : Option (S32) := if (6 : Int32) ≤ w3 then (tx_ck (w2 + (30 : Int32)) 620 <| tx_let (up2 u_T 58 (0 : Int32).toNatClampNeg (u_T 77 (w2 + (30 : Int32)).toNatClampNeg)) fun (u_T_8 : S32) => some u_T_8) else (tx_ck ((w2 + (12 : Int32)) + w3) 620 <| tx_ck w3 12 <| tx_let (up2 u_T 53 w3.toNatClampNeg (u_T 77 ((w2 + (12 : Int32)) + w3).toNatClampNeg)) fun (u_T_11 : S32) => tx_ck ((w2 + (18 : Int32)) + w3) 620 <| tx_ck w3 12 <| tx_let (up2 u_T_11 56 w3.toNatClampNeg (u_T_11 77 ((w2 + (18 : Int32)) + w3).toNatClampNeg)) fun (u_T_14 : S32) => tx_ck ((w2 + (24 : Int32)) + w3) 620 <| tx_ck w3 12 <| tx_let (up2 u_T_14 57 w3.toNatClampNeg (u_T_14 77 ((w2 + (24 : Int32)) + w3).toNatClampNeg)) fun (u_T_17 : S32) => tx_let (w3 + (1 : Int32)) fun (y_18 : Int32) => K27 u_T_17 w2 y_18)
def f_X12_take_tX12r77_L27 (fu : Nat) (v_T : S64) : Nat → S32 → Int32 → Int32 → Option (S32)
  | 0 => fun _ _ _ => none
  | n + 1 => f_X12_take_tX12r77_J27 fu v_T (f_X12_take_tX12r77_L27 fu v_T n)
def f_X12_take_tX12r77_J2 (fu : Nat) (v_T : S64) (K2 : S32 → Int32 → Int32 → Option (S32)) (u_T : S32) (w2 : Int32) (w3 : Int32) : Option (S32) := if (12 : Int32) ≤ w3 then (f_X12_take_tX12r77_L27 fu v_T fu u_T w2 (0 : Int32)) else (tx_ck (w2 + w3) 620 <| tx_ck w3 24 <| tx_let (up2 u_T 51 w3.toNatClampNeg (u_T 77 (w2 + w3).toNatClampNeg)) fun (u_T_4 : S32) => tx_let (w3 + (1 : Int32)) fun (y_5 : Int32) => K2 u_T_4 w2 y_5)
def f_X12_take_tX12r77_L2 (fu : Nat) (v_T : S64) : Nat → S32 → Int32 → Int32 → Option (S32)
  | 0 => fun _ _ _ => none
  | n + 1 => f_X12_take_tX12r77_J2 fu v_T (f_X12_take_tX12r77_L2 fu v_T n)
def f_X12_take_tX12r77 (fu : Nat) (v_T : S64) (u_T : S32) (x2 : Int32) : Option (S32) := f_X12_take_tX12r77_L2 fu v_T fu u_T x2 (0 : Int32)
set_option maxHeartbeats 4000000 in
set_option maxRecDepth 100000 in
theorem c_X12_take_tX12r77 {l : Launch} {g : GG} {A : Nat → Prop} {X : va_W} {fu : Nat} {a_T : Nat → Nat} {u_T : S32} {v_T : S64} {x2 : Int32} {zu_T : S32} (hf : f_X12_take_tX12r77 fu v_T u_T x2 = some zu_T) : MV l yX12_take cX12_take 4 none 0 g A (cl_X12 g a_T u_T v_T ++ X) [.ref (a_T 0), .ref (a_T 77), .int x2] (cl_X12 g a_T zu_T v_T ++ X) := by
  refine tx_start (av := [.ref (a_T 0), .ref (a_T 77), .int x2]) (by decide) (Nat.le_of_ble_eq_true rfl) ?_
  intro p e s m below meth c ls S hr hlk hE hw hl
  have S : CallFix p m c cX12_take 4 s (List.toArray [.ref (a_T 0), .ref (a_T 77), .int x2]) (Cond.code yX12_take cX12_take 4 none :: allW) RX12 := S
  have hx := S.1
  have hb := S.2.1
  have hown := S.2.2.2.1
  have hts : ∀ w ∈ allW, w.before (List.toArray [.ref (a_T 0), .ref (a_T 77), .int x2]) s = true := fun w h => S.2.2.2.2 w (List.mem_cons_of_mem _ h)
  have hl : lv_has ls 4 [(0, .ref (a_T 0)), (1, .ref (a_T 77)), (2, .int x2)] := hl
  have J27 : ∀ {K27 : S32 → Int32 → Int32 → Option (S32)} (hK27 : ∀ {u_T : S32} {w2 : Int32} {w3 : Int32} {H : Heap} {locs : List Loc} {ls : Array Slot}, K27 u_T w2 w3 = some zu_T → WD g A s.heap (cl_X12 g a_T u_T v_T ++ X) H locs → lv_has ls 4 [(0, .ref (a_T 0)), (1, .ref (a_T 77)), (2, .int w2), (3, .int w3)] → W p l e (rmH 0) s m (List.toArray [.ref (a_T 0), .ref (a_T 77), .int x2]) below meth c H locs 0 0 (MQ below (va_Qv (fun (_ : Unit) => True) (fun _ t => POST g A (cl_X12 g a_T zu_T v_T ++ X) t) A) (List.toArray [.ref (a_T 0), .ref (a_T 77), .int x2]) s 0 0 A) (F0 m 27 ls [])), ∀ {u_T : S32} {w2 : Int32} {w3 : Int32} {H : Heap} {locs : List Loc} {ls : Array Slot}, f_X12_take_tX12r77_J27 fu v_T K27 u_T w2 w3 = some zu_T → WD g A s.heap (cl_X12 g a_T u_T v_T ++ X) H locs → lv_has ls 4 [(0, .ref (a_T 0)), (1, .ref (a_T 77)), (2, .int w2), (3, .int w3)] → W p l e (rmH 0) s m (List.toArray [.ref (a_T 0), .ref (a_T 77), .int x2]) below meth c H locs 0 0 (MQ below (va_Qv (fun (_ : Unit) => True) (fun _ t => POST g A (cl_X12 g a_T zu_T v_T ++ X) t) A) (List.toArray [.ref (a_T 0), .ref (a_T 77), .int x2]) s 0 0 A) (F0 m 27 ls []) := by
    intro K27 hK27 u_T w2 w3 H locs ls hf hw hl
    unfold f_X12_take_tX12r77_J27 at hf
    refine lv_iload_n hx hb dX12_take_27 rfl (lv_at hl 3 rfl) ?_
    refine lv_bipush (v := 6) hx hb dX12_take_28 (by decide) ?_
    refine lv_icmp_ge (tgt := 81) hx hb dX12_take_30 (by decide) (fun h_6 => ?_) (fun h_6 => ?_)
    · replace hf := tx_pos hf h_6
      refine lv_aload_n hx hb dX12_take_81 rfl (lv_at hl 0 rfl) ?_
      refine gf_X12_112 S hE hw 0 rfl rfl dX12_take_82 ?_
      refine lv_iconst (v := 0) hx hb dX12_take_85 (by decide) ?_
      refine lv_aload_n hx hb dX12_take_86 rfl (lv_at hl 1 rfl) ?_
      refine lv_iload_n hx hb dX12_take_87 rfl (lv_at hl 2 rfl) ?_
      refine lv_bipush (v := 30) hx hb dX12_take_88 (by decide) ?_
      refine lv_iadd hx hb dX12_take_90 ?_
      obtain ⟨h_7, hf⟩ := tx_ck_e hf
      refine tx_iald S hE hw 38 rfl h_7 dX12_take_91 ?_
      obtain ⟨u_T_8, eu_T_8⟩ : ∃ z : S32, z = up2 u_T 58 (0 : Int32).toNatClampNeg (u_T 77 (w2 + (30 : Int32)).toNatClampNeg) := ⟨_, rfl⟩
      replace hf := tx_let_e hf eu_T_8
      refine tx_iast (ws' := cl_X12 g a_T u_T_8 v_T ++ X) S hE hw 33 rfl (by unfold vp_in; decide) (by rw [eu_T_8]; rfl) dX12_take_92 (fun H locs hw => ?_)
      obtain e0 := tx_in1 hf
      rw [← e0]
      exact tx_vret S hr hlk hw dX12_take_93
    · replace hf := tx_neg hf h_6
      refine lv_aload_n hx hb dX12_take_33 rfl (lv_at hl 0 rfl) ?_
      refine gf_X12_97 S hE hw 0 rfl rfl dX12_take_34 ?_
      refine lv_iload_n hx hb dX12_take_37 rfl (lv_at hl 3 rfl) ?_
      refine lv_aload_n hx hb dX12_take_38 rfl (lv_at hl 1 rfl) ?_
      refine lv_iload_n hx hb dX12_take_39 rfl (lv_at hl 2 rfl) ?_
      refine lv_bipush (v := 12) hx hb dX12_take_40 (by decide) ?_
      refine lv_iadd hx hb dX12_take_42 ?_
      refine lv_iload_n hx hb dX12_take_43 rfl (lv_at hl 3 rfl) ?_
      refine lv_iadd hx hb dX12_take_44 ?_
      obtain ⟨h_9, hf⟩ := tx_ck_e hf
      refine tx_iald S hE hw 38 rfl h_9 dX12_take_45 ?_
      obtain ⟨h_10, hf⟩ := tx_ck_e hf
      obtain ⟨u_T_11, eu_T_11⟩ : ∃ z : S32, z = up2 u_T 53 w3.toNatClampNeg (u_T 77 ((w2 + (12 : Int32)) + w3).toNatClampNeg) := ⟨_, rfl⟩
      replace hf := tx_let_e hf eu_T_11
      refine tx_iast (ws' := cl_X12 g a_T u_T_11 v_T ++ X) S hE hw 28 rfl h_10 (by rw [eu_T_11]; rfl) dX12_take_46 (fun H locs hw => ?_)
      refine lv_aload_n hx hb dX12_take_47 rfl (lv_at hl 0 rfl) ?_
      refine gf_X12_106 S hE hw 0 rfl rfl dX12_take_48 ?_
      refine lv_iload_n hx hb dX12_take_51 rfl (lv_at hl 3 rfl) ?_
      refine lv_aload_n hx hb dX12_take_52 rfl (lv_at hl 1 rfl) ?_
      refine lv_iload_n hx hb dX12_take_53 rfl (lv_at hl 2 rfl) ?_
      refine lv_bipush (v := 18) hx hb dX12_take_54 (by decide) ?_
      refine lv_iadd hx hb dX12_take_56 ?_
      refine lv_iload_n hx hb dX12_take_57 rfl (lv_at hl 3 rfl) ?_
      refine lv_iadd hx hb dX12_take_58 ?_
      obtain ⟨h_12, hf⟩ := tx_ck_e hf
      refine tx_iald S hE hw 38 rfl h_12 dX12_take_59 ?_
      obtain ⟨h_13, hf⟩ := tx_ck_e hf
      obtain ⟨u_T_14, eu_T_14⟩ : ∃ z : S32, z = up2 u_T_11 56 w3.toNatClampNeg (u_T_11 77 ((w2 + (18 : Int32)) + w3).toNatClampNeg) := ⟨_, rfl⟩
      replace hf := tx_let_e hf eu_T_14
      refine tx_iast (ws' := cl_X12 g a_T u_T_14 v_T ++ X) S hE hw 31 rfl h_13 (by rw [eu_T_14]; rfl) dX12_take_60 (fun H locs hw => ?_)
      refine lv_aload_n hx hb dX12_take_61 rfl (lv_at hl 0 rfl) ?_
      refine gf_X12_109 S hE hw 0 rfl rfl dX12_take_62 ?_
      refine lv_iload_n hx hb dX12_take_65 rfl (lv_at hl 3 rfl) ?_
      refine lv_aload_n hx hb dX12_take_66 rfl (lv_at hl 1 rfl) ?_
      refine lv_iload_n hx hb dX12_take_67 rfl (lv_at hl 2 rfl) ?_
      refine lv_bipush (v := 24) hx hb dX12_take_68 (by decide) ?_
      refine lv_iadd hx hb dX12_take_70 ?_
      refine lv_iload_n hx hb dX12_take_71 rfl (lv_at hl 3 rfl) ?_
      refine lv_iadd hx hb dX12_take_72 ?_
      obtain ⟨h_15, hf⟩ := tx_ck_e hf
      refine tx_iald S hE hw 38 rfl h_15 dX12_take_73 ?_
      obtain ⟨h_16, hf⟩ := tx_ck_e hf
      obtain ⟨u_T_17, eu_T_17⟩ : ∃ z : S32, z = up2 u_T_14 57 w3.toNatClampNeg (u_T_14 77 ((w2 + (24 : Int32)) + w3).toNatClampNeg) := ⟨_, rfl⟩
      replace hf := tx_let_e hf eu_T_17
      refine tx_iast (ws' := cl_X12 g a_T u_T_17 v_T ++ X) S hE hw 32 rfl h_16 (by rw [eu_T_17]; rfl) dX12_take_74 (fun H locs hw => ?_)
      obtain ⟨y_18, ey_18⟩ : ∃ y : Int32, y = w3 + (1 : Int32) := ⟨_, rfl⟩
      replace hf := tx_let_e hf ey_18
      refine lv_iinc (v := y_18) (lv' := [(3, .int y_18), (0, .ref (a_T 0)), (1, .ref (a_T 77)), (2, .int w2)]) hx hb dX12_take_75 hl (k := 3) rfl (by rw [ey_18]; rfl) (by decide) rfl (fun ls hl => ?_)
      refine lv_goto (tgt := 27) hx hb dX12_take_78 (by decide) ?_
      exact hK27 hf hw (lv_sub hl [1, 2, 3, 0] rfl)
  have L27 : ∀ (n : Nat), ∀ {u_T : S32} {w2 : Int32} {w3 : Int32} {H : Heap} {locs : List Loc} {ls : Array Slot}, f_X12_take_tX12r77_L27 fu v_T n u_T w2 w3 = some zu_T → WD g A s.heap (cl_X12 g a_T u_T v_T ++ X) H locs → lv_has ls 4 [(0, .ref (a_T 0)), (1, .ref (a_T 77)), (2, .int w2), (3, .int w3)] → W p l e (rmH 0) s m (List.toArray [.ref (a_T 0), .ref (a_T 77), .int x2]) below meth c H locs 0 0 (MQ below (va_Qv (fun (_ : Unit) => True) (fun _ t => POST g A (cl_X12 g a_T zu_T v_T ++ X) t) A) (List.toArray [.ref (a_T 0), .ref (a_T 77), .int x2]) s 0 0 A) (F0 m 27 ls []) := by
    intro  n
    induction n with
    | zero => intro u_T w2 w3 H locs ls hf; exact absurd hf (by intro q; cases q)
    | succ n ih => exact fun hf hw hl => J27 ih hf hw hl
  have J2 : ∀ {K2 : S32 → Int32 → Int32 → Option (S32)} (hK2 : ∀ {u_T : S32} {w2 : Int32} {w3 : Int32} {H : Heap} {locs : List Loc} {ls : Array Slot}, K2 u_T w2 w3 = some zu_T → WD g A s.heap (cl_X12 g a_T u_T v_T ++ X) H locs → lv_has ls 4 [(0, .ref (a_T 0)), (1, .ref (a_T 77)), (2, .int w2), (3, .int w3)] → W p l e (rmH 0) s m (List.toArray [.ref (a_T 0), .ref (a_T 77), .int x2]) below meth c H locs 0 0 (MQ below (va_Qv (fun (_ : Unit) => True) (fun _ t => POST g A (cl_X12 g a_T zu_T v_T ++ X) t) A) (List.toArray [.ref (a_T 0), .ref (a_T 77), .int x2]) s 0 0 A) (F0 m 2 ls [])), ∀ {u_T : S32} {w2 : Int32} {w3 : Int32} {H : Heap} {locs : List Loc} {ls : Array Slot}, f_X12_take_tX12r77_J2 fu v_T K2 u_T w2 w3 = some zu_T → WD g A s.heap (cl_X12 g a_T u_T v_T ++ X) H locs → lv_has ls 4 [(0, .ref (a_T 0)), (1, .ref (a_T 77)), (2, .int w2), (3, .int w3)] → W p l e (rmH 0) s m (List.toArray [.ref (a_T 0), .ref (a_T 77), .int x2]) below meth c H locs 0 0 (MQ below (va_Qv (fun (_ : Unit) => True) (fun _ t => POST g A (cl_X12 g a_T zu_T v_T ++ X) t) A) (List.toArray [.ref (a_T 0), .ref (a_T 77), .int x2]) s 0 0 A) (F0 m 2 ls []) := by
    intro K2 hK2 u_T w2 w3 H locs ls hf hw hl
    unfold f_X12_take_tX12r77_J2 at hf
    refine lv_iload_n hx hb dX12_take_2 rfl (lv_at hl 3 rfl) ?_
    refine lv_bipush (v := 12) hx hb dX12_take_3 (by decide) ?_
    refine lv_icmp_ge (tgt := 25) hx hb dX12_take_5 (by decide) (fun h_1 => ?_) (fun h_1 => ?_)
    · replace hf := tx_pos hf h_1
      refine lv_iconst (v := 0) hx hb dX12_take_25 (by decide) ?_
      refine lv_istore_n (lv' := [(3, .int (0 : Int32)), (0, .ref (a_T 0)), (1, .ref (a_T 77)), (2, .int w2)]) hx hb dX12_take_26 rfl hl (by decide) rfl (fun ls hl => ?_)
      exact L27 fu hf hw (lv_sub hl [1, 2, 3, 0] rfl)
    · replace hf := tx_neg hf h_1
      refine lv_aload_n hx hb dX12_take_8 rfl (lv_at hl 0 rfl) ?_
      refine gf_X12_91 S hE hw 0 rfl rfl dX12_take_9 ?_
      refine lv_iload_n hx hb dX12_take_12 rfl (lv_at hl 3 rfl) ?_
      refine lv_aload_n hx hb dX12_take_13 rfl (lv_at hl 1 rfl) ?_
      refine lv_iload_n hx hb dX12_take_14 rfl (lv_at hl 2 rfl) ?_
      refine lv_iload_n hx hb dX12_take_15 rfl (lv_at hl 3 rfl) ?_
      refine lv_iadd hx hb dX12_take_16 ?_
      obtain ⟨h_2, hf⟩ := tx_ck_e hf
      refine tx_iald S hE hw 38 rfl h_2 dX12_take_17 ?_
      obtain ⟨h_3, hf⟩ := tx_ck_e hf
      obtain ⟨u_T_4, eu_T_4⟩ : ∃ z : S32, z = up2 u_T 51 w3.toNatClampNeg (u_T 77 (w2 + w3).toNatClampNeg) := ⟨_, rfl⟩
      replace hf := tx_let_e hf eu_T_4
      refine tx_iast (ws' := cl_X12 g a_T u_T_4 v_T ++ X) S hE hw 26 rfl h_3 (by rw [eu_T_4]; rfl) dX12_take_18 (fun H locs hw => ?_)
      obtain ⟨y_5, ey_5⟩ : ∃ y : Int32, y = w3 + (1 : Int32) := ⟨_, rfl⟩
      replace hf := tx_let_e hf ey_5
      refine lv_iinc (v := y_5) (lv' := [(3, .int y_5), (0, .ref (a_T 0)), (1, .ref (a_T 77)), (2, .int w2)]) hx hb dX12_take_19 hl (k := 3) rfl (by rw [ey_5]; rfl) (by decide) rfl (fun ls hl => ?_)
      refine lv_goto (tgt := 2) hx hb dX12_take_22 (by decide) ?_
      exact hK2 hf hw (lv_sub hl [1, 2, 3, 0] rfl)
  have L2 : ∀ (n : Nat), ∀ {u_T : S32} {w2 : Int32} {w3 : Int32} {H : Heap} {locs : List Loc} {ls : Array Slot}, f_X12_take_tX12r77_L2 fu v_T n u_T w2 w3 = some zu_T → WD g A s.heap (cl_X12 g a_T u_T v_T ++ X) H locs → lv_has ls 4 [(0, .ref (a_T 0)), (1, .ref (a_T 77)), (2, .int w2), (3, .int w3)] → W p l e (rmH 0) s m (List.toArray [.ref (a_T 0), .ref (a_T 77), .int x2]) below meth c H locs 0 0 (MQ below (va_Qv (fun (_ : Unit) => True) (fun _ t => POST g A (cl_X12 g a_T zu_T v_T ++ X) t) A) (List.toArray [.ref (a_T 0), .ref (a_T 77), .int x2]) s 0 0 A) (F0 m 2 ls []) := by
    intro  n
    induction n with
    | zero => intro u_T w2 w3 H locs ls hf; exact absurd hf (by intro q; cases q)
    | succ n ih => exact fun hf hw hl => J2 ih hf hw hl
  unfold f_X12_take_tX12r77 at hf
  refine lv_iconst (v := 0) hx hb dX12_take_0 (by decide) ?_
  refine lv_istore_n (lv' := [(3, .int (0 : Int32)), (0, .ref (a_T 0)), (1, .ref (a_T 77)), (2, .int x2)]) hx hb dX12_take_1 rfl hl (by decide) rfl (fun ls hl => ?_)
  exact L2 fu hf hw (lv_sub hl [1, 2, 3, 0] rfl)
def f_X12_undo (fu : Nat) (v_T : S64) (u_T : S32) : Option (Int32 × S32) := tx_let (up2 u_T 0 2 (0 : Int32)) fun (u_T_1 : S32) => if (u_T_1 0 75) = (0 : Int32) then (some ((-1 : Int32), u_T_1)) else (tx_let (up2 u_T_1 0 75 ((u_T_1 0 75) - (1 : Int32))) fun (u_T_3 : S32) => tx_b1 (f_X12_take_tX12r77 fu v_T u_T_3 ((31 : Int32) * (u_T_3 0 75))) fun (u_T_5 : S32) => some (u_T_5 0 75, u_T_5))
set_option maxHeartbeats 4000000 in
set_option maxRecDepth 100000 in
theorem c_X12_undo {l : Launch} {g : GG} {A : Nat → Prop} {X : va_W} {fu : Nat} {a_T : Nat → Nat} {u_T : S32} {v_T : S64} {r : Int32} {zu_T : S32} (hf : f_X12_undo fu v_T u_T = some (r, zu_T)) : MI l yX12_undo cX12_undo 1 (some .int) 1 g A (cl_X12 g a_T u_T v_T ++ X) [.ref (a_T 0)] r (cl_X12 g a_T zu_T v_T ++ X) := by
  refine tx_start (av := [.ref (a_T 0)]) (by decide) (Nat.le_of_ble_eq_true rfl) ?_
  intro p e s m below meth c ls S hr hlk hE hw hl
  have S : CallFix p m c cX12_undo 1 s (List.toArray [.ref (a_T 0)]) (Cond.code yX12_undo cX12_undo 1 (some .int) :: allW) RX12 := S
  have hx := S.1
  have hb := S.2.1
  have hown := S.2.2.2.1
  have hts : ∀ w ∈ allW, w.before (List.toArray [.ref (a_T 0)]) s = true := fun w h => S.2.2.2.2 w (List.mem_cons_of_mem _ h)
  have hl : lv_has ls 1 [(0, .ref (a_T 0))] := hl
  unfold f_X12_undo at hf
  refine lv_aload_n hx hb dX12_undo_0 rfl (lv_at hl 0 rfl) ?_
  refine lv_iconst (v := 0) hx hb dX12_undo_1 (by decide) ?_
  obtain ⟨u_T_1, eu_T_1⟩ : ∃ z : S32, z = up2 u_T 0 2 (0 : Int32) := ⟨_, rfl⟩
  replace hf := tx_let_e hf eu_T_1
  refine pf_X12_145 (ws' := cl_X12 g a_T u_T_1 v_T ++ X) S hE hw rfl rfl 0 rfl (Nat.le_of_ble_eq_true rfl) (by rw [eu_T_1]; rfl) dX12_undo_2 (fun H locs hw => ?_)
  refine lv_aload_n hx hb dX12_undo_5 rfl (lv_at hl 0 rfl) ?_
  refine gf_X12_350 S hE hw 0 rfl rfl dX12_undo_6 ?_
  refine lv_if_ne (tgt := 14) hx hb dX12_undo_9 (by decide) (fun h_2 => ?_) (fun h_2 => ?_)
  · replace hf := tx_neg hf h_2
    refine lv_aload_n hx hb dX12_undo_14 rfl (lv_at hl 0 rfl) ?_
    refine lv_dup hx hb dX12_undo_15 rfl ?_
    refine gf_X12_350 S hE hw 0 rfl rfl dX12_undo_16 ?_
    refine lv_iconst (v := 1) hx hb dX12_undo_19 (by decide) ?_
    refine lv_isub hx hb dX12_undo_20 ?_
    obtain ⟨u_T_3, eu_T_3⟩ : ∃ z : S32, z = up2 u_T_1 0 75 ((u_T_1 0 75) - (1 : Int32)) := ⟨_, rfl⟩
    replace hf := tx_let_e hf eu_T_3
    refine pf_X12_350 (ws' := cl_X12 g a_T u_T_3 v_T ++ X) S hE hw rfl rfl 0 rfl (Nat.le_of_ble_eq_true rfl) (by rw [eu_T_3]; rfl) dX12_undo_21 (fun H locs hw => ?_)
    refine lv_aload_n hx hb dX12_undo_24 rfl (lv_at hl 0 rfl) ?_
    refine lv_aload_n hx hb dX12_undo_25 rfl (lv_at hl 0 rfl) ?_
    refine gf_X12_130 S hE hw 0 rfl rfl dX12_undo_26 ?_
    refine lv_bipush (v := 31) hx hb dX12_undo_29 (by decide) ?_
    refine lv_aload_n hx hb dX12_undo_31 rfl (lv_at hl 0 rfl) ?_
    refine gf_X12_350 S hE hw 0 rfl rfl dX12_undo_32 ?_
    refine lv_imul hx hb dX12_undo_35 ?_
    obtain ⟨u_T_5, h_4, hf⟩ := tx_b1_e hf
    refine tx_cv hw (tx_runV S hE hw (c_X12_take_tX12r77 h_4) lk_X12_519 (q0 := 0) rfl rfl rfl hl.1 (rest := []) rfl (Nat.le_of_ble_eq_true rfl) ⟨by decide, by decide⟩ dX12_undo_36 ⟨Nat.zero_le _, Nat.zero_le _⟩) (fun H locs hw => ?_)
    refine lv_aload_n hx hb dX12_undo_39 rfl (lv_at hl 0 rfl) ?_
    refine gf_X12_350 S hE hw 0 rfl rfl dX12_undo_40 ?_
    obtain ⟨e0, e1⟩ := tx_in2 hf
    rw [← e0, ← e1]
    exact tx_iret S hr hlk hw dX12_undo_43
  · replace hf := tx_pos hf h_2
    refine lv_iconst (v := -1) hx hb dX12_undo_12 (by decide) ?_
    obtain ⟨e0, e1⟩ := tx_in2 hf
    rw [← e0, ← e1]
    exact tx_iret S hr hlk hw dX12_undo_13
def f_X12_put_tX12r79_J27 (fu : Nat) (v_T : S64) (K27 : S32 → Int32 → Int32 → Option (S32)) (u_T : S32) (w2 : Int32) (w3 : Int32) : Option (S32) := if (6 : Int32) ≤ w3 then (tx_ck (w2 + (30 : Int32)) 31 <| tx_let (up2 u_T 79 (w2 + (30 : Int32)).toNatClampNeg (u_T 58 (0 : Int32).toNatClampNeg)) fun (u_T_8 : S32) => some u_T_8) else (tx_ck w3 12 <| tx_ck ((w2 + (12 : Int32)) + w3) 31 <| tx_let (up2 u_T 79 ((w2 + (12 : Int32)) + w3).toNatClampNeg (u_T 53 w3.toNatClampNeg)) fun (u_T_11 : S32) => tx_ck w3 12 <| tx_ck ((w2 + (18 : Int32)) + w3) 31 <| tx_let (up2 u_T_11 79 ((w2 + (18 : Int32)) + w3).toNatClampNeg (u_T_11 56 w3.toNatClampNeg)) fun (u_T_14 : S32) => tx_ck w3 12 <| tx_ck ((w2 + (24 : Int32)) + w3) 31 <| tx_let (up2 u_T_14 79 ((w2 + (24 : Int32)) + w3).toNatClampNeg (u_T_14 57 w3.toNatClampNeg)) fun (u_T_17 : S32) => tx_let (w3 + (1 : Int32)) fun (y_18 : Int32) => K27 u_T_17 w2 y_18)
def f_X12_put_tX12r79_L27 (fu : Nat) (v_T : S64) : Nat → S32 → Int32 → Int32 → Option (S32)
  | 0 => fun _ _ _ => none
  | n + 1 => f_X12_put_tX12r79_J27 fu v_T (f_X12_put_tX12r79_L27 fu v_T n)
def f_X12_put_tX12r79_J2 (fu : Nat) (v_T : S64) (K2 : S32 → Int32 → Int32 → Option (S32)) (u_T : S32) (w2 : Int32) (w3 : Int32) : Option (S32) := if (12 : Int32) ≤ w3 then (f_X12_put_tX12r79_L27 fu v_T fu u_T w2 (0 : Int32)) else (tx_ck w3 24 <| tx_ck (w2 + w3) 31 <| tx_let (up2 u_T 79 (w2 + w3).toNatClampNeg (u_T 51 w3.toNatClampNeg)) fun (u_T_4 : S32) => tx_let (w3 + (1 : Int32)) fun (y_5 : Int32) => K2 u_T_4 w2 y_5)
def f_X12_put_tX12r79_L2 (fu : Nat) (v_T : S64) : Nat → S32 → Int32 → Int32 → Option (S32)
  | 0 => fun _ _ _ => none
  | n + 1 => f_X12_put_tX12r79_J2 fu v_T (f_X12_put_tX12r79_L2 fu v_T n)
def f_X12_put_tX12r79 (fu : Nat) (v_T : S64) (u_T : S32) (x2 : Int32) : Option (S32) := f_X12_put_tX12r79_L2 fu v_T fu u_T x2 (0 : Int32)
set_option maxHeartbeats 4000000 in
set_option maxRecDepth 100000 in
theorem c_X12_put_tX12r79 {l : Launch} {g : GG} {A : Nat → Prop} {X : va_W} {fu : Nat} {a_T : Nat → Nat} {u_T : S32} {v_T : S64} {x2 : Int32} {zu_T : S32} (hf : f_X12_put_tX12r79 fu v_T u_T x2 = some zu_T) : MV l yX12_put cX12_put 4 none 0 g A (cl_X12 g a_T u_T v_T ++ X) [.ref (a_T 0), .ref (a_T 79), .int x2] (cl_X12 g a_T zu_T v_T ++ X) := by
  refine tx_start (av := [.ref (a_T 0), .ref (a_T 79), .int x2]) (by decide) (Nat.le_of_ble_eq_true rfl) ?_
  intro p e s m below meth c ls S hr hlk hE hw hl
  have S : CallFix p m c cX12_put 4 s (List.toArray [.ref (a_T 0), .ref (a_T 79), .int x2]) (Cond.code yX12_put cX12_put 4 none :: allW) RX12 := S
  have hx := S.1
  have hb := S.2.1
  have hown := S.2.2.2.1
  have hts : ∀ w ∈ allW, w.before (List.toArray [.ref (a_T 0), .ref (a_T 79), .int x2]) s = true := fun w h => S.2.2.2.2 w (List.mem_cons_of_mem _ h)
  have hl : lv_has ls 4 [(0, .ref (a_T 0)), (1, .ref (a_T 79)), (2, .int x2)] := hl
  have J27 : ∀ {K27 : S32 → Int32 → Int32 → Option (S32)} (hK27 : ∀ {u_T : S32} {w2 : Int32} {w3 : Int32} {H : Heap} {locs : List Loc} {ls : Array Slot}, K27 u_T w2 w3 = some zu_T → WD g A s.heap (cl_X12 g a_T u_T v_T ++ X) H locs → lv_has ls 4 [(0, .ref (a_T 0)), (1, .ref (a_T 79)), (2, .int w2), (3, .int w3)] → W p l e (rmH 0) s m (List.toArray [.ref (a_T 0), .ref (a_T 79), .int x2]) below meth c H locs 0 0 (MQ below (va_Qv (fun (_ : Unit) => True) (fun _ t => POST g A (cl_X12 g a_T zu_T v_T ++ X) t) A) (List.toArray [.ref (a_T 0), .ref (a_T 79), .int x2]) s 0 0 A) (F0 m 27 ls [])), ∀ {u_T : S32} {w2 : Int32} {w3 : Int32} {H : Heap} {locs : List Loc} {ls : Array Slot}, f_X12_put_tX12r79_J27 fu v_T K27 u_T w2 w3 = some zu_T → WD g A s.heap (cl_X12 g a_T u_T v_T ++ X) H locs → lv_has ls 4 [(0, .ref (a_T 0)), (1, .ref (a_T 79)), (2, .int w2), (3, .int w3)] → W p l e (rmH 0) s m (List.toArray [.ref (a_T 0), .ref (a_T 79), .int x2]) below meth c H locs 0 0 (MQ below (va_Qv (fun (_ : Unit) => True) (fun _ t => POST g A (cl_X12 g a_T zu_T v_T ++ X) t) A) (List.toArray [.ref (a_T 0), .ref (a_T 79), .int x2]) s 0 0 A) (F0 m 27 ls []) := by
    intro K27 hK27 u_T w2 w3 H locs ls hf hw hl
    unfold f_X12_put_tX12r79_J27 at hf
    refine lv_iload_n hx hb dX12_put_27 rfl (lv_at hl 3 rfl) ?_
    refine lv_bipush (v := 6) hx hb dX12_put_28 (by decide) ?_
    refine lv_icmp_ge (tgt := 81) hx hb dX12_put_30 (by decide) (fun h_6 => ?_) (fun h_6 => ?_)
    · replace hf := tx_pos hf h_6
      refine lv_aload_n hx hb dX12_put_81 rfl (lv_at hl 1 rfl) ?_
      refine lv_iload_n hx hb dX12_put_82 rfl (lv_at hl 2 rfl) ?_
      refine lv_bipush (v := 30) hx hb dX12_put_83 (by decide) ?_
      refine lv_iadd hx hb dX12_put_85 ?_
      refine lv_aload_n hx hb dX12_put_86 rfl (lv_at hl 0 rfl) ?_
      refine gf_X12_112 S hE hw 0 rfl rfl dX12_put_87 ?_
      refine lv_iconst (v := 0) hx hb dX12_put_90 (by decide) ?_
      refine tx_iald S hE hw 33 rfl (by unfold vp_in; decide) dX12_put_91 ?_
      obtain ⟨h_7, hf⟩ := tx_ck_e hf
      obtain ⟨u_T_8, eu_T_8⟩ : ∃ z : S32, z = up2 u_T 79 (w2 + (30 : Int32)).toNatClampNeg (u_T 58 (0 : Int32).toNatClampNeg) := ⟨_, rfl⟩
      replace hf := tx_let_e hf eu_T_8
      refine tx_iast (ws' := cl_X12 g a_T u_T_8 v_T ++ X) S hE hw 39 rfl h_7 (by rw [eu_T_8]; rfl) dX12_put_92 (fun H locs hw => ?_)
      obtain e0 := tx_in1 hf
      rw [← e0]
      exact tx_vret S hr hlk hw dX12_put_93
    · replace hf := tx_neg hf h_6
      refine lv_aload_n hx hb dX12_put_33 rfl (lv_at hl 1 rfl) ?_
      refine lv_iload_n hx hb dX12_put_34 rfl (lv_at hl 2 rfl) ?_
      refine lv_bipush (v := 12) hx hb dX12_put_35 (by decide) ?_
      refine lv_iadd hx hb dX12_put_37 ?_
      refine lv_iload_n hx hb dX12_put_38 rfl (lv_at hl 3 rfl) ?_
      refine lv_iadd hx hb dX12_put_39 ?_
      refine lv_aload_n hx hb dX12_put_40 rfl (lv_at hl 0 rfl) ?_
      refine gf_X12_97 S hE hw 0 rfl rfl dX12_put_41 ?_
      refine lv_iload_n hx hb dX12_put_44 rfl (lv_at hl 3 rfl) ?_
      obtain ⟨h_9, hf⟩ := tx_ck_e hf
      refine tx_iald S hE hw 28 rfl h_9 dX12_put_45 ?_
      obtain ⟨h_10, hf⟩ := tx_ck_e hf
      obtain ⟨u_T_11, eu_T_11⟩ : ∃ z : S32, z = up2 u_T 79 ((w2 + (12 : Int32)) + w3).toNatClampNeg (u_T 53 w3.toNatClampNeg) := ⟨_, rfl⟩
      replace hf := tx_let_e hf eu_T_11
      refine tx_iast (ws' := cl_X12 g a_T u_T_11 v_T ++ X) S hE hw 39 rfl h_10 (by rw [eu_T_11]; rfl) dX12_put_46 (fun H locs hw => ?_)
      refine lv_aload_n hx hb dX12_put_47 rfl (lv_at hl 1 rfl) ?_
      refine lv_iload_n hx hb dX12_put_48 rfl (lv_at hl 2 rfl) ?_
      refine lv_bipush (v := 18) hx hb dX12_put_49 (by decide) ?_
      refine lv_iadd hx hb dX12_put_51 ?_
      refine lv_iload_n hx hb dX12_put_52 rfl (lv_at hl 3 rfl) ?_
      refine lv_iadd hx hb dX12_put_53 ?_
      refine lv_aload_n hx hb dX12_put_54 rfl (lv_at hl 0 rfl) ?_
      refine gf_X12_106 S hE hw 0 rfl rfl dX12_put_55 ?_
      refine lv_iload_n hx hb dX12_put_58 rfl (lv_at hl 3 rfl) ?_
      obtain ⟨h_12, hf⟩ := tx_ck_e hf
      refine tx_iald S hE hw 31 rfl h_12 dX12_put_59 ?_
      obtain ⟨h_13, hf⟩ := tx_ck_e hf
      obtain ⟨u_T_14, eu_T_14⟩ : ∃ z : S32, z = up2 u_T_11 79 ((w2 + (18 : Int32)) + w3).toNatClampNeg (u_T_11 56 w3.toNatClampNeg) := ⟨_, rfl⟩
      replace hf := tx_let_e hf eu_T_14
      refine tx_iast (ws' := cl_X12 g a_T u_T_14 v_T ++ X) S hE hw 39 rfl h_13 (by rw [eu_T_14]; rfl) dX12_put_60 (fun H locs hw => ?_)
      refine lv_aload_n hx hb dX12_put_61 rfl (lv_at hl 1 rfl) ?_
      refine lv_iload_n hx hb dX12_put_62 rfl (lv_at hl 2 rfl) ?_
      refine lv_bipush (v := 24) hx hb dX12_put_63 (by decide) ?_
      refine lv_iadd hx hb dX12_put_65 ?_
      refine lv_iload_n hx hb dX12_put_66 rfl (lv_at hl 3 rfl) ?_
      refine lv_iadd hx hb dX12_put_67 ?_
      refine lv_aload_n hx hb dX12_put_68 rfl (lv_at hl 0 rfl) ?_
      refine gf_X12_109 S hE hw 0 rfl rfl dX12_put_69 ?_
      refine lv_iload_n hx hb dX12_put_72 rfl (lv_at hl 3 rfl) ?_
      obtain ⟨h_15, hf⟩ := tx_ck_e hf
      refine tx_iald S hE hw 32 rfl h_15 dX12_put_73 ?_
      obtain ⟨h_16, hf⟩ := tx_ck_e hf
      obtain ⟨u_T_17, eu_T_17⟩ : ∃ z : S32, z = up2 u_T_14 79 ((w2 + (24 : Int32)) + w3).toNatClampNeg (u_T_14 57 w3.toNatClampNeg) := ⟨_, rfl⟩
      replace hf := tx_let_e hf eu_T_17
      refine tx_iast (ws' := cl_X12 g a_T u_T_17 v_T ++ X) S hE hw 39 rfl h_16 (by rw [eu_T_17]; rfl) dX12_put_74 (fun H locs hw => ?_)
      obtain ⟨y_18, ey_18⟩ : ∃ y : Int32, y = w3 + (1 : Int32) := ⟨_, rfl⟩
      replace hf := tx_let_e hf ey_18
      refine lv_iinc (v := y_18) (lv' := [(3, .int y_18), (0, .ref (a_T 0)), (1, .ref (a_T 79)), (2, .int w2)]) hx hb dX12_put_75 hl (k := 3) rfl (by rw [ey_18]; rfl) (by decide) rfl (fun ls hl => ?_)
      refine lv_goto (tgt := 27) hx hb dX12_put_78 (by decide) ?_
      exact hK27 hf hw (lv_sub hl [1, 2, 3, 0] rfl)
  have L27 : ∀ (n : Nat), ∀ {u_T : S32} {w2 : Int32} {w3 : Int32} {H : Heap} {locs : List Loc} {ls : Array Slot}, f_X12_put_tX12r79_L27 fu v_T n u_T w2 w3 = some zu_T → WD g A s.heap (cl_X12 g a_T u_T v_T ++ X) H locs → lv_has ls 4 [(0, .ref (a_T 0)), (1, .ref (a_T 79)), (2, .int w2), (3, .int w3)] → W p l e (rmH 0) s m (List.toArray [.ref (a_T 0), .ref (a_T 79), .int x2]) below meth c H locs 0 0 (MQ below (va_Qv (fun (_ : Unit) => True) (fun _ t => POST g A (cl_X12 g a_T zu_T v_T ++ X) t) A) (List.toArray [.ref (a_T 0), .ref (a_T 79), .int x2]) s 0 0 A) (F0 m 27 ls []) := by
    intro  n
    induction n with
    | zero => intro u_T w2 w3 H locs ls hf; exact absurd hf (by intro q; cases q)
    | succ n ih => exact fun hf hw hl => J27 ih hf hw hl
  have J2 : ∀ {K2 : S32 → Int32 → Int32 → Option (S32)} (hK2 : ∀ {u_T : S32} {w2 : Int32} {w3 : Int32} {H : Heap} {locs : List Loc} {ls : Array Slot}, K2 u_T w2 w3 = some zu_T → WD g A s.heap (cl_X12 g a_T u_T v_T ++ X) H locs → lv_has ls 4 [(0, .ref (a_T 0)), (1, .ref (a_T 79)), (2, .int w2), (3, .int w3)] → W p l e (rmH 0) s m (List.toArray [.ref (a_T 0), .ref (a_T 79), .int x2]) below meth c H locs 0 0 (MQ below (va_Qv (fun (_ : Unit) => True) (fun _ t => POST g A (cl_X12 g a_T zu_T v_T ++ X) t) A) (List.toArray [.ref (a_T 0), .ref (a_T 79), .int x2]) s 0 0 A) (F0 m 2 ls [])), ∀ {u_T : S32} {w2 : Int32} {w3 : Int32} {H : Heap} {locs : List Loc} {ls : Array Slot}, f_X12_put_tX12r79_J2 fu v_T K2 u_T w2 w3 = some zu_T → WD g A s.heap (cl_X12 g a_T u_T v_T ++ X) H locs → lv_has ls 4 [(0, .ref (a_T 0)), (1, .ref (a_T 79)), (2, .int w2), (3, .int w3)] → W p l e (rmH 0) s m (List.toArray [.ref (a_T 0), .ref (a_T 79), .int x2]) below meth c H locs 0 0 (MQ below (va_Qv (fun (_ : Unit) => True) (fun _ t => POST g A (cl_X12 g a_T zu_T v_T ++ X) t) A) (List.toArray [.ref (a_T 0), .ref (a_T 79), .int x2]) s 0 0 A) (F0 m 2 ls []) := by
    intro K2 hK2 u_T w2 w3 H locs ls hf hw hl
    unfold f_X12_put_tX12r79_J2 at hf
    refine lv_iload_n hx hb dX12_put_2 rfl (lv_at hl 3 rfl) ?_
    refine lv_bipush (v := 12) hx hb dX12_put_3 (by decide) ?_
    refine lv_icmp_ge (tgt := 25) hx hb dX12_put_5 (by decide) (fun h_1 => ?_) (fun h_1 => ?_)
    · replace hf := tx_pos hf h_1
      refine lv_iconst (v := 0) hx hb dX12_put_25 (by decide) ?_
      refine lv_istore_n (lv' := [(3, .int (0 : Int32)), (0, .ref (a_T 0)), (1, .ref (a_T 79)), (2, .int w2)]) hx hb dX12_put_26 rfl hl (by decide) rfl (fun ls hl => ?_)
      exact L27 fu hf hw (lv_sub hl [1, 2, 3, 0] rfl)
    · replace hf := tx_neg hf h_1
      refine lv_aload_n hx hb dX12_put_8 rfl (lv_at hl 1 rfl) ?_
      refine lv_iload_n hx hb dX12_put_9 rfl (lv_at hl 2 rfl) ?_
      refine lv_iload_n hx hb dX12_put_10 rfl (lv_at hl 3 rfl) ?_
      refine lv_iadd hx hb dX12_put_11 ?_
      refine lv_aload_n hx hb dX12_put_12 rfl (lv_at hl 0 rfl) ?_
      refine gf_X12_91 S hE hw 0 rfl rfl dX12_put_13 ?_
      refine lv_iload_n hx hb dX12_put_16 rfl (lv_at hl 3 rfl) ?_
      obtain ⟨h_2, hf⟩ := tx_ck_e hf
      refine tx_iald S hE hw 26 rfl h_2 dX12_put_17 ?_
      obtain ⟨h_3, hf⟩ := tx_ck_e hf
      obtain ⟨u_T_4, eu_T_4⟩ : ∃ z : S32, z = up2 u_T 79 (w2 + w3).toNatClampNeg (u_T 51 w3.toNatClampNeg) := ⟨_, rfl⟩
      replace hf := tx_let_e hf eu_T_4
      refine tx_iast (ws' := cl_X12 g a_T u_T_4 v_T ++ X) S hE hw 39 rfl h_3 (by rw [eu_T_4]; rfl) dX12_put_18 (fun H locs hw => ?_)
      obtain ⟨y_5, ey_5⟩ : ∃ y : Int32, y = w3 + (1 : Int32) := ⟨_, rfl⟩
      replace hf := tx_let_e hf ey_5
      refine lv_iinc (v := y_5) (lv' := [(3, .int y_5), (0, .ref (a_T 0)), (1, .ref (a_T 79)), (2, .int w2)]) hx hb dX12_put_19 hl (k := 3) rfl (by rw [ey_5]; rfl) (by decide) rfl (fun ls hl => ?_)
      refine lv_goto (tgt := 2) hx hb dX12_put_22 (by decide) ?_
      exact hK2 hf hw (lv_sub hl [1, 2, 3, 0] rfl)
  have L2 : ∀ (n : Nat), ∀ {u_T : S32} {w2 : Int32} {w3 : Int32} {H : Heap} {locs : List Loc} {ls : Array Slot}, f_X12_put_tX12r79_L2 fu v_T n u_T w2 w3 = some zu_T → WD g A s.heap (cl_X12 g a_T u_T v_T ++ X) H locs → lv_has ls 4 [(0, .ref (a_T 0)), (1, .ref (a_T 79)), (2, .int w2), (3, .int w3)] → W p l e (rmH 0) s m (List.toArray [.ref (a_T 0), .ref (a_T 79), .int x2]) below meth c H locs 0 0 (MQ below (va_Qv (fun (_ : Unit) => True) (fun _ t => POST g A (cl_X12 g a_T zu_T v_T ++ X) t) A) (List.toArray [.ref (a_T 0), .ref (a_T 79), .int x2]) s 0 0 A) (F0 m 2 ls []) := by
    intro  n
    induction n with
    | zero => intro u_T w2 w3 H locs ls hf; exact absurd hf (by intro q; cases q)
    | succ n ih => exact fun hf hw hl => J2 ih hf hw hl
  unfold f_X12_put_tX12r79 at hf
  refine lv_iconst (v := 0) hx hb dX12_put_0 (by decide) ?_
  refine lv_istore_n (lv' := [(3, .int (0 : Int32)), (0, .ref (a_T 0)), (1, .ref (a_T 79)), (2, .int x2)]) hx hb dX12_put_1 rfl hl (by decide) rfl (fun ls hl => ?_)
  exact L2 fu hf hw (lv_sub hl [1, 2, 3, 0] rfl)
def f_X12_keep_J61 (fu : Nat) (K21 : S32 → S64 → Int32 → Option (Int32 × S32 × S64)) (u_T : S32) (v_T : S64) (w1 : Int32) (t1 : Int32) (t2 : Int32) : Option (Int32 × S32 × S64) := tx_ck t1 37 <| tx_let (up2 u_T 80 t1.toNatClampNeg t2) fun (u_T_22 : S32) => tx_let (w1 + (1 : Int32)) fun (y_23 : Int32) => K21 u_T_22 v_T y_23
def f_X12_keep_J70 (fu : Nat) (K70 : S32 → S64 → Int32 → Option (Int32 × S32 × S64)) (u_T : S32) (v_T : S64) (w1 : Int32) : Option (Int32 × S32 × S64) := if (6 : Int32) ≤ w1 then (tx_let (up2 u_T 80 (36 : Int32).toNatClampNeg (u_T 59 (0 : Int32).toNatClampNeg)) fun (u_T_12 : S32) => tx_let (up4 v_T 0 80 (v_T 0 59)) fun (v_T_13 : S64) => some (u_T_12 59 (0 : Int32).toNatClampNeg, u_T_12, v_T_13)) else (tx_ck w1 12 <| tx_ck ((24 : Int32) + w1) 37 <| tx_let (up2 u_T 80 ((24 : Int32) + w1).toNatClampNeg (u_T 54 w1.toNatClampNeg)) fun (u_T_16 : S32) => tx_ck w1 12 <| tx_ck ((30 : Int32) + w1) 37 <| tx_let (up2 u_T_16 80 ((30 : Int32) + w1).toNatClampNeg (u_T_16 55 w1.toNatClampNeg)) fun (u_T_19 : S32) => tx_let (w1 + (1 : Int32)) fun (y_20 : Int32) => K70 u_T_19 v_T y_20)
def f_X12_keep_L70 (fu : Nat) : Nat → S32 → S64 → Int32 → Option (Int32 × S32 × S64)
  | 0 => fun _ _ _ => none
  | n + 1 => f_X12_keep_J70 fu (f_X12_keep_L70 fu n)
def f_X12_keep_J21 (fu : Nat) (K21 : S32 → S64 → Int32 → Option (Int32 × S32 × S64)) (u_T : S32) (v_T : S64) (w1 : Int32) : Option (Int32 × S32 × S64) := if (12 : Int32) ≤ w1 then (f_X12_keep_L70 fu fu u_T v_T (0 : Int32)) else (tx_ck w1 24 <| tx_ck w1 37 <| tx_let (up2 u_T 80 w1.toNatClampNeg (u_T 50 w1.toNatClampNeg)) fun (u_T_8 : S32) => tx_ck w1 24 <| if (u_T_8 52 w1.toNatClampNeg) = (0 : Int32) then (f_X12_keep_J61 fu K21 u_T_8 v_T w1 ((12 : Int32) + w1) (0 : Int32)) else (f_X12_keep_J61 fu K21 u_T_8 v_T w1 ((12 : Int32) + w1) (1 : Int32)))
def f_X12_keep_L21 (fu : Nat) : Nat → S32 → S64 → Int32 → Option (Int32 × S32 × S64)
  | 0 => fun _ _ _ => none
  | n + 1 => f_X12_keep_J21 fu (f_X12_keep_L21 fu n)
def f_X12_keep (fu : Nat) (u_T : S32) (v_T : S64) : Option (Int32 × S32 × S64) := tx_let (up2 u_T 0 2 (0 : Int32)) fun (u_T_1 : S32) => tx_let (up2 u_T_1 0 77 (1 : Int32)) fun (u_T_2 : S32) => tx_b1 (f_X12_put_tX12r79 fu v_T u_T_2 (0 : Int32)) fun (u_T_4 : S32) => f_X12_keep_L21 fu fu u_T_4 v_T (0 : Int32)
set_option maxHeartbeats 4000000 in
set_option maxRecDepth 100000 in
theorem c_X12_keep {l : Launch} {g : GG} {A : Nat → Prop} {X : va_W} {fu : Nat} {a_T : Nat → Nat} {u_T : S32} {v_T : S64} {r : Int32} {zu_T : S32} {zv_T : S64} (hf : f_X12_keep fu  u_T v_T = some (r, zu_T, zv_T)) : MI l yX12_keep cX12_keep 2 (some .int) 1 g A (cl_X12 g a_T u_T v_T ++ X) [.ref (a_T 0)] r (cl_X12 g a_T zu_T zv_T ++ X) := by
  refine tx_start (av := [.ref (a_T 0)]) (by decide) (Nat.le_of_ble_eq_true rfl) ?_
  intro p e s m below meth c ls S hr hlk hE hw hl
  have S : CallFix p m c cX12_keep 2 s (List.toArray [.ref (a_T 0)]) (Cond.code yX12_keep cX12_keep 2 (some .int) :: allW) RX12 := S
  have hx := S.1
  have hb := S.2.1
  have hown := S.2.2.2.1
  have hts : ∀ w ∈ allW, w.before (List.toArray [.ref (a_T 0)]) s = true := fun w h => S.2.2.2.2 w (List.mem_cons_of_mem _ h)
  have hl : lv_has ls 2 [(0, .ref (a_T 0))] := hl
  have J61 : ∀ {K21 : S32 → S64 → Int32 → Option (Int32 × S32 × S64)} (hK21 : ∀ {u_T : S32} {v_T : S64} {w1 : Int32} {H : Heap} {locs : List Loc} {ls : Array Slot}, K21 u_T v_T w1 = some (r, zu_T, zv_T) → WD g A s.heap (cl_X12 g a_T u_T v_T ++ X) H locs → lv_has ls 2 [(0, .ref (a_T 0)), (1, .int w1)] → W p l e (rmH 1) s m (List.toArray [.ref (a_T 0)]) below meth c H locs 0 0 (MQ below (va_Qi (fun r2 (_ : Unit) => r2 = r) (fun _ t => POST g A (cl_X12 g a_T zu_T zv_T ++ X) t) A) (List.toArray [.ref (a_T 0)]) s 0 0 A) (F0 m 21 ls [])), ∀ {u_T : S32} {v_T : S64} {w1 : Int32} {t1 : Int32} {t2 : Int32} {H : Heap} {locs : List Loc} {ls : Array Slot}, f_X12_keep_J61 fu K21 u_T v_T w1 t1 t2 = some (r, zu_T, zv_T) → WD g A s.heap (cl_X12 g a_T u_T v_T ++ X) H locs → lv_has ls 2 [(0, .ref (a_T 0)), (1, .int w1)] → W p l e (rmH 1) s m (List.toArray [.ref (a_T 0)]) below meth c H locs 0 0 (MQ below (va_Qi (fun r2 (_ : Unit) => r2 = r) (fun _ t => POST g A (cl_X12 g a_T zu_T zv_T ++ X) t) A) (List.toArray [.ref (a_T 0)]) s 0 0 A) (F0 m 61 ls [.int t2, .int t1, .ref (a_T 80)]) := by
    intro K21 hK21 u_T v_T w1 t1 t2 H locs ls hf hw hl
    unfold f_X12_keep_J61 at hf
    obtain ⟨h_21, hf⟩ := tx_ck_e hf
    obtain ⟨u_T_22, eu_T_22⟩ : ∃ z : S32, z = up2 u_T 80 t1.toNatClampNeg t2 := ⟨_, rfl⟩
    replace hf := tx_let_e hf eu_T_22
    refine tx_iast (ws' := cl_X12 g a_T u_T_22 v_T ++ X) S hE hw 40 rfl h_21 (by rw [eu_T_22]; rfl) dX12_keep_61 (fun H locs hw => ?_)
    obtain ⟨y_23, ey_23⟩ : ∃ y : Int32, y = w1 + (1 : Int32) := ⟨_, rfl⟩
    replace hf := tx_let_e hf ey_23
    refine lv_iinc (v := y_23) (lv' := [(1, .int y_23), (0, .ref (a_T 0))]) hx hb dX12_keep_62 hl (k := 1) rfl (by rw [ey_23]; rfl) (by decide) rfl (fun ls hl => ?_)
    refine lv_goto (tgt := 21) hx hb dX12_keep_65 (by decide) ?_
    exact hK21 hf hw (lv_sub hl [1, 0] rfl)
  have J70 : ∀ {K70 : S32 → S64 → Int32 → Option (Int32 × S32 × S64)} (hK70 : ∀ {u_T : S32} {v_T : S64} {w1 : Int32} {H : Heap} {locs : List Loc} {ls : Array Slot}, K70 u_T v_T w1 = some (r, zu_T, zv_T) → WD g A s.heap (cl_X12 g a_T u_T v_T ++ X) H locs → lv_has ls 2 [(0, .ref (a_T 0)), (1, .int w1)] → W p l e (rmH 1) s m (List.toArray [.ref (a_T 0)]) below meth c H locs 0 0 (MQ below (va_Qi (fun r2 (_ : Unit) => r2 = r) (fun _ t => POST g A (cl_X12 g a_T zu_T zv_T ++ X) t) A) (List.toArray [.ref (a_T 0)]) s 0 0 A) (F0 m 70 ls [])), ∀ {u_T : S32} {v_T : S64} {w1 : Int32} {H : Heap} {locs : List Loc} {ls : Array Slot}, f_X12_keep_J70 fu K70 u_T v_T w1 = some (r, zu_T, zv_T) → WD g A s.heap (cl_X12 g a_T u_T v_T ++ X) H locs → lv_has ls 2 [(0, .ref (a_T 0)), (1, .int w1)] → W p l e (rmH 1) s m (List.toArray [.ref (a_T 0)]) below meth c H locs 0 0 (MQ below (va_Qi (fun r2 (_ : Unit) => r2 = r) (fun _ t => POST g A (cl_X12 g a_T zu_T zv_T ++ X) t) A) (List.toArray [.ref (a_T 0)]) s 0 0 A) (F0 m 70 ls []) := by
    intro K70 hK70 u_T v_T w1 H locs ls hf hw hl
    unfold f_X12_keep_J70 at hf
    refine lv_iload_n hx hb dX12_keep_70 rfl (lv_at hl 1 rfl) ?_
    refine lv_bipush (v := 6) hx hb dX12_keep_71 (by decide) ?_
    refine lv_icmp_ge (tgt := 112) hx hb dX12_keep_73 (by decide) (fun h_11 => ?_) (fun h_11 => ?_)
    · replace hf := tx_pos hf h_11
      refine lv_aload_n hx hb dX12_keep_112 rfl (lv_at hl 0 rfl) ?_
      refine gf_X12_136 S hE hw 0 rfl rfl dX12_keep_113 ?_
      refine lv_bipush (v := 36) hx hb dX12_keep_116 (by decide) ?_
      refine lv_aload_n hx hb dX12_keep_118 rfl (lv_at hl 0 rfl) ?_
      refine gf_X12_115 S hE hw 0 rfl rfl dX12_keep_119 ?_
      refine lv_iconst (v := 0) hx hb dX12_keep_122 (by decide) ?_
      refine tx_iald S hE hw 34 rfl (by unfold vp_in; decide) dX12_keep_123 ?_
      obtain ⟨u_T_12, eu_T_12⟩ : ∃ z : S32, z = up2 u_T 80 (36 : Int32).toNatClampNeg (u_T 59 (0 : Int32).toNatClampNeg) := ⟨_, rfl⟩
      replace hf := tx_let_e hf eu_T_12
      refine tx_iast (ws' := cl_X12 g a_T u_T_12 v_T ++ X) S hE hw 40 rfl (by unfold vp_in; decide) (by rw [eu_T_12]; rfl) dX12_keep_124 (fun H locs hw => ?_)
      refine lv_aload_n hx hb dX12_keep_125 rfl (lv_at hl 0 rfl) ?_
      refine lv_aload_n hx hb dX12_keep_126 rfl (lv_at hl 0 rfl) ?_
      refine gf_X12_340 S hE hw 0 rfl rfl dX12_keep_127 ?_
      obtain ⟨v_T_13, ev_T_13⟩ : ∃ z : S64, z = up4 v_T 0 80 (v_T 0 59) := ⟨_, rfl⟩
      replace hf := tx_let_e hf ev_T_13
      refine pf_X12_522 (ws' := cl_X12 g a_T u_T_12 v_T_13 ++ X) S hE hw rfl rfl 0 rfl (Nat.le_of_ble_eq_true rfl) (by rw [ev_T_13]; rfl) dX12_keep_130 (fun H locs hw => ?_)
      refine lv_aload_n hx hb dX12_keep_133 rfl (lv_at hl 0 rfl) ?_
      refine gf_X12_115 S hE hw 0 rfl rfl dX12_keep_134 ?_
      refine lv_iconst (v := 0) hx hb dX12_keep_137 (by decide) ?_
      refine tx_iald S hE hw 34 rfl (by unfold vp_in; decide) dX12_keep_138 ?_
      obtain ⟨e0, e1, e2⟩ := tx_in3 hf
      rw [← e0, ← e1, ← e2]
      exact tx_iret S hr hlk hw dX12_keep_139
    · replace hf := tx_neg hf h_11
      refine lv_aload_n hx hb dX12_keep_76 rfl (lv_at hl 0 rfl) ?_
      refine gf_X12_136 S hE hw 0 rfl rfl dX12_keep_77 ?_
      refine lv_bipush (v := 24) hx hb dX12_keep_80 (by decide) ?_
      refine lv_iload_n hx hb dX12_keep_82 rfl (lv_at hl 1 rfl) ?_
      refine lv_iadd hx hb dX12_keep_83 ?_
      refine lv_aload_n hx hb dX12_keep_84 rfl (lv_at hl 0 rfl) ?_
      refine gf_X12_100 S hE hw 0 rfl rfl dX12_keep_85 ?_
      refine lv_iload_n hx hb dX12_keep_88 rfl (lv_at hl 1 rfl) ?_
      obtain ⟨h_14, hf⟩ := tx_ck_e hf
      refine tx_iald S hE hw 29 rfl h_14 dX12_keep_89 ?_
      obtain ⟨h_15, hf⟩ := tx_ck_e hf
      obtain ⟨u_T_16, eu_T_16⟩ : ∃ z : S32, z = up2 u_T 80 ((24 : Int32) + w1).toNatClampNeg (u_T 54 w1.toNatClampNeg) := ⟨_, rfl⟩
      replace hf := tx_let_e hf eu_T_16
      refine tx_iast (ws' := cl_X12 g a_T u_T_16 v_T ++ X) S hE hw 40 rfl h_15 (by rw [eu_T_16]; rfl) dX12_keep_90 (fun H locs hw => ?_)
      refine lv_aload_n hx hb dX12_keep_91 rfl (lv_at hl 0 rfl) ?_
      refine gf_X12_136 S hE hw 0 rfl rfl dX12_keep_92 ?_
      refine lv_bipush (v := 30) hx hb dX12_keep_95 (by decide) ?_
      refine lv_iload_n hx hb dX12_keep_97 rfl (lv_at hl 1 rfl) ?_
      refine lv_iadd hx hb dX12_keep_98 ?_
      refine lv_aload_n hx hb dX12_keep_99 rfl (lv_at hl 0 rfl) ?_
      refine gf_X12_103 S hE hw 0 rfl rfl dX12_keep_100 ?_
      refine lv_iload_n hx hb dX12_keep_103 rfl (lv_at hl 1 rfl) ?_
      obtain ⟨h_17, hf⟩ := tx_ck_e hf
      refine tx_iald S hE hw 30 rfl h_17 dX12_keep_104 ?_
      obtain ⟨h_18, hf⟩ := tx_ck_e hf
      obtain ⟨u_T_19, eu_T_19⟩ : ∃ z : S32, z = up2 u_T_16 80 ((30 : Int32) + w1).toNatClampNeg (u_T_16 55 w1.toNatClampNeg) := ⟨_, rfl⟩
      replace hf := tx_let_e hf eu_T_19
      refine tx_iast (ws' := cl_X12 g a_T u_T_19 v_T ++ X) S hE hw 40 rfl h_18 (by rw [eu_T_19]; rfl) dX12_keep_105 (fun H locs hw => ?_)
      obtain ⟨y_20, ey_20⟩ : ∃ y : Int32, y = w1 + (1 : Int32) := ⟨_, rfl⟩
      replace hf := tx_let_e hf ey_20
      refine lv_iinc (v := y_20) (lv' := [(1, .int y_20), (0, .ref (a_T 0))]) hx hb dX12_keep_106 hl (k := 1) rfl (by rw [ey_20]; rfl) (by decide) rfl (fun ls hl => ?_)
      refine lv_goto (tgt := 70) hx hb dX12_keep_109 (by decide) ?_
      exact hK70 hf hw (lv_sub hl [1, 0] rfl)
  have L70 : ∀ (n : Nat), ∀ {u_T : S32} {v_T : S64} {w1 : Int32} {H : Heap} {locs : List Loc} {ls : Array Slot}, f_X12_keep_L70 fu n u_T v_T w1 = some (r, zu_T, zv_T) → WD g A s.heap (cl_X12 g a_T u_T v_T ++ X) H locs → lv_has ls 2 [(0, .ref (a_T 0)), (1, .int w1)] → W p l e (rmH 1) s m (List.toArray [.ref (a_T 0)]) below meth c H locs 0 0 (MQ below (va_Qi (fun r2 (_ : Unit) => r2 = r) (fun _ t => POST g A (cl_X12 g a_T zu_T zv_T ++ X) t) A) (List.toArray [.ref (a_T 0)]) s 0 0 A) (F0 m 70 ls []) := by
    intro  n
    induction n with
    | zero => intro u_T v_T w1 H locs ls hf; exact absurd hf (by intro q; cases q)
    | succ n ih => exact fun hf hw hl => J70 ih hf hw hl
  have J21 : ∀ {K21 : S32 → S64 → Int32 → Option (Int32 × S32 × S64)} (hK21 : ∀ {u_T : S32} {v_T : S64} {w1 : Int32} {H : Heap} {locs : List Loc} {ls : Array Slot}, K21 u_T v_T w1 = some (r, zu_T, zv_T) → WD g A s.heap (cl_X12 g a_T u_T v_T ++ X) H locs → lv_has ls 2 [(0, .ref (a_T 0)), (1, .int w1)] → W p l e (rmH 1) s m (List.toArray [.ref (a_T 0)]) below meth c H locs 0 0 (MQ below (va_Qi (fun r2 (_ : Unit) => r2 = r) (fun _ t => POST g A (cl_X12 g a_T zu_T zv_T ++ X) t) A) (List.toArray [.ref (a_T 0)]) s 0 0 A) (F0 m 21 ls [])), ∀ {u_T : S32} {v_T : S64} {w1 : Int32} {H : Heap} {locs : List Loc} {ls : Array Slot}, f_X12_keep_J21 fu K21 u_T v_T w1 = some (r, zu_T, zv_T) → WD g A s.heap (cl_X12 g a_T u_T v_T ++ X) H locs → lv_has ls 2 [(0, .ref (a_T 0)), (1, .int w1)] → W p l e (rmH 1) s m (List.toArray [.ref (a_T 0)]) below meth c H locs 0 0 (MQ below (va_Qi (fun r2 (_ : Unit) => r2 = r) (fun _ t => POST g A (cl_X12 g a_T zu_T zv_T ++ X) t) A) (List.toArray [.ref (a_T 0)]) s 0 0 A) (F0 m 21 ls []) := by
    intro K21 hK21 u_T v_T w1 H locs ls hf hw hl
    unfold f_X12_keep_J21 at hf
    refine lv_iload_n hx hb dX12_keep_21 rfl (lv_at hl 1 rfl) ?_
    refine lv_bipush (v := 12) hx hb dX12_keep_22 (by decide) ?_
    refine lv_icmp_ge (tgt := 68) hx hb dX12_keep_24 (by decide) (fun h_5 => ?_) (fun h_5 => ?_)
    · replace hf := tx_pos hf h_5
      refine lv_iconst (v := 0) hx hb dX12_keep_68 (by decide) ?_
      refine lv_istore_n (lv' := [(1, .int (0 : Int32)), (0, .ref (a_T 0))]) hx hb dX12_keep_69 rfl hl (by decide) rfl (fun ls hl => ?_)
      exact L70 fu hf hw (lv_sub hl [1, 0] rfl)
    · replace hf := tx_neg hf h_5
      refine lv_aload_n hx hb dX12_keep_27 rfl (lv_at hl 0 rfl) ?_
      refine gf_X12_136 S hE hw 0 rfl rfl dX12_keep_28 ?_
      refine lv_iload_n hx hb dX12_keep_31 rfl (lv_at hl 1 rfl) ?_
      refine lv_aload_n hx hb dX12_keep_32 rfl (lv_at hl 0 rfl) ?_
      refine gf_X12_88 S hE hw 0 rfl rfl dX12_keep_33 ?_
      refine lv_iload_n hx hb dX12_keep_36 rfl (lv_at hl 1 rfl) ?_
      obtain ⟨h_6, hf⟩ := tx_ck_e hf
      refine tx_iald S hE hw 25 rfl h_6 dX12_keep_37 ?_
      obtain ⟨h_7, hf⟩ := tx_ck_e hf
      obtain ⟨u_T_8, eu_T_8⟩ : ∃ z : S32, z = up2 u_T 80 w1.toNatClampNeg (u_T 50 w1.toNatClampNeg) := ⟨_, rfl⟩
      replace hf := tx_let_e hf eu_T_8
      refine tx_iast (ws' := cl_X12 g a_T u_T_8 v_T ++ X) S hE hw 40 rfl h_7 (by rw [eu_T_8]; rfl) dX12_keep_38 (fun H locs hw => ?_)
      refine lv_aload_n hx hb dX12_keep_39 rfl (lv_at hl 0 rfl) ?_
      refine gf_X12_136 S hE hw 0 rfl rfl dX12_keep_40 ?_
      refine lv_bipush (v := 12) hx hb dX12_keep_43 (by decide) ?_
      refine lv_iload_n hx hb dX12_keep_45 rfl (lv_at hl 1 rfl) ?_
      refine lv_iadd hx hb dX12_keep_46 ?_
      refine lv_aload_n hx hb dX12_keep_47 rfl (lv_at hl 0 rfl) ?_
      refine gf_X12_94 S hE hw 0 rfl rfl dX12_keep_48 ?_
      refine lv_iload_n hx hb dX12_keep_51 rfl (lv_at hl 1 rfl) ?_
      obtain ⟨h_9, hf⟩ := tx_ck_e hf
      refine tx_zald S hE hw 27 rfl h_9 dX12_keep_52 ?_
      refine lv_if_eq (tgt := 60) hx hb dX12_keep_53 (by decide) (fun h_10 => ?_) (fun h_10 => ?_)
      · replace hf := tx_pos hf h_10
        refine lv_iconst (v := 0) hx hb dX12_keep_60 (by decide) ?_
        exact J61 hK21 hf hw (lv_sub hl [0, 1] rfl)
      · replace hf := tx_neg hf h_10
        refine lv_iconst (v := 1) hx hb dX12_keep_56 (by decide) ?_
        refine lv_goto (tgt := 61) hx hb dX12_keep_57 (by decide) ?_
        exact J61 hK21 hf hw (lv_sub hl [0, 1] rfl)
  have L21 : ∀ (n : Nat), ∀ {u_T : S32} {v_T : S64} {w1 : Int32} {H : Heap} {locs : List Loc} {ls : Array Slot}, f_X12_keep_L21 fu n u_T v_T w1 = some (r, zu_T, zv_T) → WD g A s.heap (cl_X12 g a_T u_T v_T ++ X) H locs → lv_has ls 2 [(0, .ref (a_T 0)), (1, .int w1)] → W p l e (rmH 1) s m (List.toArray [.ref (a_T 0)]) below meth c H locs 0 0 (MQ below (va_Qi (fun r2 (_ : Unit) => r2 = r) (fun _ t => POST g A (cl_X12 g a_T zu_T zv_T ++ X) t) A) (List.toArray [.ref (a_T 0)]) s 0 0 A) (F0 m 21 ls []) := by
    intro  n
    induction n with
    | zero => intro u_T v_T w1 H locs ls hf; exact absurd hf (by intro q; cases q)
    | succ n ih => exact fun hf hw hl => J21 ih hf hw hl
  unfold f_X12_keep at hf
  refine lv_aload_n hx hb dX12_keep_0 rfl (lv_at hl 0 rfl) ?_
  refine lv_iconst (v := 0) hx hb dX12_keep_1 (by decide) ?_
  obtain ⟨u_T_1, eu_T_1⟩ : ∃ z : S32, z = up2 u_T 0 2 (0 : Int32) := ⟨_, rfl⟩
  replace hf := tx_let_e hf eu_T_1
  refine pf_X12_145 (ws' := cl_X12 g a_T u_T_1 v_T ++ X) S hE hw rfl rfl 0 rfl (Nat.le_of_ble_eq_true rfl) (by rw [eu_T_1]; rfl) dX12_keep_2 (fun H locs hw => ?_)
  refine lv_aload_n hx hb dX12_keep_5 rfl (lv_at hl 0 rfl) ?_
  refine lv_iconst (v := 1) hx hb dX12_keep_6 (by decide) ?_
  obtain ⟨u_T_2, eu_T_2⟩ : ∃ z : S32, z = up2 u_T_1 0 77 (1 : Int32) := ⟨_, rfl⟩
  replace hf := tx_let_e hf eu_T_2
  refine pf_X12_353 (ws' := cl_X12 g a_T u_T_2 v_T ++ X) S hE hw (by decide) (by decide) 0 rfl (Nat.le_of_ble_eq_true rfl) (by rw [eu_T_2]; rfl) dX12_keep_7 (fun H locs hw => ?_)
  refine lv_aload_n hx hb dX12_keep_10 rfl (lv_at hl 0 rfl) ?_
  refine lv_aload_n hx hb dX12_keep_11 rfl (lv_at hl 0 rfl) ?_
  refine gf_X12_133 S hE hw 0 rfl rfl dX12_keep_12 ?_
  refine lv_iconst (v := 0) hx hb dX12_keep_15 (by decide) ?_
  obtain ⟨u_T_4, h_3, hf⟩ := tx_b1_e hf
  refine tx_cv hw (tx_runV S hE hw (c_X12_put_tX12r79 h_3) lk_X12_516 (q0 := 0) rfl rfl rfl hl.1 (rest := []) rfl (Nat.le_of_ble_eq_true rfl) ⟨by decide, by decide⟩ dX12_keep_16 ⟨Nat.zero_le _, Nat.zero_le _⟩) (fun H locs hw => ?_)
  refine lv_iconst (v := 0) hx hb dX12_keep_19 (by decide) ?_
  refine lv_istore_n (lv' := [(1, .int (0 : Int32)), (0, .ref (a_T 0))]) hx hb dX12_keep_20 rfl hl (by decide) rfl (fun ls hl => ?_)
  exact L21 fu hf hw (lv_sub hl [1, 0] rfl)
def f_X12_take_tX12r79_J27 (fu : Nat) (v_T : S64) (K27 : S32 → Int32 → Int32 → Option (S32)) (u_T : S32) (w2 : Int32) (w3 : Int32) : Option (S32) := if (6 : Int32) ≤ w3 then (tx_ck (w2 + (30 : Int32)) 31 <| tx_let (up2 u_T 58 (0 : Int32).toNatClampNeg (u_T 79 (w2 + (30 : Int32)).toNatClampNeg)) fun (u_T_8 : S32) => some u_T_8) else (tx_ck ((w2 + (12 : Int32)) + w3) 31 <| tx_ck w3 12 <| tx_let (up2 u_T 53 w3.toNatClampNeg (u_T 79 ((w2 + (12 : Int32)) + w3).toNatClampNeg)) fun (u_T_11 : S32) => tx_ck ((w2 + (18 : Int32)) + w3) 31 <| tx_ck w3 12 <| tx_let (up2 u_T_11 56 w3.toNatClampNeg (u_T_11 79 ((w2 + (18 : Int32)) + w3).toNatClampNeg)) fun (u_T_14 : S32) => tx_ck ((w2 + (24 : Int32)) + w3) 31 <| tx_ck w3 12 <| tx_let (up2 u_T_14 57 w3.toNatClampNeg (u_T_14 79 ((w2 + (24 : Int32)) + w3).toNatClampNeg)) fun (u_T_17 : S32) => tx_let (w3 + (1 : Int32)) fun (y_18 : Int32) => K27 u_T_17 w2 y_18)
def f_X12_take_tX12r79_L27 (fu : Nat) (v_T : S64) : Nat → S32 → Int32 → Int32 → Option (S32)
  | 0 => fun _ _ _ => none
  | n + 1 => f_X12_take_tX12r79_J27 fu v_T (f_X12_take_tX12r79_L27 fu v_T n)
def f_X12_take_tX12r79_J2 (fu : Nat) (v_T : S64) (K2 : S32 → Int32 → Int32 → Option (S32)) (u_T : S32) (w2 : Int32) (w3 : Int32) : Option (S32) := if (12 : Int32) ≤ w3 then (f_X12_take_tX12r79_L27 fu v_T fu u_T w2 (0 : Int32)) else (tx_ck (w2 + w3) 31 <| tx_ck w3 24 <| tx_let (up2 u_T 51 w3.toNatClampNeg (u_T 79 (w2 + w3).toNatClampNeg)) fun (u_T_4 : S32) => tx_let (w3 + (1 : Int32)) fun (y_5 : Int32) => K2 u_T_4 w2 y_5)
def f_X12_take_tX12r79_L2 (fu : Nat) (v_T : S64) : Nat → S32 → Int32 → Int32 → Option (S32)
  | 0 => fun _ _ _ => none
  | n + 1 => f_X12_take_tX12r79_J2 fu v_T (f_X12_take_tX12r79_L2 fu v_T n)
def f_X12_take_tX12r79 (fu : Nat) (v_T : S64) (u_T : S32) (x2 : Int32) : Option (S32) := f_X12_take_tX12r79_L2 fu v_T fu u_T x2 (0 : Int32)
set_option maxHeartbeats 4000000 in
set_option maxRecDepth 100000 in
theorem c_X12_take_tX12r79 {l : Launch} {g : GG} {A : Nat → Prop} {X : va_W} {fu : Nat} {a_T : Nat → Nat} {u_T : S32} {v_T : S64} {x2 : Int32} {zu_T : S32} (hf : f_X12_take_tX12r79 fu v_T u_T x2 = some zu_T) : MV l yX12_take cX12_take 4 none 0 g A (cl_X12 g a_T u_T v_T ++ X) [.ref (a_T 0), .ref (a_T 79), .int x2] (cl_X12 g a_T zu_T v_T ++ X) := by
  refine tx_start (av := [.ref (a_T 0), .ref (a_T 79), .int x2]) (by decide) (Nat.le_of_ble_eq_true rfl) ?_
  intro p e s m below meth c ls S hr hlk hE hw hl
  have S : CallFix p m c cX12_take 4 s (List.toArray [.ref (a_T 0), .ref (a_T 79), .int x2]) (Cond.code yX12_take cX12_take 4 none :: allW) RX12 := S
  have hx := S.1
  have hb := S.2.1
  have hown := S.2.2.2.1
  have hts : ∀ w ∈ allW, w.before (List.toArray [.ref (a_T 0), .ref (a_T 79), .int x2]) s = true := fun w h => S.2.2.2.2 w (List.mem_cons_of_mem _ h)
  have hl : lv_has ls 4 [(0, .ref (a_T 0)), (1, .ref (a_T 79)), (2, .int x2)] := hl
  have J27 : ∀ {K27 : S32 → Int32 → Int32 → Option (S32)} (hK27 : ∀ {u_T : S32} {w2 : Int32} {w3 : Int32} {H : Heap} {locs : List Loc} {ls : Array Slot}, K27 u_T w2 w3 = some zu_T → WD g A s.heap (cl_X12 g a_T u_T v_T ++ X) H locs → lv_has ls 4 [(0, .ref (a_T 0)), (1, .ref (a_T 79)), (2, .int w2), (3, .int w3)] → W p l e (rmH 0) s m (List.toArray [.ref (a_T 0), .ref (a_T 79), .int x2]) below meth c H locs 0 0 (MQ below (va_Qv (fun (_ : Unit) => True) (fun _ t => POST g A (cl_X12 g a_T zu_T v_T ++ X) t) A) (List.toArray [.ref (a_T 0), .ref (a_T 79), .int x2]) s 0 0 A) (F0 m 27 ls [])), ∀ {u_T : S32} {w2 : Int32} {w3 : Int32} {H : Heap} {locs : List Loc} {ls : Array Slot}, f_X12_take_tX12r79_J27 fu v_T K27 u_T w2 w3 = some zu_T → WD g A s.heap (cl_X12 g a_T u_T v_T ++ X) H locs → lv_has ls 4 [(0, .ref (a_T 0)), (1, .ref (a_T 79)), (2, .int w2), (3, .int w3)] → W p l e (rmH 0) s m (List.toArray [.ref (a_T 0), .ref (a_T 79), .int x2]) below meth c H locs 0 0 (MQ below (va_Qv (fun (_ : Unit) => True) (fun _ t => POST g A (cl_X12 g a_T zu_T v_T ++ X) t) A) (List.toArray [.ref (a_T 0), .ref (a_T 79), .int x2]) s 0 0 A) (F0 m 27 ls []) := by
    intro K27 hK27 u_T w2 w3 H locs ls hf hw hl
    unfold f_X12_take_tX12r79_J27 at hf
    refine lv_iload_n hx hb dX12_take_27 rfl (lv_at hl 3 rfl) ?_
    refine lv_bipush (v := 6) hx hb dX12_take_28 (by decide) ?_
    refine lv_icmp_ge (tgt := 81) hx hb dX12_take_30 (by decide) (fun h_6 => ?_) (fun h_6 => ?_)
    · replace hf := tx_pos hf h_6
      refine lv_aload_n hx hb dX12_take_81 rfl (lv_at hl 0 rfl) ?_
      refine gf_X12_112 S hE hw 0 rfl rfl dX12_take_82 ?_
      refine lv_iconst (v := 0) hx hb dX12_take_85 (by decide) ?_
      refine lv_aload_n hx hb dX12_take_86 rfl (lv_at hl 1 rfl) ?_
      refine lv_iload_n hx hb dX12_take_87 rfl (lv_at hl 2 rfl) ?_
      refine lv_bipush (v := 30) hx hb dX12_take_88 (by decide) ?_
      refine lv_iadd hx hb dX12_take_90 ?_
      obtain ⟨h_7, hf⟩ := tx_ck_e hf
      refine tx_iald S hE hw 39 rfl h_7 dX12_take_91 ?_
      obtain ⟨u_T_8, eu_T_8⟩ : ∃ z : S32, z = up2 u_T 58 (0 : Int32).toNatClampNeg (u_T 79 (w2 + (30 : Int32)).toNatClampNeg) := ⟨_, rfl⟩
      replace hf := tx_let_e hf eu_T_8
      refine tx_iast (ws' := cl_X12 g a_T u_T_8 v_T ++ X) S hE hw 33 rfl (by unfold vp_in; decide) (by rw [eu_T_8]; rfl) dX12_take_92 (fun H locs hw => ?_)
      obtain e0 := tx_in1 hf
      rw [← e0]
      exact tx_vret S hr hlk hw dX12_take_93
    · replace hf := tx_neg hf h_6
      refine lv_aload_n hx hb dX12_take_33 rfl (lv_at hl 0 rfl) ?_
      refine gf_X12_97 S hE hw 0 rfl rfl dX12_take_34 ?_
      refine lv_iload_n hx hb dX12_take_37 rfl (lv_at hl 3 rfl) ?_
      refine lv_aload_n hx hb dX12_take_38 rfl (lv_at hl 1 rfl) ?_
      refine lv_iload_n hx hb dX12_take_39 rfl (lv_at hl 2 rfl) ?_
      refine lv_bipush (v := 12) hx hb dX12_take_40 (by decide) ?_
      refine lv_iadd hx hb dX12_take_42 ?_
      refine lv_iload_n hx hb dX12_take_43 rfl (lv_at hl 3 rfl) ?_
      refine lv_iadd hx hb dX12_take_44 ?_
      obtain ⟨h_9, hf⟩ := tx_ck_e hf
      refine tx_iald S hE hw 39 rfl h_9 dX12_take_45 ?_
      obtain ⟨h_10, hf⟩ := tx_ck_e hf
      obtain ⟨u_T_11, eu_T_11⟩ : ∃ z : S32, z = up2 u_T 53 w3.toNatClampNeg (u_T 79 ((w2 + (12 : Int32)) + w3).toNatClampNeg) := ⟨_, rfl⟩
      replace hf := tx_let_e hf eu_T_11
      refine tx_iast (ws' := cl_X12 g a_T u_T_11 v_T ++ X) S hE hw 28 rfl h_10 (by rw [eu_T_11]; rfl) dX12_take_46 (fun H locs hw => ?_)
      refine lv_aload_n hx hb dX12_take_47 rfl (lv_at hl 0 rfl) ?_
      refine gf_X12_106 S hE hw 0 rfl rfl dX12_take_48 ?_
      refine lv_iload_n hx hb dX12_take_51 rfl (lv_at hl 3 rfl) ?_
      refine lv_aload_n hx hb dX12_take_52 rfl (lv_at hl 1 rfl) ?_
      refine lv_iload_n hx hb dX12_take_53 rfl (lv_at hl 2 rfl) ?_
      refine lv_bipush (v := 18) hx hb dX12_take_54 (by decide) ?_
      refine lv_iadd hx hb dX12_take_56 ?_
      refine lv_iload_n hx hb dX12_take_57 rfl (lv_at hl 3 rfl) ?_
      refine lv_iadd hx hb dX12_take_58 ?_
      obtain ⟨h_12, hf⟩ := tx_ck_e hf
      refine tx_iald S hE hw 39 rfl h_12 dX12_take_59 ?_
      obtain ⟨h_13, hf⟩ := tx_ck_e hf
      obtain ⟨u_T_14, eu_T_14⟩ : ∃ z : S32, z = up2 u_T_11 56 w3.toNatClampNeg (u_T_11 79 ((w2 + (18 : Int32)) + w3).toNatClampNeg) := ⟨_, rfl⟩
      replace hf := tx_let_e hf eu_T_14
      refine tx_iast (ws' := cl_X12 g a_T u_T_14 v_T ++ X) S hE hw 31 rfl h_13 (by rw [eu_T_14]; rfl) dX12_take_60 (fun H locs hw => ?_)
      refine lv_aload_n hx hb dX12_take_61 rfl (lv_at hl 0 rfl) ?_
      refine gf_X12_109 S hE hw 0 rfl rfl dX12_take_62 ?_
      refine lv_iload_n hx hb dX12_take_65 rfl (lv_at hl 3 rfl) ?_
      refine lv_aload_n hx hb dX12_take_66 rfl (lv_at hl 1 rfl) ?_
      refine lv_iload_n hx hb dX12_take_67 rfl (lv_at hl 2 rfl) ?_
      refine lv_bipush (v := 24) hx hb dX12_take_68 (by decide) ?_
      refine lv_iadd hx hb dX12_take_70 ?_
      refine lv_iload_n hx hb dX12_take_71 rfl (lv_at hl 3 rfl) ?_
      refine lv_iadd hx hb dX12_take_72 ?_
      obtain ⟨h_15, hf⟩ := tx_ck_e hf
      refine tx_iald S hE hw 39 rfl h_15 dX12_take_73 ?_
      obtain ⟨h_16, hf⟩ := tx_ck_e hf
      obtain ⟨u_T_17, eu_T_17⟩ : ∃ z : S32, z = up2 u_T_14 57 w3.toNatClampNeg (u_T_14 79 ((w2 + (24 : Int32)) + w3).toNatClampNeg) := ⟨_, rfl⟩
      replace hf := tx_let_e hf eu_T_17
      refine tx_iast (ws' := cl_X12 g a_T u_T_17 v_T ++ X) S hE hw 32 rfl h_16 (by rw [eu_T_17]; rfl) dX12_take_74 (fun H locs hw => ?_)
      obtain ⟨y_18, ey_18⟩ : ∃ y : Int32, y = w3 + (1 : Int32) := ⟨_, rfl⟩
      replace hf := tx_let_e hf ey_18
      refine lv_iinc (v := y_18) (lv' := [(3, .int y_18), (0, .ref (a_T 0)), (1, .ref (a_T 79)), (2, .int w2)]) hx hb dX12_take_75 hl (k := 3) rfl (by rw [ey_18]; rfl) (by decide) rfl (fun ls hl => ?_)
      refine lv_goto (tgt := 27) hx hb dX12_take_78 (by decide) ?_
      exact hK27 hf hw (lv_sub hl [1, 2, 3, 0] rfl)
  have L27 : ∀ (n : Nat), ∀ {u_T : S32} {w2 : Int32} {w3 : Int32} {H : Heap} {locs : List Loc} {ls : Array Slot}, f_X12_take_tX12r79_L27 fu v_T n u_T w2 w3 = some zu_T → WD g A s.heap (cl_X12 g a_T u_T v_T ++ X) H locs → lv_has ls 4 [(0, .ref (a_T 0)), (1, .ref (a_T 79)), (2, .int w2), (3, .int w3)] → W p l e (rmH 0) s m (List.toArray [.ref (a_T 0), .ref (a_T 79), .int x2]) below meth c H locs 0 0 (MQ below (va_Qv (fun (_ : Unit) => True) (fun _ t => POST g A (cl_X12 g a_T zu_T v_T ++ X) t) A) (List.toArray [.ref (a_T 0), .ref (a_T 79), .int x2]) s 0 0 A) (F0 m 27 ls []) := by
    intro  n
    induction n with
    | zero => intro u_T w2 w3 H locs ls hf; exact absurd hf (by intro q; cases q)
    | succ n ih => exact fun hf hw hl => J27 ih hf hw hl
  have J2 : ∀ {K2 : S32 → Int32 → Int32 → Option (S32)} (hK2 : ∀ {u_T : S32} {w2 : Int32} {w3 : Int32} {H : Heap} {locs : List Loc} {ls : Array Slot}, K2 u_T w2 w3 = some zu_T → WD g A s.heap (cl_X12 g a_T u_T v_T ++ X) H locs → lv_has ls 4 [(0, .ref (a_T 0)), (1, .ref (a_T 79)), (2, .int w2), (3, .int w3)] → W p l e (rmH 0) s m (List.toArray [.ref (a_T 0), .ref (a_T 79), .int x2]) below meth c H locs 0 0 (MQ below (va_Qv (fun (_ : Unit) => True) (fun _ t => POST g A (cl_X12 g a_T zu_T v_T ++ X) t) A) (List.toArray [.ref (a_T 0), .ref (a_T 79), .int x2]) s 0 0 A) (F0 m 2 ls [])), ∀ {u_T : S32} {w2 : Int32} {w3 : Int32} {H : Heap} {locs : List Loc} {ls : Array Slot}, f_X12_take_tX12r79_J2 fu v_T K2 u_T w2 w3 = some zu_T → WD g A s.heap (cl_X12 g a_T u_T v_T ++ X) H locs → lv_has ls 4 [(0, .ref (a_T 0)), (1, .ref (a_T 79)), (2, .int w2), (3, .int w3)] → W p l e (rmH 0) s m (List.toArray [.ref (a_T 0), .ref (a_T 79), .int x2]) below meth c H locs 0 0 (MQ below (va_Qv (fun (_ : Unit) => True) (fun _ t => POST g A (cl_X12 g a_T zu_T v_T ++ X) t) A) (List.toArray [.ref (a_T 0), .ref (a_T 79), .int x2]) s 0 0 A) (F0 m 2 ls []) := by
    intro K2 hK2 u_T w2 w3 H locs ls hf hw hl
    unfold f_X12_take_tX12r79_J2 at hf
    refine lv_iload_n hx hb dX12_take_2 rfl (lv_at hl 3 rfl) ?_
    refine lv_bipush (v := 12) hx hb dX12_take_3 (by decide) ?_
    refine lv_icmp_ge (tgt := 25) hx hb dX12_take_5 (by decide) (fun h_1 => ?_) (fun h_1 => ?_)
    · replace hf := tx_pos hf h_1
      refine lv_iconst (v := 0) hx hb dX12_take_25 (by decide) ?_
      refine lv_istore_n (lv' := [(3, .int (0 : Int32)), (0, .ref (a_T 0)), (1, .ref (a_T 79)), (2, .int w2)]) hx hb dX12_take_26 rfl hl (by decide) rfl (fun ls hl => ?_)
      exact L27 fu hf hw (lv_sub hl [1, 2, 3, 0] rfl)
    · replace hf := tx_neg hf h_1
      refine lv_aload_n hx hb dX12_take_8 rfl (lv_at hl 0 rfl) ?_
      refine gf_X12_91 S hE hw 0 rfl rfl dX12_take_9 ?_
      refine lv_iload_n hx hb dX12_take_12 rfl (lv_at hl 3 rfl) ?_
      refine lv_aload_n hx hb dX12_take_13 rfl (lv_at hl 1 rfl) ?_
      refine lv_iload_n hx hb dX12_take_14 rfl (lv_at hl 2 rfl) ?_
      refine lv_iload_n hx hb dX12_take_15 rfl (lv_at hl 3 rfl) ?_
      refine lv_iadd hx hb dX12_take_16 ?_
      obtain ⟨h_2, hf⟩ := tx_ck_e hf
      refine tx_iald S hE hw 39 rfl h_2 dX12_take_17 ?_
      obtain ⟨h_3, hf⟩ := tx_ck_e hf
      obtain ⟨u_T_4, eu_T_4⟩ : ∃ z : S32, z = up2 u_T 51 w3.toNatClampNeg (u_T 79 (w2 + w3).toNatClampNeg) := ⟨_, rfl⟩
      replace hf := tx_let_e hf eu_T_4
      refine tx_iast (ws' := cl_X12 g a_T u_T_4 v_T ++ X) S hE hw 26 rfl h_3 (by rw [eu_T_4]; rfl) dX12_take_18 (fun H locs hw => ?_)
      obtain ⟨y_5, ey_5⟩ : ∃ y : Int32, y = w3 + (1 : Int32) := ⟨_, rfl⟩
      replace hf := tx_let_e hf ey_5
      refine lv_iinc (v := y_5) (lv' := [(3, .int y_5), (0, .ref (a_T 0)), (1, .ref (a_T 79)), (2, .int w2)]) hx hb dX12_take_19 hl (k := 3) rfl (by rw [ey_5]; rfl) (by decide) rfl (fun ls hl => ?_)
      refine lv_goto (tgt := 2) hx hb dX12_take_22 (by decide) ?_
      exact hK2 hf hw (lv_sub hl [1, 2, 3, 0] rfl)
  have L2 : ∀ (n : Nat), ∀ {u_T : S32} {w2 : Int32} {w3 : Int32} {H : Heap} {locs : List Loc} {ls : Array Slot}, f_X12_take_tX12r79_L2 fu v_T n u_T w2 w3 = some zu_T → WD g A s.heap (cl_X12 g a_T u_T v_T ++ X) H locs → lv_has ls 4 [(0, .ref (a_T 0)), (1, .ref (a_T 79)), (2, .int w2), (3, .int w3)] → W p l e (rmH 0) s m (List.toArray [.ref (a_T 0), .ref (a_T 79), .int x2]) below meth c H locs 0 0 (MQ below (va_Qv (fun (_ : Unit) => True) (fun _ t => POST g A (cl_X12 g a_T zu_T v_T ++ X) t) A) (List.toArray [.ref (a_T 0), .ref (a_T 79), .int x2]) s 0 0 A) (F0 m 2 ls []) := by
    intro  n
    induction n with
    | zero => intro u_T w2 w3 H locs ls hf; exact absurd hf (by intro q; cases q)
    | succ n ih => exact fun hf hw hl => J2 ih hf hw hl
  unfold f_X12_take_tX12r79 at hf
  refine lv_iconst (v := 0) hx hb dX12_take_0 (by decide) ?_
  refine lv_istore_n (lv' := [(3, .int (0 : Int32)), (0, .ref (a_T 0)), (1, .ref (a_T 79)), (2, .int x2)]) hx hb dX12_take_1 rfl hl (by decide) rfl (fun ls hl => ?_)
  exact L2 fu hf hw (lv_sub hl [1, 2, 3, 0] rfl)
def f_X12_back_J66 (fu : Nat) (K25 : S32 → S64 → Int32 → Option (Int32 × S32 × S64)) (u_T : S32) (v_T : S64) (w1 : Int32) (t1 : Int32) (t2 : Int32) : Option (Int32 × S32 × S64) := tx_ck t1 24 <| tx_let (up2 u_T 52 t1.toNatClampNeg (t2 &&& 1)) fun (u_T_23 : S32) => tx_let (w1 + (1 : Int32)) fun (y_24 : Int32) => K25 u_T_23 v_T y_24
def f_X12_back_J75 (fu : Nat) (K75 : S32 → S64 → Int32 → Option (Int32 × S32 × S64)) (u_T : S32) (v_T : S64) (w1 : Int32) : Option (Int32 × S32 × S64) := if (6 : Int32) ≤ w1 then (tx_let (up2 u_T 59 (0 : Int32).toNatClampNeg (u_T 80 (36 : Int32).toNatClampNeg)) fun (u_T_12 : S32) => tx_let (up4 v_T 0 59 (v_T 0 80)) fun (v_T_13 : S64) => tx_let (up2 u_T_12 0 75 (0 : Int32)) fun (u_T_14 : S32) => some (u_T_14 59 (0 : Int32).toNatClampNeg, u_T_14, v_T_13)) else (tx_ck ((24 : Int32) + w1) 37 <| tx_ck w1 12 <| tx_let (up2 u_T 54 w1.toNatClampNeg (u_T 80 ((24 : Int32) + w1).toNatClampNeg)) fun (u_T_17 : S32) => tx_ck ((30 : Int32) + w1) 37 <| tx_ck w1 12 <| tx_let (up2 u_T_17 55 w1.toNatClampNeg (u_T_17 80 ((30 : Int32) + w1).toNatClampNeg)) fun (u_T_20 : S32) => tx_let (w1 + (1 : Int32)) fun (y_21 : Int32) => K75 u_T_20 v_T y_21)
def f_X12_back_L75 (fu : Nat) : Nat → S32 → S64 → Int32 → Option (Int32 × S32 × S64)
  | 0 => fun _ _ _ => none
  | n + 1 => f_X12_back_J75 fu (f_X12_back_L75 fu n)
def f_X12_back_J25 (fu : Nat) (K25 : S32 → S64 → Int32 → Option (Int32 × S32 × S64)) (u_T : S32) (v_T : S64) (w1 : Int32) : Option (Int32 × S32 × S64) := if (12 : Int32) ≤ w1 then (f_X12_back_L75 fu fu u_T v_T (0 : Int32)) else (tx_ck w1 37 <| tx_ck w1 24 <| tx_let (up2 u_T 50 w1.toNatClampNeg (u_T 80 w1.toNatClampNeg)) fun (u_T_8 : S32) => tx_ck ((12 : Int32) + w1) 37 <| if (u_T_8 80 ((12 : Int32) + w1).toNatClampNeg) = (1 : Int32) then (f_X12_back_J66 fu K25 u_T_8 v_T w1 w1 (1 : Int32)) else (f_X12_back_J66 fu K25 u_T_8 v_T w1 w1 (0 : Int32)))
def f_X12_back_L25 (fu : Nat) : Nat → S32 → S64 → Int32 → Option (Int32 × S32 × S64)
  | 0 => fun _ _ _ => none
  | n + 1 => f_X12_back_J25 fu (f_X12_back_L25 fu n)
def f_X12_back (fu : Nat) (u_T : S32) (v_T : S64) : Option (Int32 × S32 × S64) := tx_let (up2 u_T 0 2 (0 : Int32)) fun (u_T_1 : S32) => if (u_T_1 0 77) = (0 : Int32) then (some ((-1 : Int32), u_T_1, v_T)) else (tx_b1 (f_X12_take_tX12r79 fu v_T u_T_1 (0 : Int32)) fun (u_T_4 : S32) => f_X12_back_L25 fu fu u_T_4 v_T (0 : Int32))
set_option maxHeartbeats 4000000 in
set_option maxRecDepth 100000 in
theorem c_X12_back {l : Launch} {g : GG} {A : Nat → Prop} {X : va_W} {fu : Nat} {a_T : Nat → Nat} {u_T : S32} {v_T : S64} {r : Int32} {zu_T : S32} {zv_T : S64} (hf : f_X12_back fu  u_T v_T = some (r, zu_T, zv_T)) : MI l yX12_back cX12_back 2 (some .int) 1 g A (cl_X12 g a_T u_T v_T ++ X) [.ref (a_T 0)] r (cl_X12 g a_T zu_T zv_T ++ X) := by
  refine tx_start (av := [.ref (a_T 0)]) (by decide) (Nat.le_of_ble_eq_true rfl) ?_
  intro p e s m below meth c ls S hr hlk hE hw hl
  have S : CallFix p m c cX12_back 2 s (List.toArray [.ref (a_T 0)]) (Cond.code yX12_back cX12_back 2 (some .int) :: allW) RX12 := S
  have hx := S.1
  have hb := S.2.1
  have hown := S.2.2.2.1
  have hts : ∀ w ∈ allW, w.before (List.toArray [.ref (a_T 0)]) s = true := fun w h => S.2.2.2.2 w (List.mem_cons_of_mem _ h)
  have hl : lv_has ls 2 [(0, .ref (a_T 0))] := hl
  have J66 : ∀ {K25 : S32 → S64 → Int32 → Option (Int32 × S32 × S64)} (hK25 : ∀ {u_T : S32} {v_T : S64} {w1 : Int32} {H : Heap} {locs : List Loc} {ls : Array Slot}, K25 u_T v_T w1 = some (r, zu_T, zv_T) → WD g A s.heap (cl_X12 g a_T u_T v_T ++ X) H locs → lv_has ls 2 [(0, .ref (a_T 0)), (1, .int w1)] → W p l e (rmH 1) s m (List.toArray [.ref (a_T 0)]) below meth c H locs 0 0 (MQ below (va_Qi (fun r2 (_ : Unit) => r2 = r) (fun _ t => POST g A (cl_X12 g a_T zu_T zv_T ++ X) t) A) (List.toArray [.ref (a_T 0)]) s 0 0 A) (F0 m 25 ls [])), ∀ {u_T : S32} {v_T : S64} {w1 : Int32} {t1 : Int32} {t2 : Int32} {H : Heap} {locs : List Loc} {ls : Array Slot}, f_X12_back_J66 fu K25 u_T v_T w1 t1 t2 = some (r, zu_T, zv_T) → WD g A s.heap (cl_X12 g a_T u_T v_T ++ X) H locs → lv_has ls 2 [(0, .ref (a_T 0)), (1, .int w1)] → W p l e (rmH 1) s m (List.toArray [.ref (a_T 0)]) below meth c H locs 0 0 (MQ below (va_Qi (fun r2 (_ : Unit) => r2 = r) (fun _ t => POST g A (cl_X12 g a_T zu_T zv_T ++ X) t) A) (List.toArray [.ref (a_T 0)]) s 0 0 A) (F0 m 66 ls [.int t2, .int t1, .ref (a_T 52)]) := by
    intro K25 hK25 u_T v_T w1 t1 t2 H locs ls hf hw hl
    unfold f_X12_back_J66 at hf
    obtain ⟨h_22, hf⟩ := tx_ck_e hf
    obtain ⟨u_T_23, eu_T_23⟩ : ∃ z : S32, z = up2 u_T 52 t1.toNatClampNeg (t2 &&& 1) := ⟨_, rfl⟩
    replace hf := tx_let_e hf eu_T_23
    refine tx_zast (ws' := cl_X12 g a_T u_T_23 v_T ++ X) S hE hw 27 rfl h_22 (by rw [eu_T_23]; rfl) dX12_back_66 (fun H locs hw => ?_)
    obtain ⟨y_24, ey_24⟩ : ∃ y : Int32, y = w1 + (1 : Int32) := ⟨_, rfl⟩
    replace hf := tx_let_e hf ey_24
    refine lv_iinc (v := y_24) (lv' := [(1, .int y_24), (0, .ref (a_T 0))]) hx hb dX12_back_67 hl (k := 1) rfl (by rw [ey_24]; rfl) (by decide) rfl (fun ls hl => ?_)
    refine lv_goto (tgt := 25) hx hb dX12_back_70 (by decide) ?_
    exact hK25 hf hw (lv_sub hl [1, 0] rfl)
  have J75 : ∀ {K75 : S32 → S64 → Int32 → Option (Int32 × S32 × S64)} (hK75 : ∀ {u_T : S32} {v_T : S64} {w1 : Int32} {H : Heap} {locs : List Loc} {ls : Array Slot}, K75 u_T v_T w1 = some (r, zu_T, zv_T) → WD g A s.heap (cl_X12 g a_T u_T v_T ++ X) H locs → lv_has ls 2 [(0, .ref (a_T 0)), (1, .int w1)] → W p l e (rmH 1) s m (List.toArray [.ref (a_T 0)]) below meth c H locs 0 0 (MQ below (va_Qi (fun r2 (_ : Unit) => r2 = r) (fun _ t => POST g A (cl_X12 g a_T zu_T zv_T ++ X) t) A) (List.toArray [.ref (a_T 0)]) s 0 0 A) (F0 m 75 ls [])), ∀ {u_T : S32} {v_T : S64} {w1 : Int32} {H : Heap} {locs : List Loc} {ls : Array Slot}, f_X12_back_J75 fu K75 u_T v_T w1 = some (r, zu_T, zv_T) → WD g A s.heap (cl_X12 g a_T u_T v_T ++ X) H locs → lv_has ls 2 [(0, .ref (a_T 0)), (1, .int w1)] → W p l e (rmH 1) s m (List.toArray [.ref (a_T 0)]) below meth c H locs 0 0 (MQ below (va_Qi (fun r2 (_ : Unit) => r2 = r) (fun _ t => POST g A (cl_X12 g a_T zu_T zv_T ++ X) t) A) (List.toArray [.ref (a_T 0)]) s 0 0 A) (F0 m 75 ls []) := by
    intro K75 hK75 u_T v_T w1 H locs ls hf hw hl
    unfold f_X12_back_J75 at hf
    refine lv_iload_n hx hb dX12_back_75 rfl (lv_at hl 1 rfl) ?_
    refine lv_bipush (v := 6) hx hb dX12_back_76 (by decide) ?_
    refine lv_icmp_ge (tgt := 117) hx hb dX12_back_78 (by decide) (fun h_11 => ?_) (fun h_11 => ?_)
    · replace hf := tx_pos hf h_11
      refine lv_aload_n hx hb dX12_back_117 rfl (lv_at hl 0 rfl) ?_
      refine gf_X12_115 S hE hw 0 rfl rfl dX12_back_118 ?_
      refine lv_iconst (v := 0) hx hb dX12_back_121 (by decide) ?_
      refine lv_aload_n hx hb dX12_back_122 rfl (lv_at hl 0 rfl) ?_
      refine gf_X12_136 S hE hw 0 rfl rfl dX12_back_123 ?_
      refine lv_bipush (v := 36) hx hb dX12_back_126 (by decide) ?_
      refine tx_iald S hE hw 40 rfl (by unfold vp_in; decide) dX12_back_128 ?_
      obtain ⟨u_T_12, eu_T_12⟩ : ∃ z : S32, z = up2 u_T 59 (0 : Int32).toNatClampNeg (u_T 80 (36 : Int32).toNatClampNeg) := ⟨_, rfl⟩
      replace hf := tx_let_e hf eu_T_12
      refine tx_iast (ws' := cl_X12 g a_T u_T_12 v_T ++ X) S hE hw 34 rfl (by unfold vp_in; decide) (by rw [eu_T_12]; rfl) dX12_back_129 (fun H locs hw => ?_)
      refine lv_aload_n hx hb dX12_back_130 rfl (lv_at hl 0 rfl) ?_
      refine lv_aload_n hx hb dX12_back_131 rfl (lv_at hl 0 rfl) ?_
      refine gf_X12_522 S hE hw 0 rfl rfl dX12_back_132 ?_
      obtain ⟨v_T_13, ev_T_13⟩ : ∃ z : S64, z = up4 v_T 0 59 (v_T 0 80) := ⟨_, rfl⟩
      replace hf := tx_let_e hf ev_T_13
      refine pf_X12_340 (ws' := cl_X12 g a_T u_T_12 v_T_13 ++ X) S hE hw rfl rfl 0 rfl (Nat.le_of_ble_eq_true rfl) (by rw [ev_T_13]; rfl) dX12_back_135 (fun H locs hw => ?_)
      refine lv_aload_n hx hb dX12_back_138 rfl (lv_at hl 0 rfl) ?_
      refine lv_iconst (v := 0) hx hb dX12_back_139 (by decide) ?_
      obtain ⟨u_T_14, eu_T_14⟩ : ∃ z : S32, z = up2 u_T_12 0 75 (0 : Int32) := ⟨_, rfl⟩
      replace hf := tx_let_e hf eu_T_14
      refine pf_X12_350 (ws' := cl_X12 g a_T u_T_14 v_T_13 ++ X) S hE hw rfl rfl 0 rfl (Nat.le_of_ble_eq_true rfl) (by rw [eu_T_14]; rfl) dX12_back_140 (fun H locs hw => ?_)
      refine lv_aload_n hx hb dX12_back_143 rfl (lv_at hl 0 rfl) ?_
      refine gf_X12_115 S hE hw 0 rfl rfl dX12_back_144 ?_
      refine lv_iconst (v := 0) hx hb dX12_back_147 (by decide) ?_
      refine tx_iald S hE hw 34 rfl (by unfold vp_in; decide) dX12_back_148 ?_
      obtain ⟨e0, e1, e2⟩ := tx_in3 hf
      rw [← e0, ← e1, ← e2]
      exact tx_iret S hr hlk hw dX12_back_149
    · replace hf := tx_neg hf h_11
      refine lv_aload_n hx hb dX12_back_81 rfl (lv_at hl 0 rfl) ?_
      refine gf_X12_100 S hE hw 0 rfl rfl dX12_back_82 ?_
      refine lv_iload_n hx hb dX12_back_85 rfl (lv_at hl 1 rfl) ?_
      refine lv_aload_n hx hb dX12_back_86 rfl (lv_at hl 0 rfl) ?_
      refine gf_X12_136 S hE hw 0 rfl rfl dX12_back_87 ?_
      refine lv_bipush (v := 24) hx hb dX12_back_90 (by decide) ?_
      refine lv_iload_n hx hb dX12_back_92 rfl (lv_at hl 1 rfl) ?_
      refine lv_iadd hx hb dX12_back_93 ?_
      obtain ⟨h_15, hf⟩ := tx_ck_e hf
      refine tx_iald S hE hw 40 rfl h_15 dX12_back_94 ?_
      obtain ⟨h_16, hf⟩ := tx_ck_e hf
      obtain ⟨u_T_17, eu_T_17⟩ : ∃ z : S32, z = up2 u_T 54 w1.toNatClampNeg (u_T 80 ((24 : Int32) + w1).toNatClampNeg) := ⟨_, rfl⟩
      replace hf := tx_let_e hf eu_T_17
      refine tx_iast (ws' := cl_X12 g a_T u_T_17 v_T ++ X) S hE hw 29 rfl h_16 (by rw [eu_T_17]; rfl) dX12_back_95 (fun H locs hw => ?_)
      refine lv_aload_n hx hb dX12_back_96 rfl (lv_at hl 0 rfl) ?_
      refine gf_X12_103 S hE hw 0 rfl rfl dX12_back_97 ?_
      refine lv_iload_n hx hb dX12_back_100 rfl (lv_at hl 1 rfl) ?_
      refine lv_aload_n hx hb dX12_back_101 rfl (lv_at hl 0 rfl) ?_
      refine gf_X12_136 S hE hw 0 rfl rfl dX12_back_102 ?_
      refine lv_bipush (v := 30) hx hb dX12_back_105 (by decide) ?_
      refine lv_iload_n hx hb dX12_back_107 rfl (lv_at hl 1 rfl) ?_
      refine lv_iadd hx hb dX12_back_108 ?_
      obtain ⟨h_18, hf⟩ := tx_ck_e hf
      refine tx_iald S hE hw 40 rfl h_18 dX12_back_109 ?_
      obtain ⟨h_19, hf⟩ := tx_ck_e hf
      obtain ⟨u_T_20, eu_T_20⟩ : ∃ z : S32, z = up2 u_T_17 55 w1.toNatClampNeg (u_T_17 80 ((30 : Int32) + w1).toNatClampNeg) := ⟨_, rfl⟩
      replace hf := tx_let_e hf eu_T_20
      refine tx_iast (ws' := cl_X12 g a_T u_T_20 v_T ++ X) S hE hw 30 rfl h_19 (by rw [eu_T_20]; rfl) dX12_back_110 (fun H locs hw => ?_)
      obtain ⟨y_21, ey_21⟩ : ∃ y : Int32, y = w1 + (1 : Int32) := ⟨_, rfl⟩
      replace hf := tx_let_e hf ey_21
      refine lv_iinc (v := y_21) (lv' := [(1, .int y_21), (0, .ref (a_T 0))]) hx hb dX12_back_111 hl (k := 1) rfl (by rw [ey_21]; rfl) (by decide) rfl (fun ls hl => ?_)
      refine lv_goto (tgt := 75) hx hb dX12_back_114 (by decide) ?_
      exact hK75 hf hw (lv_sub hl [1, 0] rfl)
  have L75 : ∀ (n : Nat), ∀ {u_T : S32} {v_T : S64} {w1 : Int32} {H : Heap} {locs : List Loc} {ls : Array Slot}, f_X12_back_L75 fu n u_T v_T w1 = some (r, zu_T, zv_T) → WD g A s.heap (cl_X12 g a_T u_T v_T ++ X) H locs → lv_has ls 2 [(0, .ref (a_T 0)), (1, .int w1)] → W p l e (rmH 1) s m (List.toArray [.ref (a_T 0)]) below meth c H locs 0 0 (MQ below (va_Qi (fun r2 (_ : Unit) => r2 = r) (fun _ t => POST g A (cl_X12 g a_T zu_T zv_T ++ X) t) A) (List.toArray [.ref (a_T 0)]) s 0 0 A) (F0 m 75 ls []) := by
    intro  n
    induction n with
    | zero => intro u_T v_T w1 H locs ls hf; exact absurd hf (by intro q; cases q)
    | succ n ih => exact fun hf hw hl => J75 ih hf hw hl
  have J25 : ∀ {K25 : S32 → S64 → Int32 → Option (Int32 × S32 × S64)} (hK25 : ∀ {u_T : S32} {v_T : S64} {w1 : Int32} {H : Heap} {locs : List Loc} {ls : Array Slot}, K25 u_T v_T w1 = some (r, zu_T, zv_T) → WD g A s.heap (cl_X12 g a_T u_T v_T ++ X) H locs → lv_has ls 2 [(0, .ref (a_T 0)), (1, .int w1)] → W p l e (rmH 1) s m (List.toArray [.ref (a_T 0)]) below meth c H locs 0 0 (MQ below (va_Qi (fun r2 (_ : Unit) => r2 = r) (fun _ t => POST g A (cl_X12 g a_T zu_T zv_T ++ X) t) A) (List.toArray [.ref (a_T 0)]) s 0 0 A) (F0 m 25 ls [])), ∀ {u_T : S32} {v_T : S64} {w1 : Int32} {H : Heap} {locs : List Loc} {ls : Array Slot}, f_X12_back_J25 fu K25 u_T v_T w1 = some (r, zu_T, zv_T) → WD g A s.heap (cl_X12 g a_T u_T v_T ++ X) H locs → lv_has ls 2 [(0, .ref (a_T 0)), (1, .int w1)] → W p l e (rmH 1) s m (List.toArray [.ref (a_T 0)]) below meth c H locs 0 0 (MQ below (va_Qi (fun r2 (_ : Unit) => r2 = r) (fun _ t => POST g A (cl_X12 g a_T zu_T zv_T ++ X) t) A) (List.toArray [.ref (a_T 0)]) s 0 0 A) (F0 m 25 ls []) := by
    intro K25 hK25 u_T v_T w1 H locs ls hf hw hl
    unfold f_X12_back_J25 at hf
    refine lv_iload_n hx hb dX12_back_25 rfl (lv_at hl 1 rfl) ?_
    refine lv_bipush (v := 12) hx hb dX12_back_26 (by decide) ?_
    refine lv_icmp_ge (tgt := 73) hx hb dX12_back_28 (by decide) (fun h_5 => ?_) (fun h_5 => ?_)
    · replace hf := tx_pos hf h_5
      refine lv_iconst (v := 0) hx hb dX12_back_73 (by decide) ?_
      refine lv_istore_n (lv' := [(1, .int (0 : Int32)), (0, .ref (a_T 0))]) hx hb dX12_back_74 rfl hl (by decide) rfl (fun ls hl => ?_)
      exact L75 fu hf hw (lv_sub hl [1, 0] rfl)
    · replace hf := tx_neg hf h_5
      refine lv_aload_n hx hb dX12_back_31 rfl (lv_at hl 0 rfl) ?_
      refine gf_X12_88 S hE hw 0 rfl rfl dX12_back_32 ?_
      refine lv_iload_n hx hb dX12_back_35 rfl (lv_at hl 1 rfl) ?_
      refine lv_aload_n hx hb dX12_back_36 rfl (lv_at hl 0 rfl) ?_
      refine gf_X12_136 S hE hw 0 rfl rfl dX12_back_37 ?_
      refine lv_iload_n hx hb dX12_back_40 rfl (lv_at hl 1 rfl) ?_
      obtain ⟨h_6, hf⟩ := tx_ck_e hf
      refine tx_iald S hE hw 40 rfl h_6 dX12_back_41 ?_
      obtain ⟨h_7, hf⟩ := tx_ck_e hf
      obtain ⟨u_T_8, eu_T_8⟩ : ∃ z : S32, z = up2 u_T 50 w1.toNatClampNeg (u_T 80 w1.toNatClampNeg) := ⟨_, rfl⟩
      replace hf := tx_let_e hf eu_T_8
      refine tx_iast (ws' := cl_X12 g a_T u_T_8 v_T ++ X) S hE hw 25 rfl h_7 (by rw [eu_T_8]; rfl) dX12_back_42 (fun H locs hw => ?_)
      refine lv_aload_n hx hb dX12_back_43 rfl (lv_at hl 0 rfl) ?_
      refine gf_X12_94 S hE hw 0 rfl rfl dX12_back_44 ?_
      refine lv_iload_n hx hb dX12_back_47 rfl (lv_at hl 1 rfl) ?_
      refine lv_aload_n hx hb dX12_back_48 rfl (lv_at hl 0 rfl) ?_
      refine gf_X12_136 S hE hw 0 rfl rfl dX12_back_49 ?_
      refine lv_bipush (v := 12) hx hb dX12_back_52 (by decide) ?_
      refine lv_iload_n hx hb dX12_back_54 rfl (lv_at hl 1 rfl) ?_
      refine lv_iadd hx hb dX12_back_55 ?_
      obtain ⟨h_9, hf⟩ := tx_ck_e hf
      refine tx_iald S hE hw 40 rfl h_9 dX12_back_56 ?_
      refine lv_iconst (v := 1) hx hb dX12_back_57 (by decide) ?_
      refine lv_icmp_ne (tgt := 65) hx hb dX12_back_58 (by decide) (fun h_10 => ?_) (fun h_10 => ?_)
      · replace hf := tx_neg hf h_10
        refine lv_iconst (v := 0) hx hb dX12_back_65 (by decide) ?_
        exact J66 hK25 hf hw (lv_sub hl [0, 1] rfl)
      · replace hf := tx_pos hf h_10
        refine lv_iconst (v := 1) hx hb dX12_back_61 (by decide) ?_
        refine lv_goto (tgt := 66) hx hb dX12_back_62 (by decide) ?_
        exact J66 hK25 hf hw (lv_sub hl [0, 1] rfl)
  have L25 : ∀ (n : Nat), ∀ {u_T : S32} {v_T : S64} {w1 : Int32} {H : Heap} {locs : List Loc} {ls : Array Slot}, f_X12_back_L25 fu n u_T v_T w1 = some (r, zu_T, zv_T) → WD g A s.heap (cl_X12 g a_T u_T v_T ++ X) H locs → lv_has ls 2 [(0, .ref (a_T 0)), (1, .int w1)] → W p l e (rmH 1) s m (List.toArray [.ref (a_T 0)]) below meth c H locs 0 0 (MQ below (va_Qi (fun r2 (_ : Unit) => r2 = r) (fun _ t => POST g A (cl_X12 g a_T zu_T zv_T ++ X) t) A) (List.toArray [.ref (a_T 0)]) s 0 0 A) (F0 m 25 ls []) := by
    intro  n
    induction n with
    | zero => intro u_T v_T w1 H locs ls hf; exact absurd hf (by intro q; cases q)
    | succ n ih => exact fun hf hw hl => J25 ih hf hw hl
  unfold f_X12_back at hf
  refine lv_aload_n hx hb dX12_back_0 rfl (lv_at hl 0 rfl) ?_
  refine lv_iconst (v := 0) hx hb dX12_back_1 (by decide) ?_
  obtain ⟨u_T_1, eu_T_1⟩ : ∃ z : S32, z = up2 u_T 0 2 (0 : Int32) := ⟨_, rfl⟩
  replace hf := tx_let_e hf eu_T_1
  refine pf_X12_145 (ws' := cl_X12 g a_T u_T_1 v_T ++ X) S hE hw rfl rfl 0 rfl (Nat.le_of_ble_eq_true rfl) (by rw [eu_T_1]; rfl) dX12_back_2 (fun H locs hw => ?_)
  refine lv_aload_n hx hb dX12_back_5 rfl (lv_at hl 0 rfl) ?_
  refine gf_X12_353 S hE hw 0 rfl rfl dX12_back_6 ?_
  refine lv_if_ne (tgt := 14) hx hb dX12_back_9 (by decide) (fun h_2 => ?_) (fun h_2 => ?_)
  · replace hf := tx_neg hf h_2
    refine lv_aload_n hx hb dX12_back_14 rfl (lv_at hl 0 rfl) ?_
    refine lv_aload_n hx hb dX12_back_15 rfl (lv_at hl 0 rfl) ?_
    refine gf_X12_133 S hE hw 0 rfl rfl dX12_back_16 ?_
    refine lv_iconst (v := 0) hx hb dX12_back_19 (by decide) ?_
    obtain ⟨u_T_4, h_3, hf⟩ := tx_b1_e hf
    refine tx_cv hw (tx_runV S hE hw (c_X12_take_tX12r79 h_3) lk_X12_519 (q0 := 0) rfl rfl rfl hl.1 (rest := []) rfl (Nat.le_of_ble_eq_true rfl) ⟨by decide, by decide⟩ dX12_back_20 ⟨Nat.zero_le _, Nat.zero_le _⟩) (fun H locs hw => ?_)
    refine lv_iconst (v := 0) hx hb dX12_back_23 (by decide) ?_
    refine lv_istore_n (lv' := [(1, .int (0 : Int32)), (0, .ref (a_T 0))]) hx hb dX12_back_24 rfl hl (by decide) rfl (fun ls hl => ?_)
    exact L25 fu hf hw (lv_sub hl [1, 0] rfl)
  · replace hf := tx_pos hf h_2
    refine lv_iconst (v := -1) hx hb dX12_back_12 (by decide) ?_
    obtain ⟨e0, e1, e2⟩ := tx_in3 hf
    rw [← e0, ← e1, ← e2]
    exact tx_iret S hr hlk hw dX12_back_13
