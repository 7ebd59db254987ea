def f_X7_takeStop (fu : Nat) (u_P : S32) (u_T : S32) (u_K : S32) : Option (Int32 × S32 × S32) := tx_b1 (f_X8_isSign fu u_K (17 : Int32)) fun (r_2 : Int32) => if r_2 = (0 : Int32) then (tx_b2 (f_X7_blame fu u_K u_T (1 : Int32)) fun (r_7 : Int32) (u_T_8 : S32) => tx_bz r_7 <| some (r_7, u_T_8, u_K)) else (tx_b1 (f_X8_advance fu u_P u_K) fun (u_K_5 : S32) => some ((1 : Int32), u_T, u_K_5))
set_option maxHeartbeats 4000000 in
set_option maxRecDepth 100000 in
theorem c_X7_takeStop {l : Launch} {g : GG} {A : Nat → Prop} {X : va_W} {fu : Nat} {a_T a_K a_P : Nat → Nat} {p_T_1 p_T_4 : Nat} {u_T : S32} {u_K : S32} {u_P : S32} {r : Int32} {zu_T : S32} {zu_K : S32} (hf : f_X7_takeStop fu u_P u_T u_K = some (r, zu_T, zu_K)) : MI l yX7_takeStop cX7_takeStop 1 (some .boolean) 3 g A (cl_X7 g a_T (a_K 0) p_T_1 p_T_4 u_T ++ (cl_X8 g a_K (a_P 0) u_K ++ (cl_X6 g a_P u_P ++ X))) [.ref (a_T 0)] r (cl_X7 g a_T (a_K 0) p_T_1 p_T_4 zu_T ++ (cl_X8 g a_K (a_P 0) zu_K ++ (cl_X6 g a_P u_P ++ X))) := by
  refine tx_start (av := [.ref (a_T 0)]) (by decide) (Nat.le_of_ble_eq_true rfl) ?_
  intro p e s m below meth c ls S hr hlk hE hw hl
  have S : CallFix p m c cX7_takeStop 1 s (List.toArray [.ref (a_T 0)]) (Cond.code yX7_takeStop cX7_takeStop 1 (some .boolean) :: allW) RX7 := S
  have hx := S.1
  have hb := S.2.1
  have hown := S.2.2.2.1
  have hts : ∀ w ∈ allW, w.before (List.toArray [.ref (a_T 0)]) s = true := fun w h => S.2.2.2.2 w (List.mem_cons_of_mem _ h)
  have hl : lv_has ls 1 [(0, .ref (a_T 0))] := hl
  unfold f_X7_takeStop at hf
  refine lv_aload_n hx hb dX7_takeStop_0 rfl (lv_at hl 0 rfl) ?_
  refine gf_X7_23 S hE hw 0 rfl rfl dX7_takeStop_1 ?_
  refine lv_bipush (v := 17) hx hb dX7_takeStop_4 (by decide) ?_
  have hw := hw.u1
  obtain ⟨r_2, h_1, hf⟩ := tx_b1_e hf
  refine tx_ci hw (tx_runN S hE hw (c_X8_isSign h_1) lk_X7_72 (q0 := 0) rfl rfl rfl hl.1 (rest := []) rfl (Nat.le_of_ble_eq_true rfl) ⟨by decide, by decide⟩ dX7_takeStop_6 ⟨Nat.zero_le _, Nat.zero_le _⟩) (fun H locs hw => ?_)
  refine lv_if_ne (tgt := 18) hx hb dX7_takeStop_9 (by decide) (fun h_3 => ?_) (fun h_3 => ?_)
  · replace hf := tx_neg hf h_3
    refine lv_aload_n hx hb dX7_takeStop_18 rfl (lv_at hl 0 rfl) ?_
    refine gf_X7_23 S hE hw 1 rfl rfl dX7_takeStop_19 ?_
    have hw := hw.u2
    have hw := hw.u1
    obtain ⟨u_K_5, h_4, hf⟩ := tx_b1_e hf
    refine tx_cv hw (tx_runN S hE hw (c_X8_advance h_4) lk_X7_79 (q0 := 0) rfl rfl rfl hl.1 (rest := []) rfl (Nat.le_of_ble_eq_true rfl) ⟨by decide, by decide⟩ dX7_takeStop_22 ⟨Nat.zero_le _, Nat.zero_le _⟩) (fun H locs hw => ?_)
    refine lv_iconst (v := 1) hx hb dX7_takeStop_25 (by decide) ?_
    have hw := hw.u1
    have hw := hw.u1
    have hw := hw.u2
    obtain ⟨e0, e1, e2⟩ := tx_in3 hf
    rw [← e0, ← e1, ← e2]
    exact tx_zret S hr hlk (by decide) hw dX7_takeStop_26
  · replace hf := tx_pos hf h_3
    refine lv_aload_n hx hb dX7_takeStop_12 rfl (lv_at hl 0 rfl) ?_
    refine lv_iconst (v := 1) hx hb dX7_takeStop_13 (by decide) ?_
    have hw := hw.u1
    obtain ⟨r_7, u_T_8, h_6, hf⟩ := tx_b2_e hf
    refine tx_ci hw (tx_runV S hE hw (c_X7_blame h_6) lk_X7_76 (q0 := 0) rfl rfl rfl hl.1 (rest := []) rfl (Nat.le_of_ble_eq_true rfl) ⟨by decide, by decide⟩ dX7_takeStop_14 ⟨Nat.zero_le _, Nat.zero_le _⟩) (fun H locs hw => ?_)
    obtain ⟨h_9, hf⟩ := tx_bz_e hf
    obtain ⟨e0, e1, e2⟩ := tx_in3 hf
    rw [← e0, ← e1, ← e2]
    exact tx_zret S hr hlk h_9 hw dX7_takeStop_17
def f_X7_tell_J37 (fu : Nat) (v_L : S64) (u_P : S32) (p_R_8 : Nat) (pa_L : Nat) (K37 : S32 → S32 → S32 → S32 → S32 → Nat → Int32 → Option (Int32 × S32 × S32 × S32 × S32 × S32 × Nat)) (u_T : S32) (u_Ba : S32) (u_L : S32) (u_K : S32) (u_R : S32) (q_R_8 : Nat) (w3 : Int32) : Option (Int32 × S32 × S32 × S32 × S32 × S32 × Nat) := if (700 : Int32) < w3 then (some ((1 : Int32), u_T, u_Ba, u_L, u_K, u_R, q_R_8)) else (if (u_K 0 4) = (0 : Int32) then (some ((1 : Int32), u_T, u_Ba, u_L, u_K, u_R, q_R_8)) else (tx_b7 (f_X7_takeLine fu u_P v_L q_R_8 pa_L u_T u_K u_Ba u_L u_R) fun (r_12 : Int32) (u_T_13 : S32) (u_K_14 : S32) (u_Ba_15 : S32) (u_L_16 : S32) (u_R_17 : S32) (q_18 : Nat) => if r_12 = (0 : Int32) then (some ((0 : Int32), u_T_13, u_Ba_15, u_L_16, u_K_14, u_R_17, q_18)) else (tx_b3 (f_X7_takeStop fu u_P u_T_13 u_K_14) fun (r_21 : Int32) (u_T_22 : S32) (u_K_23 : S32) => if r_21 = (0 : Int32) then (some ((0 : Int32), u_T_22, u_Ba_15, u_L_16, u_K_23, u_R_17, q_18)) else (tx_let (up2 u_Ba_15 0 0 ((u_Ba_15 0 0) + (1 : Int32))) fun (u_Ba_25 : S32) => tx_let (w3 + (1 : Int32)) fun (y_26 : Int32) => K37 u_T_22 u_Ba_25 u_L_16 u_K_23 u_R_17 q_18 y_26))))
def f_X7_tell_L37 (fu : Nat) (v_L : S64) (u_P : S32) (p_R_8 : Nat) (pa_L : Nat) : Nat → S32 → S32 → S32 → S32 → S32 → Nat → Int32 → Option (Int32 × S32 × S32 × S32 × S32 × S32 × Nat)
  | 0 => fun _ _ _ _ _ _ _ => none
  | n + 1 => f_X7_tell_J37 fu v_L u_P p_R_8 pa_L (f_X7_tell_L37 fu v_L u_P p_R_8 pa_L n)
def f_X7_tell (fu : Nat) (v_L : S64) (u_P : S32) (p_R_8 : Nat) (pa_L : Nat) (u_T : S32) (u_Ba : S32) (u_L : S32) (u_K : S32) (u_R : S32) (x1 : Int32) : Option (Int32 × S32 × S32 × S32 × S32 × S32 × Nat) := tx_b2 (f_X0_clear fu v_L u_Ba u_L) fun (u_Ba_2 : S32) (u_L_3 : S32) => tx_let (up2 u_T 0 2 (0 : Int32)) fun (u_T_4 : S32) => tx_let (up2 u_T_4 0 3 (-1 : Int32)) fun (u_T_5 : S32) => tx_let (up2 u_T_5 0 6 (0 : Int32)) fun (u_T_6 : S32) => tx_b1 (f_X8_start fu u_P u_K x1) fun (u_K_8 : S32) => f_X7_tell_L37 fu v_L u_P p_R_8 pa_L fu u_T_6 u_Ba_2 u_L_3 u_K_8 u_R p_R_8 (0 : Int32)
set_option maxHeartbeats 4000000 in
set_option maxRecDepth 100000 in
theorem c_X7_tell {l : Launch} {g : GG} {A : Nat → Prop} {X : va_W} {fu : Nat} {a_T a_Ba a_L a_K a_P a_R : Nat → Nat} {p_T_4 p_R_8 : Nat} {u_T : S32} {u_Ba : S32} {u_L : S32} {v_L : S64} {u_K : S32} {u_P : S32} {u_R : S32} {x1 : Int32} {r : Int32} {zu_T : S32} {zu_Ba : S32} {zu_L : S32} {zu_K : S32} {zu_R : S32} {zq_R_8 : Nat} (hf : f_X7_tell fu v_L u_P p_R_8 (a_L 0) u_T u_Ba u_L u_K u_R x1 = some (r, zu_T, zu_Ba, zu_L, zu_K, zu_R, zq_R_8)) : MI l yX7_tell cX7_tell 4 (some .boolean) 6 g A (cl_X7 g a_T (a_K 0) (a_R 0) p_T_4 u_T ++ (cl_X0 g a_Ba (a_L 0) u_Ba ++ (cl_X5 g a_L u_L v_L ++ (cl_X8 g a_K (a_P 0) u_K ++ (cl_X6 g a_P u_P ++ (cl_X4 g a_R (a_K 0) p_R_8 u_R ++ X)))))) [.ref (a_T 0), .int x1, .ref (a_Ba 0)] r (cl_X7 g a_T (a_K 0) (a_R 0) (a_Ba 0) zu_T ++ (cl_X0 g a_Ba (a_L 0) zu_Ba ++ (cl_X5 g a_L zu_L v_L ++ (cl_X8 g a_K (a_P 0) zu_K ++ (cl_X6 g a_P u_P ++ (cl_X4 g a_R (a_K 0) zq_R_8 zu_R ++ X)))))) := by
  refine tx_start (av := [.ref (a_T 0), .int x1, .ref (a_Ba 0)]) (by decide) (Nat.le_of_ble_eq_true rfl) ?_
  intro p e s m below meth c ls S hr hlk hE hw hl
  have S : CallFix p m c cX7_tell 4 s (List.toArray [.ref (a_T 0), .int x1, .ref (a_Ba 0)]) (Cond.code yX7_tell cX7_tell 4 (some .boolean) :: allW) RX7 := S
  have hx := S.1
  have hb := S.2.1
  have hown := S.2.2.2.1
  have hts : ∀ w ∈ allW, w.before (List.toArray [.ref (a_T 0), .int x1, .ref (a_Ba 0)]) s = true := fun w h => S.2.2.2.2 w (List.mem_cons_of_mem _ h)
  have hl : lv_has ls 4 [(0, .ref (a_T 0)), (1, .int x1), (2, .ref (a_Ba 0))] := hl
  have J37 : ∀ {K37 : S32 → S32 → S32 → S32 → S32 → Nat → Int32 → Option (Int32 × S32 × S32 × S32 × S32 × S32 × Nat)} (hK37 : ∀ {u_T : S32} {u_Ba : S32} {u_L : S32} {u_K : S32} {u_R : S32} {q_R_8 : Nat} {w3 : Int32} {H : Heap} {locs : List Loc} {ls : Array Slot}, K37 u_T u_Ba u_L u_K u_R q_R_8 w3 = some (r, zu_T, zu_Ba, zu_L, zu_K, zu_R, zq_R_8) → WD g A s.heap (cl_X7 g a_T (a_K 0) (a_R 0) (a_Ba 0) u_T ++ (cl_X0 g a_Ba (a_L 0) u_Ba ++ (cl_X5 g a_L u_L v_L ++ (cl_X8 g a_K (a_P 0) u_K ++ (cl_X6 g a_P u_P ++ (cl_X4 g a_R (a_K 0) q_R_8 u_R ++ X)))))) H locs → lv_has ls 4 [(0, .ref (a_T 0)), (3, .int w3)] → W p l e (rmH 6) s m (List.toArray [.ref (a_T 0), .int x1, .ref (a_Ba 0)]) below meth c H locs 0 0 (MQ below (va_Qi (fun r2 (_ : Unit) => r2 = r) (fun _ t => POST g A (cl_X7 g a_T (a_K 0) (a_R 0) (a_Ba 0) zu_T ++ (cl_X0 g a_Ba (a_L 0) zu_Ba ++ (cl_X5 g a_L zu_L v_L ++ (cl_X8 g a_K (a_P 0) zu_K ++ (cl_X6 g a_P u_P ++ (cl_X4 g a_R (a_K 0) zq_R_8 zu_R ++ X)))))) t) A) (List.toArray [.ref (a_T 0), .int x1, .ref (a_Ba 0)]) s 0 0 A) (F0 m 37 ls [])), ∀ {u_T : S32} {u_Ba : S32} {u_L : S32} {u_K : S32} {u_R : S32} {q_R_8 : Nat} {w3 : Int32} {H : Heap} {locs : List Loc} {ls : Array Slot}, f_X7_tell_J37 fu v_L u_P p_R_8 (a_L 0) K37 u_T u_Ba u_L u_K u_R q_R_8 w3 = some (r, zu_T, zu_Ba, zu_L, zu_K, zu_R, zq_R_8) → WD g A s.heap (cl_X7 g a_T (a_K 0) (a_R 0) (a_Ba 0) u_T ++ (cl_X0 g a_Ba (a_L 0) u_Ba ++ (cl_X5 g a_L u_L v_L ++ (cl_X8 g a_K (a_P 0) u_K ++ (cl_X6 g a_P u_P ++ (cl_X4 g a_R (a_K 0) q_R_8 u_R ++ X)))))) H locs → lv_has ls 4 [(0, .ref (a_T 0)), (3, .int w3)] → W p l e (rmH 6) s m (List.toArray [.ref (a_T 0), .int x1, .ref (a_Ba 0)]) below meth c H locs 0 0 (MQ below (va_Qi (fun r2 (_ : Unit) => r2 = r) (fun _ t => POST g A (cl_X7 g a_T (a_K 0) (a_R 0) (a_Ba 0) zu_T ++ (cl_X0 g a_Ba (a_L 0) zu_Ba ++ (cl_X5 g a_L zu_L v_L ++ (cl_X8 g a_K (a_P 0) zu_K ++ (cl_X6 g a_P u_P ++ (cl_X4 g a_R (a_K 0) zq_R_8 zu_R ++ X)))))) t) A) (List.toArray [.ref (a_T 0), .int x1, .ref (a_Ba 0)]) s 0 0 A) (F0 m 37 ls []) := by
    intro K37 hK37 u_T u_Ba u_L u_K u_R q_R_8 w3 H locs ls hf hw hl
    unfold f_X7_tell_J37 at hf
    refine lv_iload_n hx hb dX7_tell_37 rfl (lv_at hl 1 rfl) ?_
    refine lv_sipush (v := 700) hx hb dX7_tell_38 (by decide) ?_
    refine lv_icmp_gt (tgt := 89) hx hb dX7_tell_41 (by decide) (fun h_9 => ?_) (fun h_9 => ?_)
    · replace hf := tx_pos hf h_9
      refine lv_iconst (v := 1) hx hb dX7_tell_89 (by decide) ?_
      obtain ⟨e0, e1, e2, e3, e4, e5, e6⟩ := tx_in7 hf
      rw [← e0, ← e1, ← e2, ← e3, ← e4, ← e5, ← e6]
      exact tx_zret S hr hlk (by decide) hw dX7_tell_90
    · replace hf := tx_neg hf h_9
      refine lv_aload_n hx hb dX7_tell_44 rfl (lv_at hl 0 rfl) ?_
      refine gf_X7_23 S hE hw 0 rfl rfl dX7_tell_45 ?_
      refine gf_X7_58 S hE hw 18 rfl rfl dX7_tell_48 ?_
      refine lv_if_eq (tgt := 89) hx hb dX7_tell_51 (by decide) (fun h_10 => ?_) (fun h_10 => ?_)
      · replace hf := tx_pos hf h_10
        refine lv_iconst (v := 1) hx hb dX7_tell_89 (by decide) ?_
        obtain ⟨e0, e1, e2, e3, e4, e5, e6⟩ := tx_in7 hf
        rw [← e0, ← e1, ← e2, ← e3, ← e4, ← e5, ← e6]
        exact tx_zret S hr hlk (by decide) hw dX7_tell_90
      · replace hf := tx_neg hf h_10
        refine lv_aload_n hx hb dX7_tell_54 rfl (lv_at hl 0 rfl) ?_
        have hw := hw.u5
        have hw := hw.u3
        have hw := hw.u5
        have hw := hw.u4
        have hw := hw.u5
        have hw := hw.u5
        obtain ⟨r_12, u_T_13, u_K_14, u_Ba_15, u_L_16, u_R_17, q_18, h_11, hf⟩ := tx_b7_e hf
        refine tx_ci hw (tx_runV S hE hw (c_X7_takeLine h_11) lk_X7_61 (q0 := 0) rfl rfl rfl hl.1 (rest := []) rfl (Nat.le_of_ble_eq_true rfl) ⟨by decide, by decide⟩ dX7_tell_55 ⟨Nat.zero_le _, Nat.zero_le _⟩) (fun H locs hw => ?_)
        refine lv_if_eq (tgt := 68) hx hb dX7_tell_58 (by decide) (fun h_19 => ?_) (fun h_19 => ?_)
        · replace hf := tx_pos hf h_19
          refine lv_iconst (v := 0) hx hb dX7_tell_68 (by decide) ?_
          have hw := hw.u5
          have hw := hw.u4
          have hw := hw.u3
          have hw := hw.u5
          have hw := hw.u5
          have hw := hw.u5
          obtain ⟨e0, e1, e2, e3, e4, e5, e6⟩ := tx_in7 hf
          rw [← e0, ← e1, ← e2, ← e3, ← e4, ← e5, ← e6]
          exact tx_zret S hr hlk (by decide) hw dX7_tell_69
        · replace hf := tx_neg hf h_19
          refine lv_aload_n hx hb dX7_tell_61 rfl (lv_at hl 0 rfl) ?_
          have hw := hw.u3
          have hw := hw.u2
          have hw := hw.u2
          obtain ⟨r_21, u_T_22, u_K_23, h_20, hf⟩ := tx_b3_e hf
          refine tx_ci hw (tx_runV S hE hw (c_X7_takeStop h_20) lk_X7_65 (q0 := 0) rfl rfl rfl hl.1 (rest := []) rfl (Nat.le_of_ble_eq_true rfl) ⟨by decide, by decide⟩ dX7_tell_62 ⟨Nat.zero_le _, Nat.zero_le _⟩) (fun H locs hw => ?_)
          refine lv_if_ne (tgt := 70) hx hb dX7_tell_65 (by decide) (fun h_24 => ?_) (fun h_24 => ?_)
          · replace hf := tx_neg hf h_24
            refine lv_aload_n hx hb dX7_tell_70 rfl (lv_at hl 0 rfl) ?_
            refine gf_X7_42 S hE hw 0 rfl rfl dX7_tell_71 ?_
            refine lv_dup hx hb dX7_tell_74 rfl ?_
            refine gf_X7_68 S hE hw 4 rfl rfl dX7_tell_75 ?_
            refine lv_iconst (v := 1) hx hb dX7_tell_78 (by decide) ?_
            refine lv_iadd hx hb dX7_tell_79 ?_
            obtain ⟨u_Ba_25, eu_Ba_25⟩ : ∃ z : S32, z = up2 u_Ba_15 0 0 ((u_Ba_15 0 0) + (1 : Int32)) := ⟨_, rfl⟩
            replace hf := tx_let_e hf eu_Ba_25
            refine pf_X7_68 (ws' := cl_X7 g a_T (a_K 0) (a_R 0) (a_Ba 0) u_T_22 ++ (cl_X8 g a_K (a_P 0) u_K_23 ++ (cl_X6 g a_P u_P ++ (cl_X0 g a_Ba (a_L 0) u_Ba_25 ++ (cl_X5 g a_L u_L_16 v_L ++ (cl_X4 g a_R (a_K 0) q_18 u_R_17 ++ X)))))) S hE hw rfl rfl 4 rfl (Nat.le_of_ble_eq_true rfl) (by rw [eu_Ba_25]; rfl) dX7_tell_80 (fun H locs hw => ?_)
            obtain ⟨y_26, ey_26⟩ : ∃ y : Int32, y = w3 + (1 : Int32) := ⟨_, rfl⟩
            replace hf := tx_let_e hf ey_26
            refine lv_iinc (v := y_26) (lv' := [(3, .int y_26), (0, .ref (a_T 0))]) hx hb dX7_tell_83 hl (k := 1) rfl (by rw [ey_26]; rfl) (by decide) rfl (fun ls hl => ?_)
            refine lv_goto (tgt := 37) hx hb dX7_tell_86 (by decide) ?_
            have hw := hw.u5
            have hw := hw.u3
            have hw := hw.u3
            have hw := hw.u5
            have hw := hw.u5
            have hw := hw.u5
            exact hK37 hf hw (lv_sub hl [1, 0] rfl)
          · replace hf := tx_pos hf h_24
            refine lv_iconst (v := 0) hx hb dX7_tell_68 (by decide) ?_
            have hw := hw.u5
            have hw := hw.u3
            have hw := hw.u3
            have hw := hw.u5
            have hw := hw.u5
            have hw := hw.u5
            obtain ⟨e0, e1, e2, e3, e4, e5, e6⟩ := tx_in7 hf
            rw [← e0, ← e1, ← e2, ← e3, ← e4, ← e5, ← e6]
            exact tx_zret S hr hlk (by decide) hw dX7_tell_69
  have L37 : ∀ (n : Nat), ∀ {u_T : S32} {u_Ba : S32} {u_L : S32} {u_K : S32} {u_R : S32} {q_R_8 : Nat} {w3 : Int32} {H : Heap} {locs : List Loc} {ls : Array Slot}, f_X7_tell_L37 fu v_L u_P p_R_8 (a_L 0) n u_T u_Ba u_L u_K u_R q_R_8 w3 = some (r, zu_T, zu_Ba, zu_L, zu_K, zu_R, zq_R_8) → WD g A s.heap (cl_X7 g a_T (a_K 0) (a_R 0) (a_Ba 0) u_T ++ (cl_X0 g a_Ba (a_L 0) u_Ba ++ (cl_X5 g a_L u_L v_L ++ (cl_X8 g a_K (a_P 0) u_K ++ (cl_X6 g a_P u_P ++ (cl_X4 g a_R (a_K 0) q_R_8 u_R ++ X)))))) H locs → lv_has ls 4 [(0, .ref (a_T 0)), (3, .int w3)] → W p l e (rmH 6) s m (List.toArray [.ref (a_T 0), .int x1, .ref (a_Ba 0)]) below meth c H locs 0 0 (MQ below (va_Qi (fun r2 (_ : Unit) => r2 = r) (fun _ t => POST g A (cl_X7 g a_T (a_K 0) (a_R 0) (a_Ba 0) zu_T ++ (cl_X0 g a_Ba (a_L 0) zu_Ba ++ (cl_X5 g a_L zu_L v_L ++ (cl_X8 g a_K (a_P 0) zu_K ++ (cl_X6 g a_P u_P ++ (cl_X4 g a_R (a_K 0) zq_R_8 zu_R ++ X)))))) t) A) (List.toArray [.ref (a_T 0), .int x1, .ref (a_Ba 0)]) s 0 0 A) (F0 m 37 ls []) := by
    intro  n
    induction n with
    | zero => intro u_T u_Ba u_L u_K u_R q_R_8 w3 H locs ls hf; exact absurd hf (by intro q; cases q)
    | succ n ih => exact fun hf hw hl => J37 ih hf hw hl
  unfold f_X7_tell at hf
  refine lv_aload_n hx hb dX7_tell_0 rfl (lv_at hl 0 rfl) ?_
  refine lv_aload_n hx hb dX7_tell_1 rfl (lv_at hl 2 rfl) ?_
  refine pf_X7_42 (ws' := cl_X7 g a_T (a_K 0) (a_R 0) (a_Ba 0) u_T ++ (cl_X0 g a_Ba (a_L 0) u_Ba ++ (cl_X5 g a_L u_L v_L ++ (cl_X8 g a_K (a_P 0) u_K ++ (cl_X6 g a_P u_P ++ (cl_X4 g a_R (a_K 0) p_R_8 u_R ++ X)))))) S hE hw rfl rfl 0 rfl (Nat.le_of_ble_eq_true rfl) rfl dX7_tell_2 (fun H locs hw => ?_)
  refine lv_aload_n hx hb dX7_tell_5 rfl (lv_at hl 0 rfl) ?_
  refine gf_X7_42 S hE hw 0 rfl rfl dX7_tell_6 ?_
  have hw := hw.u2
  have hw := hw.u2
  obtain ⟨u_Ba_2, u_L_3, h_1, hf⟩ := tx_b2_e hf
  refine tx_cv hw (tx_runN S hE hw (c_X0_clear h_1) lk_X7_46 (q0 := 0) rfl rfl rfl hl.1 (rest := []) rfl (Nat.le_of_ble_eq_true rfl) ⟨by decide, by decide⟩ dX7_tell_9 ⟨Nat.zero_le _, Nat.zero_le _⟩) (fun H locs hw => ?_)
  refine lv_aload_n hx hb dX7_tell_12 rfl (lv_at hl 0 rfl) ?_
  refine lv_iconst (v := 0) hx hb dX7_tell_13 (by decide) ?_
  obtain ⟨u_T_4, eu_T_4⟩ : ∃ z : S32, z = up2 u_T 0 2 (0 : Int32) := ⟨_, rfl⟩
  replace hf := tx_let_e hf eu_T_4
  refine pf_X7_9 (ws' := cl_X0 g a_Ba (a_L 0) u_Ba_2 ++ (cl_X5 g a_L u_L_3 v_L ++ (cl_X7 g a_T (a_K 0) (a_R 0) (a_Ba 0) u_T_4 ++ (cl_X8 g a_K (a_P 0) u_K ++ (cl_X6 g a_P u_P ++ (cl_X4 g a_R (a_K 0) p_R_8 u_R ++ X)))))) S hE hw rfl rfl 17 rfl (Nat.le_of_ble_eq_true rfl) (by rw [eu_T_4]; rfl) dX7_tell_14 (fun H locs hw => ?_)
  refine lv_aload_n hx hb dX7_tell_17 rfl (lv_at hl 0 rfl) ?_
  refine lv_iconst (v := -1) hx hb dX7_tell_18 (by decide) ?_
  obtain ⟨u_T_5, eu_T_5⟩ : ∃ z : S32, z = up2 u_T_4 0 3 (-1 : Int32) := ⟨_, rfl⟩
  replace hf := tx_let_e hf eu_T_5
  refine pf_X7_15 (ws' := cl_X0 g a_Ba (a_L 0) u_Ba_2 ++ (cl_X5 g a_L u_L_3 v_L ++ (cl_X7 g a_T (a_K 0) (a_R 0) (a_Ba 0) u_T_5 ++ (cl_X8 g a_K (a_P 0) u_K ++ (cl_X6 g a_P u_P ++ (cl_X4 g a_R (a_K 0) p_R_8 u_R ++ X)))))) S hE hw rfl rfl 17 rfl (Nat.le_of_ble_eq_true rfl) (by rw [eu_T_5]; rfl) dX7_tell_19 (fun H locs hw => ?_)
  refine lv_aload_n hx hb dX7_tell_22 rfl (lv_at hl 0 rfl) ?_
  refine lv_iconst (v := 0) hx hb dX7_tell_23 (by decide) ?_
  obtain ⟨u_T_6, eu_T_6⟩ : ∃ z : S32, z = up2 u_T_5 0 6 (0 : Int32) := ⟨_, rfl⟩
  replace hf := tx_let_e hf eu_T_6
  refine pf_X7_49 (ws' := cl_X0 g a_Ba (a_L 0) u_Ba_2 ++ (cl_X5 g a_L u_L_3 v_L ++ (cl_X7 g a_T (a_K 0) (a_R 0) (a_Ba 0) u_T_6 ++ (cl_X8 g a_K (a_P 0) u_K ++ (cl_X6 g a_P u_P ++ (cl_X4 g a_R (a_K 0) p_R_8 u_R ++ X)))))) S hE hw rfl rfl 17 rfl (Nat.le_of_ble_eq_true rfl) (by rw [eu_T_6]; rfl) dX7_tell_24 (fun H locs hw => ?_)
  refine lv_aload_n hx hb dX7_tell_27 rfl (lv_at hl 0 rfl) ?_
  refine gf_X7_23 S hE hw 17 rfl rfl dX7_tell_28 ?_
  refine lv_iload_n hx hb dX7_tell_31 rfl (lv_at hl 1 rfl) ?_
  have hw := hw.u4
  have hw := hw.u4
  obtain ⟨u_K_8, h_7, hf⟩ := tx_b1_e hf
  refine tx_cv hw (tx_runN S hE hw (c_X8_start h_7) lk_X7_52 (q0 := 0) rfl rfl rfl hl.1 (rest := []) rfl (Nat.le_of_ble_eq_true rfl) ⟨by decide, by decide⟩ dX7_tell_32 ⟨Nat.zero_le _, Nat.zero_le _⟩) (fun H locs hw => ?_)
  refine lv_iconst (v := 0) hx hb dX7_tell_35 (by decide) ?_
  refine lv_istore_n (lv' := [(3, .int (0 : Int32)), (0, .ref (a_T 0)), (1, .int x1), (2, .ref (a_Ba 0))]) hx hb dX7_tell_36 rfl hl (by decide) rfl (fun ls hl => ?_)
  have hw := hw.u5
  have hw := hw.u2
  have hw := hw.u2
  have hw := hw.u4
  have hw := hw.u4
  have hw := hw.u5
  exact L37 fu hf hw (lv_sub hl [1, 0] rfl)
def f_J7_fill_53178_oX10r7_J5 (fu : Nat) (K5 : S32 → Int32 → Int32 → Int32 → Option (S32)) (u_W : S32) (w1 : Int32) (w2 : Int32) (w3 : Int32) : Option (S32) := if w3 ≤ w2 then (some u_W) else (tx_ck w2 6 <| tx_let (up2 u_W 7 w2.toNatClampNeg w1) fun (u_W_3 : S32) => tx_let (w2 + (1 : Int32)) fun (y_4 : Int32) => K5 u_W_3 w1 y_4 w3)
def f_J7_fill_53178_oX10r7_L5 (fu : Nat) : Nat → S32 → Int32 → Int32 → Int32 → Option (S32)
  | 0 => fun _ _ _ _ => none
  | n + 1 => f_J7_fill_53178_oX10r7_J5 fu (f_J7_fill_53178_oX10r7_L5 fu n)
def f_J7_fill_53178_oX10r7 (fu : Nat) (u_W : S32) (x1 : Int32) : Option (S32) := f_J7_fill_53178_oX10r7_L5 fu fu u_W x1 (0 : Int32) (6 : Int32)
set_option maxHeartbeats 4000000 in
set_option maxRecDepth 100000 in
theorem c_J7_fill_53178_oX10r7 {l : Launch} {g : GG} {A : Nat → Prop} {X : va_W} {fu : Nat} {a_W : Nat → Nat} {p_W_0 p_W_16 : Nat} {u_W : S32} {x1 : Int32} {zu_W : S32} (hf : f_J7_fill_53178_oX10r7 fu  u_W x1 = some zu_W) : MV l yJ7_fill_53178 cJ7_fill_53178 4 none 0 g A (cl_X10 g a_W p_W_0 p_W_16 u_W ++ X) [.ref (a_W 7), .int x1] (cl_X10 g a_W p_W_0 p_W_16 zu_W ++ X) := by
  refine tx_start (av := [.ref (a_W 7), .int x1]) (by decide) (Nat.le_of_ble_eq_true rfl) ?_
  intro p e s m below meth c ls S hr hlk hE hw hl
  have S : CallFix p m c cJ7_fill_53178 4 s (List.toArray [.ref (a_W 7), .int x1]) (Cond.code yJ7_fill_53178 cJ7_fill_53178 4 none :: allW) RJ7 := S
  have hx := S.1
  have hb := S.2.1
  have hown := S.2.2.2.1
  have hts : ∀ w ∈ allW, w.before (List.toArray [.ref (a_W 7), .int x1]) s = true := fun w h => S.2.2.2.2 w (List.mem_cons_of_mem _ h)
  have hl : lv_has ls 4 [(0, .ref (a_W 7)), (1, .int x1)] := hl
  have J5 : ∀ {K5 : S32 → Int32 → Int32 → Int32 → Option (S32)} (hK5 : ∀ {u_W : S32} {w1 : Int32} {w2 : Int32} {w3 : Int32} {H : Heap} {locs : List Loc} {ls : Array Slot}, K5 u_W w1 w2 w3 = some zu_W → WD g A s.heap (cl_X10 g a_W p_W_0 p_W_16 u_W ++ X) H locs → lv_has ls 4 [(0, .ref (a_W 7)), (1, .int w1), (2, .int w2), (3, .int w3)] → W p l e (rmH 0) s m (List.toArray [.ref (a_W 7), .int x1]) below meth c H locs 0 0 (MQ below (va_Qv (fun (_ : Unit) => True) (fun _ t => POST g A (cl_X10 g a_W p_W_0 p_W_16 zu_W ++ X) t) A) (List.toArray [.ref (a_W 7), .int x1]) s 0 0 A) (F0 m 5 ls [])), ∀ {u_W : S32} {w1 : Int32} {w2 : Int32} {w3 : Int32} {H : Heap} {locs : List Loc} {ls : Array Slot}, f_J7_fill_53178_oX10r7_J5 fu K5 u_W w1 w2 w3 = some zu_W → WD g A s.heap (cl_X10 g a_W p_W_0 p_W_16 u_W ++ X) H locs → lv_has ls 4 [(0, .ref (a_W 7)), (1, .int w1), (2, .int w2), (3, .int w3)] → W p l e (rmH 0) s m (List.toArray [.ref (a_W 7), .int x1]) below meth c H locs 0 0 (MQ below (va_Qv (fun (_ : Unit) => True) (fun _ t => POST g A (cl_X10 g a_W p_W_0 p_W_16 zu_W ++ X) t) A) (List.toArray [.ref (a_W 7), .int x1]) s 0 0 A) (F0 m 5 ls []) := by
    intro K5 hK5 u_W w1 w2 w3 H locs ls hf hw hl
    unfold f_J7_fill_53178_oX10r7_J5 at hf
    refine lv_iload_n hx hb dJ7_fill_53178_5 rfl (lv_at hl 2 rfl) ?_
    refine lv_iload_n hx hb dJ7_fill_53178_6 rfl (lv_at hl 3 rfl) ?_
    refine lv_icmp_ge (tgt := 20) hx hb dJ7_fill_53178_7 (by decide) (fun h_1 => ?_) (fun h_1 => ?_)
    · replace hf := tx_pos hf h_1
      obtain e0 := tx_in1 hf
      rw [← e0]
      exact tx_vret S hr hlk hw dJ7_fill_53178_20
    · replace hf := tx_neg hf h_1
      refine lv_aload_n hx hb dJ7_fill_53178_10 rfl (lv_at hl 0 rfl) ?_
      refine lv_iload_n hx hb dJ7_fill_53178_11 rfl (lv_at hl 2 rfl) ?_
      refine lv_iload_n hx hb dJ7_fill_53178_12 rfl (lv_at hl 1 rfl) ?_
      obtain ⟨h_2, hf⟩ := tx_ck_e hf
      obtain ⟨u_W_3, eu_W_3⟩ : ∃ z : S32, z = up2 u_W 7 w2.toNatClampNeg w1 := ⟨_, rfl⟩
      replace hf := tx_let_e hf eu_W_3
      refine tx_iast (ws' := cl_X10 g a_W p_W_0 p_W_16 u_W_3 ++ X) S hE hw 3 rfl h_2 (by rw [eu_W_3]; rfl) dJ7_fill_53178_13 (fun H locs hw => ?_)
      obtain ⟨y_4, ey_4⟩ : ∃ y : Int32, y = w2 + (1 : Int32) := ⟨_, rfl⟩
      replace hf := tx_let_e hf ey_4
      refine lv_iinc (v := y_4) (lv' := [(2, .int y_4), (0, .ref (a_W 7)), (1, .int w1), (3, .int w3)]) hx hb dJ7_fill_53178_14 hl (k := 2) rfl (by rw [ey_4]; rfl) (by decide) rfl (fun ls hl => ?_)
      refine lv_goto (tgt := 5) hx hb dJ7_fill_53178_17 (by decide) ?_
      exact hK5 hf hw (lv_sub hl [1, 2, 0, 3] rfl)
  have L5 : ∀ (n : Nat), ∀ {u_W : S32} {w1 : Int32} {w2 : Int32} {w3 : Int32} {H : Heap} {locs : List Loc} {ls : Array Slot}, f_J7_fill_53178_oX10r7_L5 fu n u_W w1 w2 w3 = some zu_W → WD g A s.heap (cl_X10 g a_W p_W_0 p_W_16 u_W ++ X) H locs → lv_has ls 4 [(0, .ref (a_W 7)), (1, .int w1), (2, .int w2), (3, .int w3)] → W p l e (rmH 0) s m (List.toArray [.ref (a_W 7), .int x1]) below meth c H locs 0 0 (MQ below (va_Qv (fun (_ : Unit) => True) (fun _ t => POST g A (cl_X10 g a_W p_W_0 p_W_16 zu_W ++ X) t) A) (List.toArray [.ref (a_W 7), .int x1]) s 0 0 A) (F0 m 5 ls []) := by
    intro  n
    induction n with
    | zero => intro u_W w1 w2 w3 H locs ls hf; exact absurd hf (by intro q; cases q)
    | succ n ih => exact fun hf hw hl => J5 ih hf hw hl
  unfold f_J7_fill_53178_oX10r7 at hf
  refine lv_iconst (v := 0) hx hb dJ7_fill_53178_0 (by decide) ?_
  refine lv_istore_n (lv' := [(2, .int (0 : Int32)), (0, .ref (a_W 7)), (1, .int x1)]) hx hb dJ7_fill_53178_1 rfl hl (by decide) rfl (fun ls hl => ?_)
  refine lv_aload_n hx hb dJ7_fill_53178_2 rfl (lv_at hl 1 rfl) ?_
  refine tx_alen (v := 6) S hE hw 3 1 rfl rfl rfl dJ7_fill_53178_3 ?_
  refine lv_istore_n (lv' := [(3, .int (6 : Int32)), (2, .int (0 : Int32)), (0, .ref (a_W 7)), (1, .int x1)]) hx hb dJ7_fill_53178_4 rfl hl (by decide) rfl (fun ls hl => ?_)
  exact L5 fu hf hw (lv_sub hl [2, 3, 1, 0] rfl)
def f_J7_fill_53178_oX10r8_J5 (fu : Nat) (K5 : S32 → Int32 → Int32 → Int32 → Option (S32)) (u_W : S32) (w1 : Int32) (w2 : Int32) (w3 : Int32) : Option (S32) := if w3 ≤ w2 then (some u_W) else (tx_ck w2 6 <| tx_let (up2 u_W 8 w2.toNatClampNeg w1) fun (u_W_3 : S32) => tx_let (w2 + (1 : Int32)) fun (y_4 : Int32) => K5 u_W_3 w1 y_4 w3)
def f_J7_fill_53178_oX10r8_L5 (fu : Nat) : Nat → S32 → Int32 → Int32 → Int32 → Option (S32)
  | 0 => fun _ _ _ _ => none
  | n + 1 => f_J7_fill_53178_oX10r8_J5 fu (f_J7_fill_53178_oX10r8_L5 fu n)
def f_J7_fill_53178_oX10r8 (fu : Nat) (u_W : S32) (x1 : Int32) : Option (S32) := f_J7_fill_53178_oX10r8_L5 fu fu u_W x1 (0 : Int32) (6 : Int32)
set_option maxHeartbeats 4000000 in
set_option maxRecDepth 100000 in
theorem c_J7_fill_53178_oX10r8 {l : Launch} {g : GG} {A : Nat → Prop} {X : va_W} {fu : Nat} {a_W : Nat → Nat} {p_W_0 p_W_16 : Nat} {u_W : S32} {x1 : Int32} {zu_W : S32} (hf : f_J7_fill_53178_oX10r8 fu  u_W x1 = some zu_W) : MV l yJ7_fill_53178 cJ7_fill_53178 4 none 0 g A (cl_X10 g a_W p_W_0 p_W_16 u_W ++ X) [.ref (a_W 8), .int x1] (cl_X10 g a_W p_W_0 p_W_16 zu_W ++ X) := by
  refine tx_start (av := [.ref (a_W 8), .int x1]) (by decide) (Nat.le_of_ble_eq_true rfl) ?_
  intro p e s m below meth c ls S hr hlk hE hw hl
  have S : CallFix p m c cJ7_fill_53178 4 s (List.toArray [.ref (a_W 8), .int x1]) (Cond.code yJ7_fill_53178 cJ7_fill_53178 4 none :: allW) RJ7 := S
  have hx := S.1
  have hb := S.2.1
  have hown := S.2.2.2.1
  have hts : ∀ w ∈ allW, w.before (List.toArray [.ref (a_W 8), .int x1]) s = true := fun w h => S.2.2.2.2 w (List.mem_cons_of_mem _ h)
  have hl : lv_has ls 4 [(0, .ref (a_W 8)), (1, .int x1)] := hl
  have J5 : ∀ {K5 : S32 → Int32 → Int32 → Int32 → Option (S32)} (hK5 : ∀ {u_W : S32} {w1 : Int32} {w2 : Int32} {w3 : Int32} {H : Heap} {locs : List Loc} {ls : Array Slot}, K5 u_W w1 w2 w3 = some zu_W → WD g A s.heap (cl_X10 g a_W p_W_0 p_W_16 u_W ++ X) H locs → lv_has ls 4 [(0, .ref (a_W 8)), (1, .int w1), (2, .int w2), (3, .int w3)] → W p l e (rmH 0) s m (List.toArray [.ref (a_W 8), .int x1]) below meth c H locs 0 0 (MQ below (va_Qv (fun (_ : Unit) => True) (fun _ t => POST g A (cl_X10 g a_W p_W_0 p_W_16 zu_W ++ X) t) A) (List.toArray [.ref (a_W 8), .int x1]) s 0 0 A) (F0 m 5 ls [])), ∀ {u_W : S32} {w1 : Int32} {w2 : Int32} {w3 : Int32} {H : Heap} {locs : List Loc} {ls : Array Slot}, f_J7_fill_53178_oX10r8_J5 fu K5 u_W w1 w2 w3 = some zu_W → WD g A s.heap (cl_X10 g a_W p_W_0 p_W_16 u_W ++ X) H locs → lv_has ls 4 [(0, .ref (a_W 8)), (1, .int w1), (2, .int w2), (3, .int w3)] → W p l e (rmH 0) s m (List.toArray [.ref (a_W 8), .int x1]) below meth c H locs 0 0 (MQ below (va_Qv (fun (_ : Unit) => True) (fun _ t => POST g A (cl_X10 g a_W p_W_0 p_W_16 zu_W ++ X) t) A) (List.toArray [.ref (a_W 8), .int x1]) s 0 0 A) (F0 m 5 ls []) := by
    intro K5 hK5 u_W w1 w2 w3 H locs ls hf hw hl
    unfold f_J7_fill_53178_oX10r8_J5 at hf
    refine lv_iload_n hx hb dJ7_fill_53178_5 rfl (lv_at hl 2 rfl) ?_
    refine lv_iload_n hx hb dJ7_fill_53178_6 rfl (lv_at hl 3 rfl) ?_
    refine lv_icmp_ge (tgt := 20) hx hb dJ7_fill_53178_7 (by decide) (fun h_1 => ?_) (fun h_1 => ?_)
    · replace hf := tx_pos hf h_1
      obtain e0 := tx_in1 hf
      rw [← e0]
      exact tx_vret S hr hlk hw dJ7_fill_53178_20
    · replace hf := tx_neg hf h_1
      refine lv_aload_n hx hb dJ7_fill_53178_10 rfl (lv_at hl 0 rfl) ?_
      refine lv_iload_n hx hb dJ7_fill_53178_11 rfl (lv_at hl 2 rfl) ?_
      refine lv_iload_n hx hb dJ7_fill_53178_12 rfl (lv_at hl 1 rfl) ?_
      obtain ⟨h_2, hf⟩ := tx_ck_e hf
      obtain ⟨u_W_3, eu_W_3⟩ : ∃ z : S32, z = up2 u_W 8 w2.toNatClampNeg w1 := ⟨_, rfl⟩
      replace hf := tx_let_e hf eu_W_3
      refine tx_iast (ws' := cl_X10 g a_W p_W_0 p_W_16 u_W_3 ++ X) S hE hw 4 rfl h_2 (by rw [eu_W_3]; rfl) dJ7_fill_53178_13 (fun H locs hw => ?_)
      obtain ⟨y_4, ey_4⟩ : ∃ y : Int32, y = w2 + (1 : Int32) := ⟨_, rfl⟩
      replace hf := tx_let_e hf ey_4
      refine lv_iinc (v := y_4) (lv' := [(2, .int y_4), (0, .ref (a_W 8)), (1, .int w1), (3, .int w3)]) hx hb dJ7_fill_53178_14 hl (k := 2) rfl (by rw [ey_4]; rfl) (by decide) rfl (fun ls hl => ?_)
      refine lv_goto (tgt := 5) hx hb dJ7_fill_53178_17 (by decide) ?_
      exact hK5 hf hw (lv_sub hl [1, 2, 0, 3] rfl)
  have L5 : ∀ (n : Nat), ∀ {u_W : S32} {w1 : Int32} {w2 : Int32} {w3 : Int32} {H : Heap} {locs : List Loc} {ls : Array Slot}, f_J7_fill_53178_oX10r8_L5 fu n u_W w1 w2 w3 = some zu_W → WD g A s.heap (cl_X10 g a_W p_W_0 p_W_16 u_W ++ X) H locs → lv_has ls 4 [(0, .ref (a_W 8)), (1, .int w1), (2, .int w2), (3, .int w3)] → W p l e (rmH 0) s m (List.toArray [.ref (a_W 8), .int x1]) below meth c H locs 0 0 (MQ below (va_Qv (fun (_ : Unit) => True) (fun _ t => POST g A (cl_X10 g a_W p_W_0 p_W_16 zu_W ++ X) t) A) (List.toArray [.ref (a_W 8), .int x1]) s 0 0 A) (F0 m 5 ls []) := by
    intro  n
    induction n with
    | zero => intro u_W w1 w2 w3 H locs ls hf; exact absurd hf (by intro q; cases q)
    | succ n ih => exact fun hf hw hl => J5 ih hf hw hl
  unfold f_J7_fill_53178_oX10r8 at hf
  refine lv_iconst (v := 0) hx hb dJ7_fill_53178_0 (by decide) ?_
  refine lv_istore_n (lv' := [(2, .int (0 : Int32)), (0, .ref (a_W 8)), (1, .int x1)]) hx hb dJ7_fill_53178_1 rfl hl (by decide) rfl (fun ls hl => ?_)
  refine lv_aload_n hx hb dJ7_fill_53178_2 rfl (lv_at hl 1 rfl) ?_
  refine tx_alen (v := 6) S hE hw 4 1 rfl rfl rfl dJ7_fill_53178_3 ?_
  refine lv_istore_n (lv' := [(3, .int (6 : Int32)), (2, .int (0 : Int32)), (0, .ref (a_W 8)), (1, .int x1)]) hx hb dJ7_fill_53178_4 rfl hl (by decide) rfl (fun ls hl => ?_)
  exact L5 fu hf hw (lv_sub hl [2, 3, 1, 0] rfl)
def f_J7_fill_53178_oX10r9_J5 (fu : Nat) (K5 : S32 → Int32 → Int32 → Int32 → Option (S32)) (u_W : S32) (w1 : Int32) (w2 : Int32) (w3 : Int32) : Option (S32) := if w3 ≤ w2 then (some u_W) else (tx_ck w2 6 <| tx_let (up2 u_W 9 w2.toNatClampNeg w1) fun (u_W_3 : S32) => tx_let (w2 + (1 : Int32)) fun (y_4 : Int32) => K5 u_W_3 w1 y_4 w3)
def f_J7_fill_53178_oX10r9_L5 (fu : Nat) : Nat → S32 → Int32 → Int32 → Int32 → Option (S32)
  | 0 => fun _ _ _ _ => none
  | n + 1 => f_J7_fill_53178_oX10r9_J5 fu (f_J7_fill_53178_oX10r9_L5 fu n)
def f_J7_fill_53178_oX10r9 (fu : Nat) (u_W : S32) (x1 : Int32) : Option (S32) := f_J7_fill_53178_oX10r9_L5 fu fu u_W x1 (0 : Int32) (6 : Int32)
set_option maxHeartbeats 4000000 in
set_option maxRecDepth 100000 in
theorem c_J7_fill_53178_oX10r9 {l : Launch} {g : GG} {A : Nat → Prop} {X : va_W} {fu : Nat} {a_W : Nat → Nat} {p_W_0 p_W_16 : Nat} {u_W : S32} {x1 : Int32} {zu_W : S32} (hf : f_J7_fill_53178_oX10r9 fu  u_W x1 = some zu_W) : MV l yJ7_fill_53178 cJ7_fill_53178 4 none 0 g A (cl_X10 g a_W p_W_0 p_W_16 u_W ++ X) [.ref (a_W 9), .int x1] (cl_X10 g a_W p_W_0 p_W_16 zu_W ++ X) := by
  refine tx_start (av := [.ref (a_W 9), .int x1]) (by decide) (Nat.le_of_ble_eq_true rfl) ?_
  intro p e s m below meth c ls S hr hlk hE hw hl
  have S : CallFix p m c cJ7_fill_53178 4 s (List.toArray [.ref (a_W 9), .int x1]) (Cond.code yJ7_fill_53178 cJ7_fill_53178 4 none :: allW) RJ7 := S
  have hx := S.1
  have hb := S.2.1
  have hown := S.2.2.2.1
  have hts : ∀ w ∈ allW, w.before (List.toArray [.ref (a_W 9), .int x1]) s = true := fun w h => S.2.2.2.2 w (List.mem_cons_of_mem _ h)
  have hl : lv_has ls 4 [(0, .ref (a_W 9)), (1, .int x1)] := hl
  have J5 : ∀ {K5 : S32 → Int32 → Int32 → Int32 → Option (S32)} (hK5 : ∀ {u_W : S32} {w1 : Int32} {w2 : Int32} {w3 : Int32} {H : Heap} {locs : List Loc} {ls : Array Slot}, K5 u_W w1 w2 w3 = some zu_W → WD g A s.heap (cl_X10 g a_W p_W_0 p_W_16 u_W ++ X) H locs → lv_has ls 4 [(0, .ref (a_W 9)), (1, .int w1), (2, .int w2), (3, .int w3)] → W p l e (rmH 0) s m (List.toArray [.ref (a_W 9), .int x1]) below meth c H locs 0 0 (MQ below (va_Qv (fun (_ : Unit) => True) (fun _ t => POST g A (cl_X10 g a_W p_W_0 p_W_16 zu_W ++ X) t) A) (List.toArray [.ref (a_W 9), .int x1]) s 0 0 A) (F0 m 5 ls [])), ∀ {u_W : S32} {w1 : Int32} {w2 : Int32} {w3 : Int32} {H : Heap} {locs : List Loc} {ls : Array Slot}, f_J7_fill_53178_oX10r9_J5 fu K5 u_W w1 w2 w3 = some zu_W → WD g A s.heap (cl_X10 g a_W p_W_0 p_W_16 u_W ++ X) H locs → lv_has ls 4 [(0, .ref (a_W 9)), (1, .int w1), (2, .int w2), (3, .int w3)] → W p l e (rmH 0) s m (List.toArray [.ref (a_W 9), .int x1]) below meth c H locs 0 0 (MQ below (va_Qv (fun (_ : Unit) => True) (fun _ t => POST g A (cl_X10 g a_W p_W_0 p_W_16 zu_W ++ X) t) A) (List.toArray [.ref (a_W 9), .int x1]) s 0 0 A) (F0 m 5 ls []) := by
    intro K5 hK5 u_W w1 w2 w3 H locs ls hf hw hl
    unfold f_J7_fill_53178_oX10r9_J5 at hf
    refine lv_iload_n hx hb dJ7_fill_53178_5 rfl (lv_at hl 2 rfl) ?_
    refine lv_iload_n hx hb dJ7_fill_53178_6 rfl (lv_at hl 3 rfl) ?_
    refine lv_icmp_ge (tgt := 20) hx hb dJ7_fill_53178_7 (by decide) (fun h_1 => ?_) (fun h_1 => ?_)
    · replace hf := tx_pos hf h_1
      obtain e0 := tx_in1 hf
      rw [← e0]
      exact tx_vret S hr hlk hw dJ7_fill_53178_20
    · replace hf := tx_neg hf h_1
      refine lv_aload_n hx hb dJ7_fill_53178_10 rfl (lv_at hl 0 rfl) ?_
      refine lv_iload_n hx hb dJ7_fill_53178_11 rfl (lv_at hl 2 rfl) ?_
      refine lv_iload_n hx hb dJ7_fill_53178_12 rfl (lv_at hl 1 rfl) ?_
      obtain ⟨h_2, hf⟩ := tx_ck_e hf
      obtain ⟨u_W_3, eu_W_3⟩ : ∃ z : S32, z = up2 u_W 9 w2.toNatClampNeg w1 := ⟨_, rfl⟩
      replace hf := tx_let_e hf eu_W_3
      refine tx_iast (ws' := cl_X10 g a_W p_W_0 p_W_16 u_W_3 ++ X) S hE hw 5 rfl h_2 (by rw [eu_W_3]; rfl) dJ7_fill_53178_13 (fun H locs hw => ?_)
      obtain ⟨y_4, ey_4⟩ : ∃ y : Int32, y = w2 + (1 : Int32) := ⟨_, rfl⟩
      replace hf := tx_let_e hf ey_4
      refine lv_iinc (v := y_4) (lv' := [(2, .int y_4), (0, .ref (a_W 9)), (1, .int w1), (3, .int w3)]) hx hb dJ7_fill_53178_14 hl (k := 2) rfl (by rw [ey_4]; rfl) (by decide) rfl (fun ls hl => ?_)
      refine lv_goto (tgt := 5) hx hb dJ7_fill_53178_17 (by decide) ?_
      exact hK5 hf hw (lv_sub hl [1, 2, 0, 3] rfl)
  have L5 : ∀ (n : Nat), ∀ {u_W : S32} {w1 : Int32} {w2 : Int32} {w3 : Int32} {H : Heap} {locs : List Loc} {ls : Array Slot}, f_J7_fill_53178_oX10r9_L5 fu n u_W w1 w2 w3 = some zu_W → WD g A s.heap (cl_X10 g a_W p_W_0 p_W_16 u_W ++ X) H locs → lv_has ls 4 [(0, .ref (a_W 9)), (1, .int w1), (2, .int w2), (3, .int w3)] → W p l e (rmH 0) s m (List.toArray [.ref (a_W 9), .int x1]) below meth c H locs 0 0 (MQ below (va_Qv (fun (_ : Unit) => True) (fun _ t => POST g A (cl_X10 g a_W p_W_0 p_W_16 zu_W ++ X) t) A) (List.toArray [.ref (a_W 9), .int x1]) s 0 0 A) (F0 m 5 ls []) := by
    intro  n
    induction n with
    | zero => intro u_W w1 w2 w3 H locs ls hf; exact absurd hf (by intro q; cases q)
    | succ n ih => exact fun hf hw hl => J5 ih hf hw hl
  unfold f_J7_fill_53178_oX10r9 at hf
  refine lv_iconst (v := 0) hx hb dJ7_fill_53178_0 (by decide) ?_
  refine lv_istore_n (lv' := [(2, .int (0 : Int32)), (0, .ref (a_W 9)), (1, .int x1)]) hx hb dJ7_fill_53178_1 rfl hl (by decide) rfl (fun ls hl => ?_)
  refine lv_aload_n hx hb dJ7_fill_53178_2 rfl (lv_at hl 1 rfl) ?_
  refine tx_alen (v := 6) S hE hw 5 1 rfl rfl rfl dJ7_fill_53178_3 ?_
  refine lv_istore_n (lv' := [(3, .int (6 : Int32)), (2, .int (0 : Int32)), (0, .ref (a_W 9)), (1, .int x1)]) hx hb dJ7_fill_53178_4 rfl hl (by decide) rfl (fun ls hl => ?_)
  exact L5 fu hf hw (lv_sub hl [2, 3, 1, 0] rfl)
def f_J7_fill_53178_oX10r11_J5 (fu : Nat) (K5 : S32 → Int32 → Int32 → Int32 → Option (S32)) (u_W : S32) (w1 : Int32) (w2 : Int32) (w3 : Int32) : Option (S32) := if w3 ≤ w2 then (some u_W) else (tx_ck w2 12 <| tx_let (up2 u_W 11 w2.toNatClampNeg w1) fun (u_W_3 : S32) => tx_let (w2 + (1 : Int32)) fun (y_4 : Int32) => K5 u_W_3 w1 y_4 w3)
def f_J7_fill_53178_oX10r11_L5 (fu : Nat) : Nat → S32 → Int32 → Int32 → Int32 → Option (S32)
  | 0 => fun _ _ _ _ => none
  | n + 1 => f_J7_fill_53178_oX10r11_J5 fu (f_J7_fill_53178_oX10r11_L5 fu n)
def f_J7_fill_53178_oX10r11 (fu : Nat) (u_W : S32) (x1 : Int32) : Option (S32) := f_J7_fill_53178_oX10r11_L5 fu fu u_W x1 (0 : Int32) (12 : Int32)
set_option maxHeartbeats 4000000 in
set_option maxRecDepth 100000 in
theorem c_J7_fill_53178_oX10r11 {l : Launch} {g : GG} {A : Nat → Prop} {X : va_W} {fu : Nat} {a_W : Nat → Nat} {p_W_0 p_W_16 : Nat} {u_W : S32} {x1 : Int32} {zu_W : S32} (hf : f_J7_fill_53178_oX10r11 fu  u_W x1 = some zu_W) : MV l yJ7_fill_53178 cJ7_fill_53178 4 none 0 g A (cl_X10 g a_W p_W_0 p_W_16 u_W ++ X) [.ref (a_W 11), .int x1] (cl_X10 g a_W p_W_0 p_W_16 zu_W ++ X) := by
  refine tx_start (av := [.ref (a_W 11), .int x1]) (by decide) (Nat.le_of_ble_eq_true rfl) ?_
  intro p e s m below meth c ls S hr hlk hE hw hl
  have S : CallFix p m c cJ7_fill_53178 4 s (List.toArray [.ref (a_W 11), .int x1]) (Cond.code yJ7_fill_53178 cJ7_fill_53178 4 none :: allW) RJ7 := S
  have hx := S.1
  have hb := S.2.1
  have hown := S.2.2.2.1
  have hts : ∀ w ∈ allW, w.before (List.toArray [.ref (a_W 11), .int x1]) s = true := fun w h => S.2.2.2.2 w (List.mem_cons_of_mem _ h)
  have hl : lv_has ls 4 [(0, .ref (a_W 11)), (1, .int x1)] := hl
  have J5 : ∀ {K5 : S32 → Int32 → Int32 → Int32 → Option (S32)} (hK5 : ∀ {u_W : S32} {w1 : Int32} {w2 : Int32} {w3 : Int32} {H : Heap} {locs : List Loc} {ls : Array Slot}, K5 u_W w1 w2 w3 = some zu_W → WD g A s.heap (cl_X10 g a_W p_W_0 p_W_16 u_W ++ X) H locs → lv_has ls 4 [(0, .ref (a_W 11)), (1, .int w1), (2, .int w2), (3, .int w3)] → W p l e (rmH 0) s m (List.toArray [.ref (a_W 11), .int x1]) below meth c H locs 0 0 (MQ below (va_Qv (fun (_ : Unit) => True) (fun _ t => POST g A (cl_X10 g a_W p_W_0 p_W_16 zu_W ++ X) t) A) (List.toArray [.ref (a_W 11), .int x1]) s 0 0 A) (F0 m 5 ls [])), ∀ {u_W : S32} {w1 : Int32} {w2 : Int32} {w3 : Int32} {H : Heap} {locs : List Loc} {ls : Array Slot}, f_J7_fill_53178_oX10r11_J5 fu K5 u_W w1 w2 w3 = some zu_W → WD g A s.heap (cl_X10 g a_W p_W_0 p_W_16 u_W ++ X) H locs → lv_has ls 4 [(0, .ref (a_W 11)), (1, .int w1), (2, .int w2), (3, .int w3)] → W p l e (rmH 0) s m (List.toArray [.ref (a_W 11), .int x1]) below meth c H locs 0 0 (MQ below (va_Qv (fun (_ : Unit) => True) (fun _ t => POST g A (cl_X10 g a_W p_W_0 p_W_16 zu_W ++ X) t) A) (List.toArray [.ref (a_W 11), .int x1]) s 0 0 A) (F0 m 5 ls []) := by
    intro K5 hK5 u_W w1 w2 w3 H locs ls hf hw hl
    unfold f_J7_fill_53178_oX10r11_J5 at hf
    refine lv_iload_n hx hb dJ7_fill_53178_5 rfl (lv_at hl 2 rfl) ?_
    refine lv_iload_n hx hb dJ7_fill_53178_6 rfl (lv_at hl 3 rfl) ?_
    refine lv_icmp_ge (tgt := 20) hx hb dJ7_fill_53178_7 (by decide) (fun h_1 => ?_) (fun h_1 => ?_)
    · replace hf := tx_pos hf h_1
      obtain e0 := tx_in1 hf
      rw [← e0]
      exact tx_vret S hr hlk hw dJ7_fill_53178_20
    · replace hf := tx_neg hf h_1
      refine lv_aload_n hx hb dJ7_fill_53178_10 rfl (lv_at hl 0 rfl) ?_
      refine lv_iload_n hx hb dJ7_fill_53178_11 rfl (lv_at hl 2 rfl) ?_
      refine lv_iload_n hx hb dJ7_fill_53178_12 rfl (lv_at hl 1 rfl) ?_
      obtain ⟨h_2, hf⟩ := tx_ck_e hf
      obtain ⟨u_W_3, eu_W_3⟩ : ∃ z : S32, z = up2 u_W 11 w2.toNatClampNeg w1 := ⟨_, rfl⟩
      replace hf := tx_let_e hf eu_W_3
      refine tx_iast (ws' := cl_X10 g a_W p_W_0 p_W_16 u_W_3 ++ X) S hE hw 7 rfl h_2 (by rw [eu_W_3]; rfl) dJ7_fill_53178_13 (fun H locs hw => ?_)
      obtain ⟨y_4, ey_4⟩ : ∃ y : Int32, y = w2 + (1 : Int32) := ⟨_, rfl⟩
      replace hf := tx_let_e hf ey_4
      refine lv_iinc (v := y_4) (lv' := [(2, .int y_4), (0, .ref (a_W 11)), (1, .int w1), (3, .int w3)]) hx hb dJ7_fill_53178_14 hl (k := 2) rfl (by rw [ey_4]; rfl) (by decide) rfl (fun ls hl => ?_)
      refine lv_goto (tgt := 5) hx hb dJ7_fill_53178_17 (by decide) ?_
      exact hK5 hf hw (lv_sub hl [1, 2, 0, 3] rfl)
  have L5 : ∀ (n : Nat), ∀ {u_W : S32} {w1 : Int32} {w2 : Int32} {w3 : Int32} {H : Heap} {locs : List Loc} {ls : Array Slot}, f_J7_fill_53178_oX10r11_L5 fu n u_W w1 w2 w3 = some zu_W → WD g A s.heap (cl_X10 g a_W p_W_0 p_W_16 u_W ++ X) H locs → lv_has ls 4 [(0, .ref (a_W 11)), (1, .int w1), (2, .int w2), (3, .int w3)] → W p l e (rmH 0) s m (List.toArray [.ref (a_W 11), .int x1]) below meth c H locs 0 0 (MQ below (va_Qv (fun (_ : Unit) => True) (fun _ t => POST g A (cl_X10 g a_W p_W_0 p_W_16 zu_W ++ X) t) A) (List.toArray [.ref (a_W 11), .int x1]) s 0 0 A) (F0 m 5 ls []) := by
    intro  n
    induction n with
    | zero => intro u_W w1 w2 w3 H locs ls hf; exact absurd hf (by intro q; cases q)
    | succ n ih => exact fun hf hw hl => J5 ih hf hw hl
  unfold f_J7_fill_53178_oX10r11 at hf
  refine lv_iconst (v := 0) hx hb dJ7_fill_53178_0 (by decide) ?_
  refine lv_istore_n (lv' := [(2, .int (0 : Int32)), (0, .ref (a_W 11)), (1, .int x1)]) hx hb dJ7_fill_53178_1 rfl hl (by decide) rfl (fun ls hl => ?_)
  refine lv_aload_n hx hb dJ7_fill_53178_2 rfl (lv_at hl 1 rfl) ?_
  refine tx_alen (v := 12) S hE hw 7 1 rfl rfl rfl dJ7_fill_53178_3 ?_
  refine lv_istore_n (lv' := [(3, .int (12 : Int32)), (2, .int (0 : Int32)), (0, .ref (a_W 11)), (1, .int x1)]) hx hb dJ7_fill_53178_4 rfl hl (by decide) rfl (fun ls hl => ?_)
  exact L5 fu hf hw (lv_sub hl [2, 3, 1, 0] rfl)
def f_J7_fill_53178_oX10r12_J5 (fu : Nat) (K5 : S32 → Int32 → Int32 → Int32 → Option (S32)) (u_W : S32) (w1 : Int32) (w2 : Int32) (w3 : Int32) : Option (S32) := if w3 ≤ w2 then (some u_W) else (tx_ck w2 12 <| tx_let (up2 u_W 12 w2.toNatClampNeg w1) fun (u_W_3 : S32) => tx_let (w2 + (1 : Int32)) fun (y_4 : Int32) => K5 u_W_3 w1 y_4 w3)
def f_J7_fill_53178_oX10r12_L5 (fu : Nat) : Nat → S32 → Int32 → Int32 → Int32 → Option (S32)
  | 0 => fun _ _ _ _ => none
  | n + 1 => f_J7_fill_53178_oX10r12_J5 fu (f_J7_fill_53178_oX10r12_L5 fu n)
def f_J7_fill_53178_oX10r12 (fu : Nat) (u_W : S32) (x1 : Int32) : Option (S32) := f_J7_fill_53178_oX10r12_L5 fu fu u_W x1 (0 : Int32) (12 : Int32)
set_option maxHeartbeats 4000000 in
set_option maxRecDepth 100000 in
theorem c_J7_fill_53178_oX10r12 {l : Launch} {g : GG} {A : Nat → Prop} {X : va_W} {fu : Nat} {a_W : Nat → Nat} {p_W_0 p_W_16 : Nat} {u_W : S32} {x1 : Int32} {zu_W : S32} (hf : f_J7_fill_53178_oX10r12 fu  u_W x1 = some zu_W) : MV l yJ7_fill_53178 cJ7_fill_53178 4 none 0 g A (cl_X10 g a_W p_W_0 p_W_16 u_W ++ X) [.ref (a_W 12), .int x1] (cl_X10 g a_W p_W_0 p_W_16 zu_W ++ X) := by
  refine tx_start (av := [.ref (a_W 12), .int x1]) (by decide) (Nat.le_of_ble_eq_true rfl) ?_
  intro p e s m below meth c ls S hr hlk hE hw hl
  have S : CallFix p m c cJ7_fill_53178 4 s (List.toArray [.ref (a_W 12), .int x1]) (Cond.code yJ7_fill_53178 cJ7_fill_53178 4 none :: allW) RJ7 := S
  have hx := S.1
  have hb := S.2.1
  have hown := S.2.2.2.1
  have hts : ∀ w ∈ allW, w.before (List.toArray [.ref (a_W 12), .int x1]) s = true := fun w h => S.2.2.2.2 w (List.mem_cons_of_mem _ h)
  have hl : lv_has ls 4 [(0, .ref (a_W 12)), (1, .int x1)] := hl
  have J5 : ∀ {K5 : S32 → Int32 → Int32 → Int32 → Option (S32)} (hK5 : ∀ {u_W : S32} {w1 : Int32} {w2 : Int32} {w3 : Int32} {H : Heap} {locs : List Loc} {ls : Array Slot}, K5 u_W w1 w2 w3 = some zu_W → WD g A s.heap (cl_X10 g a_W p_W_0 p_W_16 u_W ++ X) H locs → lv_has ls 4 [(0, .ref (a_W 12)), (1, .int w1), (2, .int w2), (3, .int w3)] → W p l e (rmH 0) s m (List.toArray [.ref (a_W 12), .int x1]) below meth c H locs 0 0 (MQ below (va_Qv (fun (_ : Unit) => True) (fun _ t => POST g A (cl_X10 g a_W p_W_0 p_W_16 zu_W ++ X) t) A) (List.toArray [.ref (a_W 12), .int x1]) s 0 0 A) (F0 m 5 ls [])), ∀ {u_W : S32} {w1 : Int32} {w2 : Int32} {w3 : Int32} {H : Heap} {locs : List Loc} {ls : Array Slot}, f_J7_fill_53178_oX10r12_J5 fu K5 u_W w1 w2 w3 = some zu_W → WD g A s.heap (cl_X10 g a_W p_W_0 p_W_16 u_W ++ X) H locs → lv_has ls 4 [(0, .ref (a_W 12)), (1, .int w1), (2, .int w2), (3, .int w3)] → W p l e (rmH 0) s m (List.toArray [.ref (a_W 12), .int x1]) below meth c H locs 0 0 (MQ below (va_Qv (fun (_ : Unit) => True) (fun _ t => POST g A (cl_X10 g a_W p_W_0 p_W_16 zu_W ++ X) t) A) (List.toArray [.ref (a_W 12), .int x1]) s 0 0 A) (F0 m 5 ls []) := by
    intro K5 hK5 u_W w1 w2 w3 H locs ls hf hw hl
    unfold f_J7_fill_53178_oX10r12_J5 at hf
    refine lv_iload_n hx hb dJ7_fill_53178_5 rfl (lv_at hl 2 rfl) ?_
    refine lv_iload_n hx hb dJ7_fill_53178_6 rfl (lv_at hl 3 rfl) ?_
    refine lv_icmp_ge (tgt := 20) hx hb dJ7_fill_53178_7 (by decide) (fun h_1 => ?_) (fun h_1 => ?_)
    · replace hf := tx_pos hf h_1
      obtain e0 := tx_in1 hf
      rw [← e0]
      exact tx_vret S hr hlk hw dJ7_fill_53178_20
    · replace hf := tx_neg hf h_1
      refine lv_aload_n hx hb dJ7_fill_53178_10 rfl (lv_at hl 0 rfl) ?_
      refine lv_iload_n hx hb dJ7_fill_53178_11 rfl (lv_at hl 2 rfl) ?_
      refine lv_iload_n hx hb dJ7_fill_53178_12 rfl (lv_at hl 1 rfl) ?_
      obtain ⟨h_2, hf⟩ := tx_ck_e hf
      obtain ⟨u_W_3, eu_W_3⟩ : ∃ z : S32, z = up2 u_W 12 w2.toNatClampNeg w1 := ⟨_, rfl⟩
      replace hf := tx_let_e hf eu_W_3
      refine tx_iast (ws' := cl_X10 g a_W p_W_0 p_W_16 u_W_3 ++ X) S hE hw 8 rfl h_2 (by rw [eu_W_3]; rfl) dJ7_fill_53178_13 (fun H locs hw => ?_)
      obtain ⟨y_4, ey_4⟩ : ∃ y : Int32, y = w2 + (1 : Int32) := ⟨_, rfl⟩
      replace hf := tx_let_e hf ey_4
      refine lv_iinc (v := y_4) (lv' := [(2, .int y_4), (0, .ref (a_W 12)), (1, .int w1), (3, .int w3)]) hx hb dJ7_fill_53178_14 hl (k := 2) rfl (by rw [ey_4]; rfl) (by decide) rfl (fun ls hl => ?_)
      refine lv_goto (tgt := 5) hx hb dJ7_fill_53178_17 (by decide) ?_
      exact hK5 hf hw (lv_sub hl [1, 2, 0, 3] rfl)
  have L5 : ∀ (n : Nat), ∀ {u_W : S32} {w1 : Int32} {w2 : Int32} {w3 : Int32} {H : Heap} {locs : List Loc} {ls : Array Slot}, f_J7_fill_53178_oX10r12_L5 fu n u_W w1 w2 w3 = some zu_W → WD g A s.heap (cl_X10 g a_W p_W_0 p_W_16 u_W ++ X) H locs → lv_has ls 4 [(0, .ref (a_W 12)), (1, .int w1), (2, .int w2), (3, .int w3)] → W p l e (rmH 0) s m (List.toArray [.ref (a_W 12), .int x1]) below meth c H locs 0 0 (MQ below (va_Qv (fun (_ : Unit) => True) (fun _ t => POST g A (cl_X10 g a_W p_W_0 p_W_16 zu_W ++ X) t) A) (List.toArray [.ref (a_W 12), .int x1]) s 0 0 A) (F0 m 5 ls []) := by
    intro  n
    induction n with
    | zero => intro u_W w1 w2 w3 H locs ls hf; exact absurd hf (by intro q; cases q)
    | succ n ih => exact fun hf hw hl => J5 ih hf hw hl
  unfold f_J7_fill_53178_oX10r12 at hf
  refine lv_iconst (v := 0) hx hb dJ7_fill_53178_0 (by decide) ?_
  refine lv_istore_n (lv' := [(2, .int (0 : Int32)), (0, .ref (a_W 12)), (1, .int x1)]) hx hb dJ7_fill_53178_1 rfl hl (by decide) rfl (fun ls hl => ?_)
  refine lv_aload_n hx hb dJ7_fill_53178_2 rfl (lv_at hl 1 rfl) ?_
  refine tx_alen (v := 12) S hE hw 8 1 rfl rfl rfl dJ7_fill_53178_3 ?_
  refine lv_istore_n (lv' := [(3, .int (12 : Int32)), (2, .int (0 : Int32)), (0, .ref (a_W 12)), (1, .int x1)]) hx hb dJ7_fill_53178_4 rfl hl (by decide) rfl (fun ls hl => ?_)
  exact L5 fu hf hw (lv_sub hl [2, 3, 1, 0] rfl)
def f_J7_fill_53178_oX10r13_J5 (fu : Nat) (K5 : S32 → Int32 → Int32 → Int32 → Option (S32)) (u_W : S32) (w1 : Int32) (w2 : Int32) (w3 : Int32) : Option (S32) := if w3 ≤ w2 then (some u_W) else (tx_ck w2 12 <| tx_let (up2 u_W 13 w2.toNatClampNeg w1) fun (u_W_3 : S32) => tx_let (w2 + (1 : Int32)) fun (y_4 : Int32) => K5 u_W_3 w1 y_4 w3)
def f_J7_fill_53178_oX10r13_L5 (fu : Nat) : Nat → S32 → Int32 → Int32 → Int32 → Option (S32)
  | 0 => fun _ _ _ _ => none
  | n + 1 => f_J7_fill_53178_oX10r13_J5 fu (f_J7_fill_53178_oX10r13_L5 fu n)
def f_J7_fill_53178_oX10r13 (fu : Nat) (u_W : S32) (x1 : Int32) : Option (S32) := f_J7_fill_53178_oX10r13_L5 fu fu u_W x1 (0 : Int32) (12 : Int32)
set_option maxHeartbeats 4000000 in
set_option maxRecDepth 100000 in
theorem c_J7_fill_53178_oX10r13 {l : Launch} {g : GG} {A : Nat → Prop} {X : va_W} {fu : Nat} {a_W : Nat → Nat} {p_W_0 p_W_16 : Nat} {u_W : S32} {x1 : Int32} {zu_W : S32} (hf : f_J7_fill_53178_oX10r13 fu  u_W x1 = some zu_W) : MV l yJ7_fill_53178 cJ7_fill_53178 4 none 0 g A (cl_X10 g a_W p_W_0 p_W_16 u_W ++ X) [.ref (a_W 13), .int x1] (cl_X10 g a_W p_W_0 p_W_16 zu_W ++ X) := by
  refine tx_start (av := [.ref (a_W 13), .int x1]) (by decide) (Nat.le_of_ble_eq_true rfl) ?_
  intro p e s m below meth c ls S hr hlk hE hw hl
  have S : CallFix p m c cJ7_fill_53178 4 s (List.toArray [.ref (a_W 13), .int x1]) (Cond.code yJ7_fill_53178 cJ7_fill_53178 4 none :: allW) RJ7 := S
  have hx := S.1
  have hb := S.2.1
  have hown := S.2.2.2.1
  have hts : ∀ w ∈ allW, w.before (List.toArray [.ref (a_W 13), .int x1]) s = true := fun w h => S.2.2.2.2 w (List.mem_cons_of_mem _ h)
  have hl : lv_has ls 4 [(0, .ref (a_W 13)), (1, .int x1)] := hl
  have J5 : ∀ {K5 : S32 → Int32 → Int32 → Int32 → Option (S32)} (hK5 : ∀ {u_W : S32} {w1 : Int32} {w2 : Int32} {w3 : Int32} {H : Heap} {locs : List Loc} {ls : Array Slot}, K5 u_W w1 w2 w3 = some zu_W → WD g A s.heap (cl_X10 g a_W p_W_0 p_W_16 u_W ++ X) H locs → lv_has ls 4 [(0, .ref (a_W 13)), (1, .int w1), (2, .int w2), (3, .int w3)] → W p l e (rmH 0) s m (List.toArray [.ref (a_W 13), .int x1]) below meth c H locs 0 0 (MQ below (va_Qv (fun (_ : Unit) => True) (fun _ t => POST g A (cl_X10 g a_W p_W_0 p_W_16 zu_W ++ X) t) A) (List.toArray [.ref (a_W 13), .int x1]) s 0 0 A) (F0 m 5 ls [])), ∀ {u_W : S32} {w1 : Int32} {w2 : Int32} {w3 : Int32} {H : Heap} {locs : List Loc} {ls : Array Slot}, f_J7_fill_53178_oX10r13_J5 fu K5 u_W w1 w2 w3 = some zu_W → WD g A s.heap (cl_X10 g a_W p_W_0 p_W_16 u_W ++ X) H locs → lv_has ls 4 [(0, .ref (a_W 13)), (1, .int w1), (2, .int w2), (3, .int w3)] → W p l e (rmH 0) s m (List.toArray [.ref (a_W 13), .int x1]) below meth c H locs 0 0 (MQ below (va_Qv (fun (_ : Unit) => True) (fun _ t => POST g A (cl_X10 g a_W p_W_0 p_W_16 zu_W ++ X) t) A) (List.toArray [.ref (a_W 13), .int x1]) s 0 0 A) (F0 m 5 ls []) := by
    intro K5 hK5 u_W w1 w2 w3 H locs ls hf hw hl
    unfold f_J7_fill_53178_oX10r13_J5 at hf
    refine lv_iload_n hx hb dJ7_fill_53178_5 rfl (lv_at hl 2 rfl) ?_
    refine lv_iload_n hx hb dJ7_fill_53178_6 rfl (lv_at hl 3 rfl) ?_
    refine lv_icmp_ge (tgt := 20) hx hb dJ7_fill_53178_7 (by decide) (fun h_1 => ?_) (fun h_1 => ?_)
    · replace hf := tx_pos hf h_1
      obtain e0 := tx_in1 hf
      rw [← e0]
      exact tx_vret S hr hlk hw dJ7_fill_53178_20
    · replace hf := tx_neg hf h_1
      refine lv_aload_n hx hb dJ7_fill_53178_10 rfl (lv_at hl 0 rfl) ?_
      refine lv_iload_n hx hb dJ7_fill_53178_11 rfl (lv_at hl 2 rfl) ?_
      refine lv_iload_n hx hb dJ7_fill_53178_12 rfl (lv_at hl 1 rfl) ?_
      obtain ⟨h_2, hf⟩ := tx_ck_e hf
      obtain ⟨u_W_3, eu_W_3⟩ : ∃ z : S32, z = up2 u_W 13 w2.toNatClampNeg w1 := ⟨_, rfl⟩
      replace hf := tx_let_e hf eu_W_3
      refine tx_iast (ws' := cl_X10 g a_W p_W_0 p_W_16 u_W_3 ++ X) S hE hw 9 rfl h_2 (by rw [eu_W_3]; rfl) dJ7_fill_53178_13 (fun H locs hw => ?_)
      obtain ⟨y_4, ey_4⟩ : ∃ y : Int32, y = w2 + (1 : Int32) := ⟨_, rfl⟩
      replace hf := tx_let_e hf ey_4
      refine lv_iinc (v := y_4) (lv' := [(2, .int y_4), (0, .ref (a_W 13)), (1, .int w1), (3, .int w3)]) hx hb dJ7_fill_53178_14 hl (k := 2) rfl (by rw [ey_4]; rfl) (by decide) rfl (fun ls hl => ?_)
      refine lv_goto (tgt := 5) hx hb dJ7_fill_53178_17 (by decide) ?_
      exact hK5 hf hw (lv_sub hl [1, 2, 0, 3] rfl)
  have L5 : ∀ (n : Nat), ∀ {u_W : S32} {w1 : Int32} {w2 : Int32} {w3 : Int32} {H : Heap} {locs : List Loc} {ls : Array Slot}, f_J7_fill_53178_oX10r13_L5 fu n u_W w1 w2 w3 = some zu_W → WD g A s.heap (cl_X10 g a_W p_W_0 p_W_16 u_W ++ X) H locs → lv_has ls 4 [(0, .ref (a_W 13)), (1, .int w1), (2, .int w2), (3, .int w3)] → W p l e (rmH 0) s m (List.toArray [.ref (a_W 13), .int x1]) below meth c H locs 0 0 (MQ below (va_Qv (fun (_ : Unit) => True) (fun _ t => POST g A (cl_X10 g a_W p_W_0 p_W_16 zu_W ++ X) t) A) (List.toArray [.ref (a_W 13), .int x1]) s 0 0 A) (F0 m 5 ls []) := by
    intro  n
    induction n with
    | zero => intro u_W w1 w2 w3 H locs ls hf; exact absurd hf (by intro q; cases q)
    | succ n ih => exact fun hf hw hl => J5 ih hf hw hl
  unfold f_J7_fill_53178_oX10r13 at hf
  refine lv_iconst (v := 0) hx hb dJ7_fill_53178_0 (by decide) ?_
  refine lv_istore_n (lv' := [(2, .int (0 : Int32)), (0, .ref (a_W 13)), (1, .int x1)]) hx hb dJ7_fill_53178_1 rfl hl (by decide) rfl (fun ls hl => ?_)
  refine lv_aload_n hx hb dJ7_fill_53178_2 rfl (lv_at hl 1 rfl) ?_
  refine tx_alen (v := 12) S hE hw 9 1 rfl rfl rfl dJ7_fill_53178_3 ?_
  refine lv_istore_n (lv' := [(3, .int (12 : Int32)), (2, .int (0 : Int32)), (0, .ref (a_W 13)), (1, .int x1)]) hx hb dJ7_fill_53178_4 rfl hl (by decide) rfl (fun ls hl => ?_)
  exact L5 fu hf hw (lv_sub hl [2, 3, 1, 0] rfl)
def f_X10_begin_J110 (fu : Nat) (u_Ba : S32) (K82 : S32 → Int32 → Option (S32)) (u_T : S32) (w2 : Int32) (t1 : Int32) (t2 : Int32) : Option (S32) := tx_ck t1 6 <| tx_let (up2 u_T 10 t1.toNatClampNeg t2) fun (u_T_24 : S32) => tx_let (w2 + (1 : Int32)) fun (y_25 : Int32) => K82 u_T_24 y_25
def f_X10_begin_J82 (fu : Nat) (u_Ba : S32) (K82 : S32 → Int32 → Option (S32)) (u_T : S32) (w2 : Int32) : Option (S32) := if (6 : Int32) ≤ w2 then (tx_b1 (f_J7_fill_53178_oX10r11 fu u_T (0 : Int32)) fun (u_T_14 : S32) => tx_b1 (f_J7_fill_53178_oX10r12 fu u_T_14 (-1 : Int32)) fun (u_T_16 : S32) => tx_b1 (f_J7_fill_53178_oX10r13 fu u_T_16 (0 : Int32)) fun (u_T_18 : S32) => tx_let (rw2 u_T_18 14 (va_cpy (u_Ba 13) (u_T_18 14) 0 0 4)) fun (u_T_19 : S32) => tx_let (rw2 u_T_19 15 (va_cpy (u_Ba 14) (u_T_19 15) 0 0 4)) fun (u_T_20 : S32) => some u_T_20) else (if (u_Ba 0 10) ≤ (0 : Int32) then (f_X10_begin_J110 fu u_Ba K82 u_T w2 w2 (-1 : Int32)) else (tx_nz (u_Ba 0 10) <| f_X10_begin_J110 fu u_Ba K82 u_T w2 w2 (w2 - w2 / (u_Ba 0 10) * (u_Ba 0 10))))
def f_X10_begin_L82 (fu : Nat) (u_Ba : S32) : Nat → S32 → Int32 → Option (S32)
  | 0 => fun _ _ => none
  | n + 1 => f_X10_begin_J82 fu u_Ba (f_X10_begin_L82 fu u_Ba n)
def f_X10_begin (fu : Nat) (u_Ba : S32) (u_T : S32) : Option (S32) := tx_let (up2 u_T 0 1 (0 : Int32)) fun (u_T_1 : S32) => tx_let (up2 u_T_1 0 2 (u_Ba 0 14)) fun (u_T_2 : S32) => tx_let (up2 u_T_2 0 3 (u_Ba 0 16)) fun (u_T_3 : S32) => tx_let (rw2 u_T_3 5 (va_cpy (u_Ba 4) (u_T_3 5) 0 0 6)) fun (u_T_4 : S32) => tx_let (rw2 u_T_4 6 (va_cpy (u_Ba 5) (u_T_4 6) 0 0 6)) fun (u_T_5 : S32) => tx_b1 (f_J7_fill_53178_oX10r7 fu u_T_5 (0 : Int32)) fun (u_T_7 : S32) => tx_b1 (f_J7_fill_53178_oX10r8 fu u_T_7 (0 : Int32)) fun (u_T_9 : S32) => tx_b1 (f_J7_fill_53178_oX10r9 fu u_T_9 (0 : Int32)) fun (u_T_11 : S32) => f_X10_begin_L82 fu u_Ba fu u_T_11 (0 : Int32)
set_option maxHeartbeats 4000000 in
set_option maxRecDepth 100000 in
theorem c_X10_begin {l : Launch} {g : GG} {A : Nat → Prop} {X : va_W} {fu : Nat} {a_T a_Ba : Nat → Nat} {p_T_0 p_T_16 p_Ba_17 : Nat} {u_T : S32} {u_Ba : S32} {zu_T : S32} (hf : f_X10_begin fu u_Ba u_T = some zu_T) : MV l yX10_begin cX10_begin 3 none 1 g A (cl_X10 g a_T p_T_0 p_T_16 u_T ++ (cl_X0 g a_Ba p_Ba_17 u_Ba ++ X)) [.ref (a_T 0), .ref (a_Ba 0)] (cl_X10 g a_T (a_Ba 0) p_T_16 zu_T ++ (cl_X0 g a_Ba p_Ba_17 u_Ba ++ X)) := by
  refine tx_start (av := [.ref (a_T 0), .ref (a_Ba 0)]) (by decide) (Nat.le_of_ble_eq_true rfl) ?_
  intro p e s m below meth c ls S hr hlk hE hw hl
  have S : CallFix p m c cX10_begin 3 s (List.toArray [.ref (a_T 0), .ref (a_Ba 0)]) (Cond.code yX10_begin cX10_begin 3 none :: allW) RX10 := S
  have hx := S.1
  have hb := S.2.1
  have hown := S.2.2.2.1
  have hts : ∀ w ∈ allW, w.before (List.toArray [.ref (a_T 0), .ref (a_Ba 0)]) s = true := fun w h => S.2.2.2.2 w (List.mem_cons_of_mem _ h)
  have hl : lv_has ls 3 [(0, .ref (a_T 0)), (1, .ref (a_Ba 0))] := hl
  have J110 : ∀ {K82 : S32 → Int32 → Option (S32)} (hK82 : ∀ {u_T : S32} {w2 : Int32} {H : Heap} {locs : List Loc} {ls : Array Slot}, K82 u_T w2 = some zu_T → WD g A s.heap (cl_X10 g a_T (a_Ba 0) p_T_16 u_T ++ (cl_X0 g a_Ba p_Ba_17 u_Ba ++ X)) H locs → lv_has ls 3 [(0, .ref (a_T 0)), (1, .ref (a_Ba 0)), (2, .int w2)] → W p l e (rmH 1) s m (List.toArray [.ref (a_T 0), .ref (a_Ba 0)]) below meth c H locs 0 0 (MQ below (va_Qv (fun (_ : Unit) => True) (fun _ t => POST g A (cl_X10 g a_T (a_Ba 0) p_T_16 zu_T ++ (cl_X0 g a_Ba p_Ba_17 u_Ba ++ X)) t) A) (List.toArray [.ref (a_T 0), .ref (a_Ba 0)]) s 0 0 A) (F0 m 82 ls [])), ∀ {u_T : S32} {w2 : Int32} {t1 : Int32} {t2 : Int32} {H : Heap} {locs : List Loc} {ls : Array Slot}, f_X10_begin_J110 fu u_Ba K82 u_T w2 t1 t2 = some zu_T → WD g A s.heap (cl_X10 g a_T (a_Ba 0) p_T_16 u_T ++ (cl_X0 g a_Ba p_Ba_17 u_Ba ++ X)) H locs → lv_has ls 3 [(0, .ref (a_T 0)), (1, .ref (a_Ba 0)), (2, .int w2)] → W p l e (rmH 1) s m (List.toArray [.ref (a_T 0), .ref (a_Ba 0)]) below meth c H locs 0 0 (MQ below (va_Qv (fun (_ : Unit) => True) (fun _ t => POST g A (cl_X10 g a_T (a_Ba 0) p_T_16 zu_T ++ (cl_X0 g a_Ba p_Ba_17 u_Ba ++ X)) t) A) (List.toArray [.ref (a_T 0), .ref (a_Ba 0)]) s 0 0 A) (F0 m 110 ls [.int t2, .int t1, .ref (a_T 10)]) := by
    intro K82 hK82 u_T w2 t1 t2 H locs ls hf hw hl
    unfold f_X10_begin_J110 at hf
    obtain ⟨h_23, hf⟩ := tx_ck_e hf
    obtain ⟨u_T_24, eu_T_24⟩ : ∃ z : S32, z = up2 u_T 10 t1.toNatClampNeg t2 := ⟨_, rfl⟩
    replace hf := tx_let_e hf eu_T_24
    refine tx_iast (ws' := cl_X10 g a_T (a_Ba 0) p_T_16 u_T_24 ++ (cl_X0 g a_Ba p_Ba_17 u_Ba ++ X)) S hE hw 6 rfl h_23 (by rw [eu_T_24]; rfl) dX10_begin_110 (fun H locs hw => ?_)
    obtain ⟨y_25, ey_25⟩ : ∃ y : Int32, y = w2 + (1 : Int32) := ⟨_, rfl⟩
    replace hf := tx_let_e hf ey_25
    refine lv_iinc (v := y_25) (lv' := [(2, .int y_25), (0, .ref (a_T 0)), (1, .ref (a_Ba 0))]) hx hb dX10_begin_111 hl (k := 2) rfl (by rw [ey_25]; rfl) (by decide) rfl (fun ls hl => ?_)
    refine lv_goto (tgt := 82) hx hb dX10_begin_114 (by decide) ?_
    exact hK82 hf hw (lv_sub hl [1, 2, 0] rfl)
  have J82 : ∀ {K82 : S32 → Int32 → Option (S32)} (hK82 : ∀ {u_T : S32} {w2 : Int32} {H : Heap} {locs : List Loc} {ls : Array Slot}, K82 u_T w2 = some zu_T → WD g A s.heap (cl_X10 g a_T (a_Ba 0) p_T_16 u_T ++ (cl_X0 g a_Ba p_Ba_17 u_Ba ++ X)) H locs → lv_has ls 3 [(0, .ref (a_T 0)), (1, .ref (a_Ba 0)), (2, .int w2)] → W p l e (rmH 1) s m (List.toArray [.ref (a_T 0), .ref (a_Ba 0)]) below meth c H locs 0 0 (MQ below (va_Qv (fun (_ : Unit) => True) (fun _ t => POST g A (cl_X10 g a_T (a_Ba 0) p_T_16 zu_T ++ (cl_X0 g a_Ba p_Ba_17 u_Ba ++ X)) t) A) (List.toArray [.ref (a_T 0), .ref (a_Ba 0)]) s 0 0 A) (F0 m 82 ls [])), ∀ {u_T : S32} {w2 : Int32} {H : Heap} {locs : List Loc} {ls : Array Slot}, f_X10_begin_J82 fu u_Ba K82 u_T w2 = some zu_T → WD g A s.heap (cl_X10 g a_T (a_Ba 0) p_T_16 u_T ++ (cl_X0 g a_Ba p_Ba_17 u_Ba ++ X)) H locs → lv_has ls 3 [(0, .ref (a_T 0)), (1, .ref (a_Ba 0)), (2, .int w2)] → W p l e (rmH 1) s m (List.toArray [.ref (a_T 0), .ref (a_Ba 0)]) below meth c H locs 0 0 (MQ below (va_Qv (fun (_ : Unit) => True) (fun _ t => POST g A (cl_X10 g a_T (a_Ba 0) p_T_16 zu_T ++ (cl_X0 g a_Ba p_Ba_17 u_Ba ++ X)) t) A) (List.toArray [.ref (a_T 0), .ref (a_Ba 0)]) s 0 0 A) (F0 m 82 ls []) := by
    intro K82 hK82 u_T w2 H locs ls hf hw hl
    unfold f_X10_begin_J82 at hf
    refine lv_iload_n hx hb dX10_begin_82 rfl (lv_at hl 2 rfl) ?_
    refine lv_bipush (v := 6) hx hb dX10_begin_83 (by decide) ?_
    refine lv_icmp_ge (tgt := 117) hx hb dX10_begin_85 (by decide) (fun h_12 => ?_) (fun h_12 => ?_)
    · replace hf := tx_pos hf h_12
      refine lv_aload_n hx hb dX10_begin_117 rfl (lv_at hl 0 rfl) ?_
      refine gf_X10_30 S hE hw 0 rfl rfl dX10_begin_118 ?_
      refine lv_iconst (v := 0) hx hb dX10_begin_121 (by decide) ?_
      obtain ⟨u_T_14, h_13, hf⟩ := tx_b1_e hf
      refine tx_cv hw (tx_runS S hE hw (c_J7_fill_53178_oX10r11 h_13) lk_X10_77 rfl hl.1 (rest := []) rfl (Nat.le_of_ble_eq_true rfl) ⟨by decide, by decide⟩ dX10_begin_122 ⟨Nat.zero_le _, Nat.zero_le _⟩) (fun H locs hw => ?_)
      refine lv_aload_n hx hb dX10_begin_125 rfl (lv_at hl 0 rfl) ?_
      refine gf_X10_33 S hE hw 0 rfl rfl dX10_begin_126 ?_
      refine lv_iconst (v := -1) hx hb dX10_begin_129 (by decide) ?_
      obtain ⟨u_T_16, h_15, hf⟩ := tx_b1_e hf
      refine tx_cv hw (tx_runS S hE hw (c_J7_fill_53178_oX10r12 h_15) lk_X10_77 rfl hl.1 (rest := []) rfl (Nat.le_of_ble_eq_true rfl) ⟨by decide, by decide⟩ dX10_begin_130 ⟨Nat.zero_le _, Nat.zero_le _⟩) (fun H locs hw => ?_)
      refine lv_aload_n hx hb dX10_begin_133 rfl (lv_at hl 0 rfl) ?_
      refine gf_X10_36 S hE hw 0 rfl rfl dX10_begin_134 ?_
      refine lv_iconst (v := 0) hx hb dX10_begin_137 (by decide) ?_
      obtain ⟨u_T_18, h_17, hf⟩ := tx_b1_e hf
      refine tx_cv hw (tx_runS S hE hw (c_J7_fill_53178_oX10r13 h_17) lk_X10_77 rfl hl.1 (rest := []) rfl (Nat.le_of_ble_eq_true rfl) ⟨by decide, by decide⟩ dX10_begin_138 ⟨Nat.zero_le _, Nat.zero_le _⟩) (fun H locs hw => ?_)
      refine lv_aload_n hx hb dX10_begin_141 rfl (lv_at hl 1 rfl) ?_
      refine gf_X10_86 S hE hw 12 rfl rfl dX10_begin_142 ?_
      refine lv_iconst (v := 0) hx hb dX10_begin_145 (by decide) ?_
      refine lv_aload_n hx hb dX10_begin_146 rfl (lv_at hl 0 rfl) ?_
      refine gf_X10_39 S hE hw 0 rfl rfl dX10_begin_147 ?_
      refine lv_iconst (v := 0) hx hb dX10_begin_150 (by decide) ?_
      refine lv_iconst (v := 4) hx hb dX10_begin_151 (by decide) ?_
      obtain ⟨u_T_19, eu_T_19⟩ : ∃ z : S32, z = rw2 u_T_18 14 (va_cpy (u_Ba 13) (u_T_18 14) 0 0 4) := ⟨_, rfl⟩
      replace hf := tx_let_e hf eu_T_19
      refine tx_copy (ws' := cl_X10 g a_T (a_Ba 0) p_T_16 u_T_19 ++ (cl_X0 g a_Ba p_Ba_17 u_Ba ++ X)) S hE hw kw_463 21 10 rfl rfl (by decide) (by decide) (by decide) (by decide) (by decide) hl.1 (by decide) (Nat.le_of_ble_eq_true rfl) (by rw [eu_T_19]; rfl) dX10_begin_152 (fun H locs hw => ?_)
      refine lv_aload_n hx hb dX10_begin_155 rfl (lv_at hl 1 rfl) ?_
      refine gf_X10_87 S hE hw 12 rfl rfl dX10_begin_156 ?_
      refine lv_iconst (v := 0) hx hb dX10_begin_159 (by decide) ?_
      refine lv_aload_n hx hb dX10_begin_160 rfl (lv_at hl 0 rfl) ?_
      refine gf_X10_42 S hE hw 0 rfl rfl dX10_begin_161 ?_
      refine lv_iconst (v := 0) hx hb dX10_begin_164 (by decide) ?_
      refine lv_iconst (v := 4) hx hb dX10_begin_165 (by decide) ?_
      obtain ⟨u_T_20, eu_T_20⟩ : ∃ z : S32, z = rw2 u_T_19 15 (va_cpy (u_Ba 14) (u_T_19 15) 0 0 4) := ⟨_, rfl⟩
      replace hf := tx_let_e hf eu_T_20
      refine tx_copy (ws' := cl_X10 g a_T (a_Ba 0) p_T_16 u_T_20 ++ (cl_X0 g a_Ba p_Ba_17 u_Ba ++ X)) S hE hw kw_463 22 11 rfl rfl (by decide) (by decide) (by decide) (by decide) (by decide) hl.1 (by decide) (Nat.le_of_ble_eq_true rfl) (by rw [eu_T_20]; rfl) dX10_begin_166 (fun H locs hw => ?_)
      obtain e0 := tx_in1 hf
      rw [← e0]
      exact tx_vret S hr hlk hw dX10_begin_169
    · replace hf := tx_neg hf h_12
      refine lv_aload_n hx hb dX10_begin_88 rfl (lv_at hl 0 rfl) ?_
      refine gf_X10_27 S hE hw 0 rfl rfl dX10_begin_89 ?_
      refine lv_iload_n hx hb dX10_begin_92 rfl (lv_at hl 2 rfl) ?_
      refine lv_aload_n hx hb dX10_begin_93 rfl (lv_at hl 1 rfl) ?_
      refine gf_X10_83 S hE hw 12 rfl rfl dX10_begin_94 ?_
      refine lv_if_le (tgt := 109) hx hb dX10_begin_97 (by decide) (fun h_21 => ?_) (fun h_21 => ?_)
      · replace hf := tx_pos hf h_21
        refine lv_iconst (v := -1) hx hb dX10_begin_109 (by decide) ?_
        exact J110 hK82 hf hw (lv_sub hl [0, 1, 2] rfl)
      · replace hf := tx_neg hf h_21
        refine lv_iload_n hx hb dX10_begin_100 rfl (lv_at hl 2 rfl) ?_
        refine lv_aload_n hx hb dX10_begin_101 rfl (lv_at hl 1 rfl) ?_
        refine gf_X10_83 S hE hw 12 rfl rfl dX10_begin_102 ?_
        obtain ⟨h_22, hf⟩ := tx_nz_e hf
        refine lv_irem hx hb dX10_begin_105 h_22 ?_
        refine lv_goto (tgt := 110) hx hb dX10_begin_106 (by decide) ?_
        exact J110 hK82 hf hw (lv_sub hl [0, 1, 2] rfl)
  have L82 : ∀ (n : Nat), ∀ {u_T : S32} {w2 : Int32} {H : Heap} {locs : List Loc} {ls : Array Slot}, f_X10_begin_L82 fu u_Ba n u_T w2 = some zu_T → WD g A s.heap (cl_X10 g a_T (a_Ba 0) p_T_16 u_T ++ (cl_X0 g a_Ba p_Ba_17 u_Ba ++ X)) H locs → lv_has ls 3 [(0, .ref (a_T 0)), (1, .ref (a_Ba 0)), (2, .int w2)] → W p l e (rmH 1) s m (List.toArray [.ref (a_T 0), .ref (a_Ba 0)]) below meth c H locs 0 0 (MQ below (va_Qv (fun (_ : Unit) => True) (fun _ t => POST g A (cl_X10 g a_T (a_Ba 0) p_T_16 zu_T ++ (cl_X0 g a_Ba p_Ba_17 u_Ba ++ X)) t) A) (List.toArray [.ref (a_T 0), .ref (a_Ba 0)]) s 0 0 A) (F0 m 82 ls []) := by
    intro  n
    induction n with
    | zero => intro u_T w2 H locs ls hf; exact absurd hf (by intro q; cases q)
    | succ n ih => exact fun hf hw hl => J82 ih hf hw hl
  unfold f_X10_begin at hf
  refine lv_aload_n hx hb dX10_begin_0 rfl (lv_at hl 0 rfl) ?_
  refine lv_aload_n hx hb dX10_begin_1 rfl (lv_at hl 1 rfl) ?_
  refine pf_X10_49 (ws' := cl_X10 g a_T (a_Ba 0) p_T_16 u_T ++ (cl_X0 g a_Ba p_Ba_17 u_Ba ++ X)) S hE hw rfl rfl 0 rfl (Nat.le_of_ble_eq_true rfl) rfl dX10_begin_2 (fun H locs hw => ?_)
  refine lv_aload_n hx hb dX10_begin_5 rfl (lv_at hl 0 rfl) ?_
  refine lv_iconst (v := 0) hx hb dX10_begin_6 (by decide) ?_
  obtain ⟨u_T_1, eu_T_1⟩ : ∃ z : S32, z = up2 u_T 0 1 (0 : Int32) := ⟨_, rfl⟩
  replace hf := tx_let_e hf eu_T_1
  refine pf_X10_53 (ws' := cl_X10 g a_T (a_Ba 0) p_T_16 u_T_1 ++ (cl_X0 g a_Ba p_Ba_17 u_Ba ++ X)) S hE hw rfl rfl 0 rfl (Nat.le_of_ble_eq_true rfl) (by rw [eu_T_1]; rfl) dX10_begin_7 (fun H locs hw => ?_)
  refine lv_aload_n hx hb dX10_begin_10 rfl (lv_at hl 0 rfl) ?_
  refine lv_aload_n hx hb dX10_begin_11 rfl (lv_at hl 1 rfl) ?_
  refine gf_X10_57 S hE hw 12 rfl rfl dX10_begin_12 ?_
  obtain ⟨u_T_2, eu_T_2⟩ : ∃ z : S32, z = up2 u_T_1 0 2 (u_Ba 0 14) := ⟨_, rfl⟩
  replace hf := tx_let_e hf eu_T_2
  refine pf_X10_62 (ws' := cl_X10 g a_T (a_Ba 0) p_T_16 u_T_2 ++ (cl_X0 g a_Ba p_Ba_17 u_Ba ++ X)) S hE hw rfl rfl 0 rfl (Nat.le_of_ble_eq_true rfl) (by rw [eu_T_2]; rfl) dX10_begin_15 (fun H locs hw => ?_)
  refine lv_aload_n hx hb dX10_begin_18 rfl (lv_at hl 0 rfl) ?_
  refine lv_aload_n hx hb dX10_begin_19 rfl (lv_at hl 1 rfl) ?_
  refine gf_X10_63 S hE hw 12 rfl rfl dX10_begin_20 ?_
  obtain ⟨u_T_3, eu_T_3⟩ : ∃ z : S32, z = up2 u_T_2 0 3 (u_Ba 0 16) := ⟨_, rfl⟩
  replace hf := tx_let_e hf eu_T_3
  refine pf_X10_66 (ws' := cl_X10 g a_T (a_Ba 0) p_T_16 u_T_3 ++ (cl_X0 g a_Ba p_Ba_17 u_Ba ++ X)) S hE hw rfl rfl 0 rfl (Nat.le_of_ble_eq_true rfl) (by rw [eu_T_3]; rfl) dX10_begin_23 (fun H locs hw => ?_)
  refine lv_aload_n hx hb dX10_begin_26 rfl (lv_at hl 1 rfl) ?_
  refine gf_X10_69 S hE hw 12 rfl rfl dX10_begin_27 ?_
  refine lv_iconst (v := 0) hx hb dX10_begin_30 (by decide) ?_
  refine lv_aload_n hx hb dX10_begin_31 rfl (lv_at hl 0 rfl) ?_
  refine gf_X10_9 S hE hw 0 rfl rfl dX10_begin_32 ?_
  refine lv_iconst (v := 0) hx hb dX10_begin_35 (by decide) ?_
  refine lv_bipush (v := 6) hx hb dX10_begin_36 (by decide) ?_
  obtain ⟨u_T_4, eu_T_4⟩ : ∃ z : S32, z = rw2 u_T_3 5 (va_cpy (u_Ba 4) (u_T_3 5) 0 0 6) := ⟨_, rfl⟩
  replace hf := tx_let_e hf eu_T_4
  refine tx_copy (ws' := cl_X10 g a_T (a_Ba 0) p_T_16 u_T_4 ++ (cl_X0 g a_Ba p_Ba_17 u_Ba ++ X)) S hE hw kw_463 14 1 rfl rfl (by decide) (by decide) (by decide) (by decide) (by decide) hl.1 (by decide) (Nat.le_of_ble_eq_true rfl) (by rw [eu_T_4]; rfl) dX10_begin_38 (fun H locs hw => ?_)
  refine lv_aload_n hx hb dX10_begin_41 rfl (lv_at hl 1 rfl) ?_
  refine gf_X10_76 S hE hw 12 rfl rfl dX10_begin_42 ?_
  refine lv_iconst (v := 0) hx hb dX10_begin_45 (by decide) ?_
  refine lv_aload_n hx hb dX10_begin_46 rfl (lv_at hl 0 rfl) ?_
  refine gf_X10_15 S hE hw 0 rfl rfl dX10_begin_47 ?_
  refine lv_iconst (v := 0) hx hb dX10_begin_50 (by decide) ?_
  refine lv_bipush (v := 6) hx hb dX10_begin_51 (by decide) ?_
  obtain ⟨u_T_5, eu_T_5⟩ : ∃ z : S32, z = rw2 u_T_4 6 (va_cpy (u_Ba 5) (u_T_4 6) 0 0 6) := ⟨_, rfl⟩
  replace hf := tx_let_e hf eu_T_5
  refine tx_copy (ws' := cl_X10 g a_T (a_Ba 0) p_T_16 u_T_5 ++ (cl_X0 g a_Ba p_Ba_17 u_Ba ++ X)) S hE hw kw_463 15 2 rfl rfl (by decide) (by decide) (by decide) (by decide) (by decide) hl.1 (by decide) (Nat.le_of_ble_eq_true rfl) (by rw [eu_T_5]; rfl) dX10_begin_53 (fun H locs hw => ?_)
  refine lv_aload_n hx hb dX10_begin_56 rfl (lv_at hl 0 rfl) ?_
  refine gf_X10_18 S hE hw 0 rfl rfl dX10_begin_57 ?_
  refine lv_iconst (v := 0) hx hb dX10_begin_60 (by decide) ?_
  obtain ⟨u_T_7, h_6, hf⟩ := tx_b1_e hf
  refine tx_cv hw (tx_runS S hE hw (c_J7_fill_53178_oX10r7 h_6) lk_X10_77 rfl hl.1 (rest := []) rfl (Nat.le_of_ble_eq_true rfl) ⟨by decide, by decide⟩ dX10_begin_61 ⟨Nat.zero_le _, Nat.zero_le _⟩) (fun H locs hw => ?_)
  refine lv_aload_n hx hb dX10_begin_64 rfl (lv_at hl 0 rfl) ?_
  refine gf_X10_21 S hE hw 0 rfl rfl dX10_begin_65 ?_
  refine lv_iconst (v := 0) hx hb dX10_begin_68 (by decide) ?_
  obtain ⟨u_T_9, h_8, hf⟩ := tx_b1_e hf
  refine tx_cv hw (tx_runS S hE hw (c_J7_fill_53178_oX10r8 h_8) lk_X10_77 rfl hl.1 (rest := []) rfl (Nat.le_of_ble_eq_true rfl) ⟨by decide, by decide⟩ dX10_begin_69 ⟨Nat.zero_le _, Nat.zero_le _⟩) (fun H locs hw => ?_)
  refine lv_aload_n hx hb dX10_begin_72 rfl (lv_at hl 0 rfl) ?_
  refine gf_X10_24 S hE hw 0 rfl rfl dX10_begin_73 ?_
  refine lv_iconst (v := 0) hx hb dX10_begin_76 (by decide) ?_
  obtain ⟨u_T_11, h_10, hf⟩ := tx_b1_e hf
  refine tx_cv hw (tx_runS S hE hw (c_J7_fill_53178_oX10r9 h_10) lk_X10_77 rfl hl.1 (rest := []) rfl (Nat.le_of_ble_eq_true rfl) ⟨by decide, by decide⟩ dX10_begin_77 ⟨Nat.zero_le _, Nat.zero_le _⟩) (fun H locs hw => ?_)
  refine lv_iconst (v := 0) hx hb dX10_begin_80 (by decide) ?_
  refine lv_istore_n (lv' := [(2, .int (0 : Int32)), (0, .ref (a_T 0)), (1, .ref (a_Ba 0))]) hx hb dX10_begin_81 rfl hl (by decide) rfl (fun ls hl => ?_)
  exact L82 fu hf hw (lv_sub hl [1, 2, 0] rfl)
def f_X2_clear (fu : Nat) (u_T : S32) : Option (S32) := tx_let (up2 u_T 0 5 (0 : Int32)) fun (u_T_1 : S32) => tx_let (up2 u_T_1 0 6 (-1 : Int32)) fun (u_T_2 : S32) => some u_T_2
set_option maxHeartbeats 4000000 in
set_option maxRecDepth 100000 in
theorem c_X2_clear {l : Launch} {g : GG} {A : Nat → Prop} {X : va_W} {fu : Nat} {a_T : Nat → Nat} {u_T : S32} {zu_T : S32} (hf : f_X2_clear fu  u_T = some zu_T) : MV l yX2_clear cX2_clear 1 none 0 g A (cl_X2 g a_T u_T ++ X) [.ref (a_T 0)] (cl_X2 g a_T zu_T ++ X) := by
  refine tx_start (av := [.ref (a_T 0)]) (by decide) (Nat.le_of_ble_eq_true rfl) ?_
  intro p e s m below meth c ls S hr hlk hE hw hl
  have S : CallFix p m c cX2_clear 1 s (List.toArray [.ref (a_T 0)]) (Cond.code yX2_clear cX2_clear 1 none :: allW) RX2 := S
  have hx := S.1
  have hb := S.2.1
  have hown := S.2.2.2.1
  have hts : ∀ w ∈ allW, w.before (List.toArray [.ref (a_T 0)]) s = true := fun w h => S.2.2.2.2 w (List.mem_cons_of_mem _ h)
  have hl : lv_has ls 1 [(0, .ref (a_T 0))] := hl
  unfold f_X2_clear at hf
  refine lv_aload_n hx hb dX2_clear_0 rfl (lv_at hl 0 rfl) ?_
  refine lv_iconst (v := 0) hx hb dX2_clear_1 (by decide) ?_
  obtain ⟨u_T_1, eu_T_1⟩ : ∃ z : S32, z = up2 u_T 0 5 (0 : Int32) := ⟨_, rfl⟩
  replace hf := tx_let_e hf eu_T_1
  refine pf_X2_32 (ws' := cl_X2 g a_T u_T_1 ++ X) S hE hw rfl rfl 0 rfl (Nat.le_of_ble_eq_true rfl) (by rw [eu_T_1]; rfl) dX2_clear_2 (fun H locs hw => ?_)
  refine lv_aload_n hx hb dX2_clear_5 rfl (lv_at hl 0 rfl) ?_
  refine lv_iconst (v := -1) hx hb dX2_clear_6 (by decide) ?_
  obtain ⟨u_T_2, eu_T_2⟩ : ∃ z : S32, z = up2 u_T_1 0 6 (-1 : Int32) := ⟨_, rfl⟩
  replace hf := tx_let_e hf eu_T_2
  refine pf_X2_28 (ws' := cl_X2 g a_T u_T_2 ++ X) S hE hw rfl rfl 0 rfl (Nat.le_of_ble_eq_true rfl) (by rw [eu_T_2]; rfl) dX2_clear_7 (fun H locs hw => ?_)
  obtain e0 := tx_in1 hf
  rw [← e0]
  exact tx_vret S hr hlk hw dX2_clear_10
def f_X1_clear (fu : Nat) (u_T : S32) : Option (S32) := tx_let (up2 u_T 0 3 (0 : Int32)) fun (u_T_1 : S32) => some u_T_1
set_option maxHeartbeats 4000000 in
set_option maxRecDepth 100000 in
theorem c_X1_clear {l : Launch} {g : GG} {A : Nat → Prop} {X : va_W} {fu : Nat} {a_T : Nat → Nat} {u_T : S32} {zu_T : S32} (hf : f_X1_clear fu  u_T = some zu_T) : MV l yX1_clear cX1_clear 1 none 0 g A (cl_X1 g a_T u_T ++ X) [.ref (a_T 0)] (cl_X1 g a_T zu_T ++ X) := by
  refine tx_start (av := [.ref (a_T 0)]) (by decide) (Nat.le_of_ble_eq_true rfl) ?_
  intro p e s m below meth c ls S hr hlk hE hw hl
  have S : CallFix p m c cX1_clear 1 s (List.toArray [.ref (a_T 0)]) (Cond.code yX1_clear cX1_clear 1 none :: allW) RX1 := S
  have hx := S.1
  have hb := S.2.1
  have hown := S.2.2.2.1
  have hts : ∀ w ∈ allW, w.before (List.toArray [.ref (a_T 0)]) s = true := fun w h => S.2.2.2.2 w (List.mem_cons_of_mem _ h)
  have hl : lv_has ls 1 [(0, .ref (a_T 0))] := hl
  unfold f_X1_clear at hf
  refine lv_aload_n hx hb dX1_clear_0 rfl (lv_at hl 0 rfl) ?_
  refine lv_iconst (v := 0) hx hb dX1_clear_1 (by decide) ?_
  obtain ⟨u_T_1, eu_T_1⟩ : ∃ z : S32, z = up2 u_T 0 3 (0 : Int32) := ⟨_, rfl⟩
  replace hf := tx_let_e hf eu_T_1
  refine pf_X1_19 (ws' := cl_X1 g a_T u_T_1 ++ X) S hE hw rfl rfl 0 rfl (Nat.le_of_ble_eq_true rfl) (by rw [eu_T_1]; rfl) dX1_clear_2 (fun H locs hw => ?_)
  obtain e0 := tx_in1 hf
  rw [← e0]
  exact tx_vret S hr hlk hw dX1_clear_5
def f_X11_text (fu : Nat) (v_L : S64) (p_R_8 : Nat) (p_T_1 : Nat) (p_Z_4 : Nat) (pa_B : Nat) (pa_L : Nat) (u_T : S32) (u_P : S32) (u_Z : S32) (u_B : S32) (u_L : S32) (u_K : S32) (u_R : S32) (u_W : S32) (u_F : S32) (u_D : S32) (x1 : Int32) : Option (Int32 × S32 × S32 × S32 × S32 × S32 × S32 × S32 × S32 × S32 × S32 × Nat × Nat × Nat × Nat × Nat) := if x1 < (0 : Int32) then (some ((-2 : Int32), u_T, u_P, u_Z, u_B, u_L, u_K, u_R, u_W, u_F, u_D, p_R_8, p_T_1, pa_B, p_T_1, p_Z_4)) else (if x1 ≤ (u_P 0 1) then (tx_b7 (f_X7_tell fu v_L u_P p_R_8 pa_L u_Z u_B u_L u_K u_R x1) fun (r_4 : Int32) (u_Z_5 : S32) (u_B_6 : S32) (u_L_7 : S32) (u_K_8 : S32) (u_R_9 : S32) (q_10 : Nat) => tx_let (up2 u_P 0 1 (0 : Int32)) fun (u_P_11 : S32) => if r_4 = (0 : Int32) then (some ((-1 : Int32), u_T, u_P_11, u_Z_5, u_B_6, u_L_7, u_K_8, u_R_9, u_W, u_F, u_D, q_10, p_T_1, pa_B, p_T_1, pa_B)) else (tx_b1 (f_X10_begin fu u_B_6 u_W) fun (u_W_14 : S32) => tx_b1 (f_X2_clear fu u_F) fun (u_F_16 : S32) => tx_b1 (f_X1_clear fu u_D) fun (u_D_18 : S32) => tx_let (up2 u_T 0 10 (0 : Int32)) fun (u_T_19 : S32) => some (u_B_6 0 0, u_T_19, u_P_11, u_Z_5, u_B_6, u_L_7, u_K_8, u_R_9, u_W_14, u_F_16, u_D_18, q_10, pa_B, p_T_1, pa_B, pa_B))) else (some ((-2 : Int32), u_T, u_P, u_Z, u_B, u_L, u_K, u_R, u_W, u_F, u_D, p_R_8, p_T_1, pa_B, p_T_1, p_Z_4)))
set_option maxHeartbeats 4000000 in
set_option maxRecDepth 100000 in
theorem c_X11_text {l : Launch} {g : GG} {A : Nat → Prop} {X : va_W} {fu : Nat} {a_T a_P a_Z a_B a_L a_K a_R a_W a_F a_D : Nat → Nat} {p_T_1 p_T_5 p_T_6 p_T_9 p_Z_4 p_R_8 p_W_16 : Nat} {u_T : S32} {u_P : S32} {u_Z : S32} {u_B : S32} {u_L : S32} {v_L : S64} {u_K : S32} {u_R : S32} {u_W : S32} {u_F : S32} {u_D : S32} {x1 : Int32} {r : Int32} {zu_T : S32} {zu_P : S32} {zu_Z : S32} {zu_B : S32} {zu_L : S32} {zu_K : S32} {zu_R : S32} {zu_W : S32} {zu_F : S32} {zu_D : S32} {zq_R_8 : Nat} {zq_T_1 : Nat} {zq_T_2 : Nat} {zq_W_0 : Nat} {zq_Z_4 : Nat} (hf : f_X11_text fu v_L p_R_8 p_T_1 p_Z_4 (a_B 0) (a_L 0) u_T u_P u_Z u_B u_L u_K u_R u_W u_F u_D x1 = some (r, zu_T, zu_P, zu_Z, zu_B, zu_L, zu_K, zu_R, zu_W, zu_F, zu_D, zq_R_8, zq_T_1, zq_T_2, zq_W_0, zq_Z_4)) : MI l yX11_text cX11_text 4 (some .int) 7 g A (cl_X11 g a_T (a_P 0) p_T_1 (a_B 0) (a_Z 0) (a_W 0) p_T_5 p_T_6 (a_D 0) (a_F 0) p_T_9 u_T ++ (cl_X6 g a_P u_P ++ (cl_X7 g a_Z (a_K 0) (a_R 0) p_Z_4 u_Z ++ (cl_X0 g a_B (a_L 0) u_B ++ (cl_X5 g a_L u_L v_L ++ (cl_X8 g a_K (a_P 0) u_K ++ (cl_X4 g a_R (a_K 0) p_R_8 u_R ++ (cl_X10 g a_W p_T_1 p_W_16 u_W ++ (cl_X2 g a_F u_F ++ (cl_X1 g a_D u_D ++ X)))))))))) [.ref (a_T 0), .int x1] r (cl_X11 g a_T (a_P 0) zq_T_1 zq_T_2 (a_Z 0) (a_W 0) p_T_5 p_T_6 (a_D 0) (a_F 0) p_T_9 zu_T ++ (cl_X6 g a_P zu_P ++ (cl_X7 g a_Z (a_K 0) (a_R 0) zq_Z_4 zu_Z ++ (cl_X0 g a_B (a_L 0) zu_B ++ (cl_X5 g a_L zu_L v_L ++ (cl_X8 g a_K (a_P 0) zu_K ++ (cl_X4 g a_R (a_K 0) zq_R_8 zu_R ++ (cl_X10 g a_W zq_W_0 p_W_16 zu_W ++ (cl_X2 g a_F zu_F ++ (cl_X1 g a_D zu_D ++ X)))))))))) := by
  refine tx_start (av := [.ref (a_T 0), .int x1]) (by decide) (Nat.le_of_ble_eq_true rfl) ?_
  intro p e s m below meth c ls S hr hlk hE hw hl
  have S : CallFix p m c cX11_text 4 s (List.toArray [.ref (a_T 0), .int x1]) (Cond.code yX11_text cX11_text 4 (some .int) :: allW) RX11 := S
  have hx := S.1
  have hb := S.2.1
  have hown := S.2.2.2.1
  have hts : ∀ w ∈ allW, w.before (List.toArray [.ref (a_T 0), .int x1]) s = true := fun w h => S.2.2.2.2 w (List.mem_cons_of_mem _ h)
  have hl : lv_has ls 4 [(0, .ref (a_T 0)), (1, .int x1)] := hl
  unfold f_X11_text at hf
  refine lv_iload_n hx hb dX11_text_0 rfl (lv_at hl 1 rfl) ?_
  refine lv_if_lt (tgt := 15) hx hb dX11_text_1 (by decide) (fun h_1 => ?_) (fun h_1 => ?_)
  · replace hf := tx_pos hf h_1
    refine lv_bipush (v := -2) hx hb dX11_text_15 (by decide) ?_
    obtain ⟨e0, e1, e2, e3, e4, e5, e6, e7, e8, e9, e10, e11, e12, e13, e14, e15⟩ := tx_in16 hf
    rw [← e0, ← e1, ← e2, ← e3, ← e4, ← e5, ← e6, ← e7, ← e8, ← e9, ← e10, ← e11, ← e12, ← e13, ← e14, ← e15]
    exact tx_iret S hr hlk hw dX11_text_17
  · replace hf := tx_neg hf h_1
    refine lv_iload_n hx hb dX11_text_4 rfl (lv_at hl 1 rfl) ?_
    refine lv_aload_n hx hb dX11_text_5 rfl (lv_at hl 0 rfl) ?_
    refine gf_X11_12 S hE hw 0 rfl rfl dX11_text_6 ?_
    refine gf_X11_88 S hE hw 1 rfl rfl dX11_text_9 ?_
    refine lv_icmp_le (tgt := 18) hx hb dX11_text_12 (by decide) (fun h_2 => ?_) (fun h_2 => ?_)
    · replace hf := tx_pos hf h_2
      refine lv_aload_n hx hb dX11_text_18 rfl (lv_at hl 0 rfl) ?_
      refine gf_X11_33 S hE hw 0 rfl rfl dX11_text_19 ?_
      refine lv_iload_n hx hb dX11_text_22 rfl (lv_at hl 1 rfl) ?_
      refine lv_aload_n hx hb dX11_text_23 rfl (lv_at hl 0 rfl) ?_
      refine gf_X11_25 S hE hw 0 rfl rfl dX11_text_24 ?_
      have hw := hw.u6
      have hw := hw.u2
      have hw := hw.u6
      have hw := hw.u6
      have hw := hw.u6
      have hw := hw.u6
      obtain ⟨r_4, u_Z_5, u_B_6, u_L_7, u_K_8, u_R_9, q_10, h_3, hf⟩ := tx_b7_e hf
      refine tx_ci hw (tx_runN S hE hw (c_X7_tell h_3) lk_X11_92 (q0 := 0) rfl rfl rfl hl.1 (rest := []) rfl (Nat.le_of_ble_eq_true rfl) ⟨by decide, by decide⟩ dX11_text_27 ⟨Nat.zero_le _, Nat.zero_le _⟩) (fun H locs hw => ?_)
      refine lv_istore_n (lv' := [(2, .int r_4), (0, .ref (a_T 0)), (1, .int x1)]) hx hb dX11_text_30 rfl hl (by decide) rfl (fun ls hl => ?_)
      refine lv_aload_n hx hb dX11_text_31 rfl (lv_at hl 1 rfl) ?_
      refine gf_X11_12 S hE hw 24 rfl rfl dX11_text_32 ?_
      refine lv_iconst (v := 0) hx hb dX11_text_35 (by decide) ?_
      obtain ⟨u_P_11, eu_P_11⟩ : ∃ z : S32, z = up2 u_P 0 1 (0 : Int32) := ⟨_, rfl⟩
      replace hf := tx_let_e hf eu_P_11
      refine pf_X11_88 (ws' := cl_X7 g a_Z (a_K 0) (a_R 0) (a_B 0) u_Z_5 ++ (cl_X0 g a_B (a_L 0) u_B_6 ++ (cl_X5 g a_L u_L_7 v_L ++ (cl_X8 g a_K (a_P 0) u_K_8 ++ (cl_X6 g a_P u_P_11 ++ (cl_X4 g a_R (a_K 0) q_10 u_R_9 ++ (cl_X11 g a_T (a_P 0) p_T_1 (a_B 0) (a_Z 0) (a_W 0) p_T_5 p_T_6 (a_D 0) (a_F 0) p_T_9 u_T ++ (cl_X10 g a_W p_T_1 p_W_16 u_W ++ (cl_X2 g a_F u_F ++ (cl_X1 g a_D u_D ++ X)))))))))) S hE hw rfl rfl 19 rfl (Nat.le_of_ble_eq_true rfl) (by rw [eu_P_11]; rfl) dX11_text_36 (fun H locs hw => ?_)
      refine lv_iload_n hx hb dX11_text_39 rfl (lv_at hl 0 rfl) ?_
      refine lv_if_ne (tgt := 45) hx hb dX11_text_40 (by decide) (fun h_12 => ?_) (fun h_12 => ?_)
      · replace hf := tx_neg hf h_12
        refine lv_aload_n hx hb dX11_text_45 rfl (lv_at hl 1 rfl) ?_
        refine gf_X11_21 S hE hw 24 rfl rfl dX11_text_46 ?_
        refine lv_astore_n (lv' := [(3, .ref p_T_1), (2, .int r_4), (0, .ref (a_T 0)), (1, .int x1)]) hx hb dX11_text_49 rfl hl (by decide) rfl (fun ls hl => ?_)
        refine lv_aload_n hx hb dX11_text_50 rfl (lv_at hl 2 rfl) ?_
        refine lv_aload_n hx hb dX11_text_51 rfl (lv_at hl 2 rfl) ?_
        refine gf_X11_25 S hE hw 24 rfl rfl dX11_text_52 ?_
        refine pf_X11_21 (ws' := cl_X7 g a_Z (a_K 0) (a_R 0) (a_B 0) u_Z_5 ++ (cl_X0 g a_B (a_L 0) u_B_6 ++ (cl_X5 g a_L u_L_7 v_L ++ (cl_X8 g a_K (a_P 0) u_K_8 ++ (cl_X6 g a_P u_P_11 ++ (cl_X4 g a_R (a_K 0) q_10 u_R_9 ++ (cl_X11 g a_T (a_P 0) (a_B 0) (a_B 0) (a_Z 0) (a_W 0) p_T_5 p_T_6 (a_D 0) (a_F 0) p_T_9 u_T ++ (cl_X10 g a_W p_T_1 p_W_16 u_W ++ (cl_X2 g a_F u_F ++ (cl_X1 g a_D u_D ++ X)))))))))) S hE hw rfl rfl 24 rfl (Nat.le_of_ble_eq_true rfl) rfl dX11_text_55 (fun H locs hw => ?_)
        refine lv_aload_n hx hb dX11_text_58 rfl (lv_at hl 2 rfl) ?_
        refine lv_aload_n hx hb dX11_text_59 rfl (lv_at hl 0 rfl) ?_
        refine pf_X11_25 (ws' := cl_X7 g a_Z (a_K 0) (a_R 0) (a_B 0) u_Z_5 ++ (cl_X0 g a_B (a_L 0) u_B_6 ++ (cl_X5 g a_L u_L_7 v_L ++ (cl_X8 g a_K (a_P 0) u_K_8 ++ (cl_X6 g a_P u_P_11 ++ (cl_X4 g a_R (a_K 0) q_10 u_R_9 ++ (cl_X11 g a_T (a_P 0) (a_B 0) p_T_1 (a_Z 0) (a_W 0) p_T_5 p_T_6 (a_D 0) (a_F 0) p_T_9 u_T ++ (cl_X10 g a_W p_T_1 p_W_16 u_W ++ (cl_X2 g a_F u_F ++ (cl_X1 g a_D u_D ++ X)))))))))) S hE hw rfl rfl 24 rfl (Nat.le_of_ble_eq_true rfl) rfl dX11_text_60 (fun H locs hw => ?_)
        refine lv_aload_n hx hb dX11_text_63 rfl (lv_at hl 2 rfl) ?_
        refine gf_X11_42 S hE hw 24 rfl rfl dX11_text_64 ?_
        refine lv_aload_n hx hb dX11_text_67 rfl (lv_at hl 2 rfl) ?_
        refine gf_X11_21 S hE hw 24 rfl rfl dX11_text_68 ?_
        have hw := hw.u1
        have hw := hw.u7
        obtain ⟨u_W_14, h_13, hf⟩ := tx_b1_e hf
        refine tx_cv hw (tx_runN S hE hw (c_X10_begin h_13) lk_X11_77 (q0 := 0) rfl rfl rfl hl.1 (rest := []) rfl (Nat.le_of_ble_eq_true rfl) ⟨by decide, by decide⟩ dX11_text_71 ⟨Nat.zero_le _, Nat.zero_le _⟩) (fun H locs hw => ?_)
        refine lv_aload_n hx hb dX11_text_74 rfl (lv_at hl 2 rfl) ?_
        refine gf_X11_66 S hE hw 36 rfl rfl dX11_text_75 ?_
        have hw := hw.u8
        obtain ⟨u_F_16, h_15, hf⟩ := tx_b1_e hf
        refine tx_cv hw (tx_runN S hE hw (c_X2_clear h_15) lk_X11_96 (q0 := 0) rfl rfl rfl hl.1 (rest := []) rfl (Nat.le_of_ble_eq_true rfl) ⟨by decide, by decide⟩ dX11_text_78 ⟨Nat.zero_le _, Nat.zero_le _⟩) (fun H locs hw => ?_)
        refine lv_aload_n hx hb dX11_text_81 rfl (lv_at hl 2 rfl) ?_
        refine gf_X11_59 S hE hw 42 rfl rfl dX11_text_82 ?_
        have hw := hw.u9
        obtain ⟨u_D_18, h_17, hf⟩ := tx_b1_e hf
        refine tx_cv hw (tx_runN S hE hw (c_X1_clear h_17) lk_X11_99 (q0 := 0) rfl rfl rfl hl.1 (rest := []) rfl (Nat.le_of_ble_eq_true rfl) ⟨by decide, by decide⟩ dX11_text_85 ⟨Nat.zero_le _, Nat.zero_le _⟩) (fun H locs hw => ?_)
        refine lv_aload_n hx hb dX11_text_88 rfl (lv_at hl 2 rfl) ?_
        refine lv_iconst (v := 0) hx hb dX11_text_89 (by decide) ?_
        obtain ⟨u_T_19, eu_T_19⟩ : ∃ z : S32, z = up2 u_T 0 10 (0 : Int32) := ⟨_, rfl⟩
        replace hf := tx_let_e hf eu_T_19
        refine pf_X11_100 (ws' := cl_X1 g a_D u_D_18 ++ (cl_X2 g a_F u_F_16 ++ (cl_X10 g a_W (a_B 0) p_W_16 u_W_14 ++ (cl_X0 g a_B (a_L 0) u_B_6 ++ (cl_X7 g a_Z (a_K 0) (a_R 0) (a_B 0) u_Z_5 ++ (cl_X5 g a_L u_L_7 v_L ++ (cl_X8 g a_K (a_P 0) u_K_8 ++ (cl_X6 g a_P u_P_11 ++ (cl_X4 g a_R (a_K 0) q_10 u_R_9 ++ (cl_X11 g a_T (a_P 0) (a_B 0) p_T_1 (a_Z 0) (a_W 0) p_T_5 p_T_6 (a_D 0) (a_F 0) p_T_9 u_T_19 ++ X)))))))))) S hE hw (by decide) (by decide) 46 rfl (Nat.le_of_ble_eq_true rfl) (by rw [eu_T_19]; rfl) dX11_text_90 (fun H locs hw => ?_)
        refine lv_aload_n hx hb dX11_text_93 rfl (lv_at hl 2 rfl) ?_
        refine gf_X11_21 S hE hw 46 rfl rfl dX11_text_94 ?_
        refine gf_X11_104 S hE hw 22 rfl rfl dX11_text_97 ?_
        have hw := hw.u1
        have hw := hw.u2
        have hw := hw.u8
        have hw := hw.u7
        have hw := hw.u7
        have hw := hw.u6
        have hw := hw.u7
        have hw := hw.u8
        have hw := hw.u9
        obtain ⟨e0, e1, e2, e3, e4, e5, e6, e7, e8, e9, e10, e11, e12, e13, e14, e15⟩ := tx_in16 hf
        rw [← e0, ← e1, ← e2, ← e3, ← e4, ← e5, ← e6, ← e7, ← e8, ← e9, ← e10, ← e11, ← e12, ← e13, ← e14, ← e15]
        exact tx_iret S hr hlk hw dX11_text_100
      · replace hf := tx_pos hf h_12
        refine lv_iconst (v := -1) hx hb dX11_text_43 (by decide) ?_
        have hw := hw.u9
        have hw := hw.u9
        have hw := hw.u9
        have hw := hw.u8
        have hw := hw.u7
        have hw := hw.u7
        have hw := hw.u7
        have hw := hw.u7
        have hw := hw.u8
        have hw := hw.u9
        obtain ⟨e0, e1, e2, e3, e4, e5, e6, e7, e8, e9, e10, e11, e12, e13, e14, e15⟩ := tx_in16 hf
        rw [← e0, ← e1, ← e2, ← e3, ← e4, ← e5, ← e6, ← e7, ← e8, ← e9, ← e10, ← e11, ← e12, ← e13, ← e14, ← e15]
        exact tx_iret S hr hlk hw dX11_text_44
    · replace hf := tx_neg hf h_2
      refine lv_bipush (v := -2) hx hb dX11_text_15 (by decide) ?_
      obtain ⟨e0, e1, e2, e3, e4, e5, e6, e7, e8, e9, e10, e11, e12, e13, e14, e15⟩ := tx_in16 hf
      rw [← e0, ← e1, ← e2, ← e3, ← e4, ← e5, ← e6, ← e7, ← e8, ← e9, ← e10, ← e11, ← e12, ← e13, ← e14, ← e15]
      exact tx_iret S hr hlk hw dX11_text_17
def f_X11_fault (fu : Nat) (u_T : S32) (u_Z : S32) (x1 : Int32) : Option (Int32) := if x1 = (0 : Int32) then (some (u_Z 0 2)) else if x1 = (1 : Int32) then (some (u_Z 0 3)) else (some (-1 : Int32))
set_option maxHeartbeats 4000000 in
set_option maxRecDepth 100000 in
theorem c_X11_fault {l : Launch} {g : GG} {A : Nat → Prop} {X : va_W} {fu : Nat} {a_T a_Z : Nat → Nat} {p_T_0 p_T_1 p_T_2 p_T_4 p_T_5 p_T_6 p_T_7 p_T_8 p_T_9 p_Z_0 p_Z_1 p_Z_4 : Nat} {u_T : S32} {u_Z : S32} {x1 : Int32} {r : Int32} (hf : f_X11_fault fu u_T u_Z x1 = some r) : MI l yX11_fault cX11_fault 2 (some .int) 0 g A (cl_X11 g a_T p_T_0 p_T_1 p_T_2 (a_Z 0) p_T_4 p_T_5 p_T_6 p_T_7 p_T_8 p_T_9 u_T ++ (cl_X7 g a_Z p_Z_0 p_Z_1 p_Z_4 u_Z ++ X)) [.ref (a_T 0), .int x1] r (cl_X11 g a_T p_T_0 p_T_1 p_T_2 (a_Z 0) p_T_4 p_T_5 p_T_6 p_T_7 p_T_8 p_T_9 u_T ++ (cl_X7 g a_Z p_Z_0 p_Z_1 p_Z_4 u_Z ++ X)) := by
  refine tx_start (av := [.ref (a_T 0), .int x1]) (by decide) (Nat.le_of_ble_eq_true rfl) ?_
  intro p e s m below meth c ls S hr hlk hE hw hl
  have S : CallFix p m c cX11_fault 2 s (List.toArray [.ref (a_T 0), .int x1]) (Cond.code yX11_fault cX11_fault 2 (some .int) :: allW) RX11 := S
  have hx := S.1
  have hb := S.2.1
  have hown := S.2.2.2.1
  have hts : ∀ w ∈ allW, w.before (List.toArray [.ref (a_T 0), .int x1]) s = true := fun w h => S.2.2.2.2 w (List.mem_cons_of_mem _ h)
  have hl : lv_has ls 2 [(0, .ref (a_T 0)), (1, .int x1)] := hl
  unfold f_X11_fault at hf
  refine lv_iload_n hx hb dX11_fault_0 rfl (lv_at hl 1 rfl) ?_
  by_cases h_1 : x1 = (0 : Int32)
  · replace hf := tx_pos hf h_1
    refine lv_lookup (off := 27) (tgt := 28) hx hb dX11_fault_1 (by decide) (by rw [h_1]; rfl) (by decide) ?_
    refine lv_aload_n hx hb dX11_fault_28 rfl (lv_at hl 0 rfl) ?_
    refine gf_X11_33 S hE hw 0 rfl rfl dX11_fault_29 ?_
    refine gf_X11_107 S hE hw 1 rfl rfl dX11_fault_32 ?_
    obtain e0 := tx_in1 hf
    rw [← e0]
    exact tx_iret S hr hlk hw dX11_fault_35
  replace hf := tx_neg hf h_1
  by_cases h_2 : x1 = (1 : Int32)
  · replace hf := tx_pos hf h_2
    refine lv_lookup (off := 35) (tgt := 36) hx hb dX11_fault_1 (by decide) (by rw [h_2]; rfl) (by decide) ?_
    refine lv_aload_n hx hb dX11_fault_36 rfl (lv_at hl 0 rfl) ?_
    refine gf_X11_33 S hE hw 0 rfl rfl dX11_fault_37 ?_
    refine gf_X11_110 S hE hw 1 rfl rfl dX11_fault_40 ?_
    obtain e0 := tx_in1 hf
    rw [← e0]
    exact tx_iret S hr hlk hw dX11_fault_43
  replace hf := tx_neg hf h_2
  have eh_1 : x1.toInt ≠ 0 := tx_ne h_1
  have eh_2 : x1.toInt ≠ 1 := tx_ne h_2
  refine lv_lookup (off := 43) (tgt := 44) hx hb dX11_fault_1 (by decide) (by simp [Op.lookupswitch.offset, eh_1, eh_1.symm, eh_2, eh_2.symm]) (by decide) ?_
  refine lv_iconst (v := -1) hx hb dX11_fault_44 (by decide) ?_
  obtain e0 := tx_in1 hf
  rw [← e0]
  exact tx_iret S hr hlk hw dX11_fault_45
def f_X11_named (fu : Nat) (u_T : S32) (u_B : S32) (x1 : Int32) (x2 : Int32) : Option (Int32) := if x1 = (0 : Int32) then (tx_b1 (f_X0_manNamed fu u_B x2) fun (r_3 : Int32) => some r_3) else if x1 = (1 : Int32) then (tx_b1 (f_X0_readerNamed fu u_B x2) fun (r_6 : Int32) => some r_6) else (some (-1 : Int32))
set_option maxHeartbeats 4000000 in
set_option maxRecDepth 100000 in
theorem c_X11_named {l : Launch} {g : GG} {A : Nat → Prop} {X : va_W} {fu : Nat} {a_T a_B : Nat → Nat} {p_T_0 p_T_2 p_T_3 p_T_4 p_T_5 p_T_6 p_T_7 p_T_8 p_T_9 p_B_17 : Nat} {u_T : S32} {u_B : S32} {x1 : Int32} {x2 : Int32} {r : Int32} (hf : f_X11_named fu u_T u_B x1 x2 = some r) : MI l yX11_named cX11_named 3 (some .int) 2 g A (cl_X11 g a_T p_T_0 (a_B 0) p_T_2 p_T_3 p_T_4 p_T_5 p_T_6 p_T_7 p_T_8 p_T_9 u_T ++ (cl_X0 g a_B p_B_17 u_B ++ X)) [.ref (a_T 0), .int x1, .int x2] r (cl_X11 g a_T p_T_0 (a_B 0) p_T_2 p_T_3 p_T_4 p_T_5 p_T_6 p_T_7 p_T_8 p_T_9 u_T ++ (cl_X0 g a_B p_B_17 u_B ++ X)) := by
  refine tx_start (av := [.ref (a_T 0), .int x1, .int x2]) (by decide) (Nat.le_of_ble_eq_true rfl) ?_
  intro p e s m below meth c ls S hr hlk hE hw hl
  have S : CallFix p m c cX11_named 3 s (List.toArray [.ref (a_T 0), .int x1, .int x2]) (Cond.code yX11_named cX11_named 3 (some .int) :: allW) RX11 := S
  have hx := S.1
  have hb := S.2.1
  have hown := S.2.2.2.1
  have hts : ∀ w ∈ allW, w.before (List.toArray [.ref (a_T 0), .int x1, .int x2]) s = true := fun w h => S.2.2.2.2 w (List.mem_cons_of_mem _ h)
  have hl : lv_has ls 3 [(0, .ref (a_T 0)), (1, .int x1), (2, .int x2)] := hl
  unfold f_X11_named at hf
  refine lv_iload_n hx hb dX11_named_0 rfl (lv_at hl 1 rfl) ?_
  by_cases h_1 : x1 = (0 : Int32)
  · replace hf := tx_pos hf h_1
    refine lv_lookup (off := 27) (tgt := 28) hx hb dX11_named_1 (by decide) (by rw [h_1]; rfl) (by decide) ?_
    refine lv_aload_n hx hb dX11_named_28 rfl (lv_at hl 0 rfl) ?_
    refine gf_X11_21 S hE hw 0 rfl rfl dX11_named_29 ?_
    refine lv_iload_n hx hb dX11_named_32 rfl (lv_at hl 2 rfl) ?_
    have hw := hw.u1
    obtain ⟨r_3, h_2, hf⟩ := tx_b1_e hf
    refine tx_ci hw (tx_runN S hE hw (c_X0_manNamed h_2) lk_X11_113 (q0 := 0) rfl rfl rfl hl.1 (rest := []) rfl (Nat.le_of_ble_eq_true rfl) ⟨by decide, by decide⟩ dX11_named_33 ⟨Nat.zero_le _, Nat.zero_le _⟩) (fun H locs hw => ?_)
    have hw := hw.u1
    obtain e0 := tx_in1 hf
    rw [← e0]
    exact tx_iret S hr hlk hw dX11_named_36
  replace hf := tx_neg hf h_1
  by_cases h_4 : x1 = (1 : Int32)
  · replace hf := tx_pos hf h_4
    refine lv_lookup (off := 36) (tgt := 37) hx hb dX11_named_1 (by decide) (by rw [h_4]; rfl) (by decide) ?_
    refine lv_aload_n hx hb dX11_named_37 rfl (lv_at hl 0 rfl) ?_
    refine gf_X11_21 S hE hw 0 rfl rfl dX11_named_38 ?_
    refine lv_iload_n hx hb dX11_named_41 rfl (lv_at hl 2 rfl) ?_
    have hw := hw.u1
    obtain ⟨r_6, h_5, hf⟩ := tx_b1_e hf
    refine tx_ci hw (tx_runN S hE hw (c_X0_readerNamed h_5) lk_X11_117 (q0 := 0) rfl rfl rfl hl.1 (rest := []) rfl (Nat.le_of_ble_eq_true rfl) ⟨by decide, by decide⟩ dX11_named_42 ⟨Nat.zero_le _, Nat.zero_le _⟩) (fun H locs hw => ?_)
    have hw := hw.u1
    obtain e0 := tx_in1 hf
    rw [← e0]
    exact tx_iret S hr hlk hw dX11_named_45
  replace hf := tx_neg hf h_4
  have eh_1 : x1.toInt ≠ 0 := tx_ne h_1
  have eh_4 : x1.toInt ≠ 1 := tx_ne h_4
  refine lv_lookup (off := 45) (tgt := 46) hx hb dX11_named_1 (by decide) (by simp [Op.lookupswitch.offset, eh_1, eh_1.symm, eh_4, eh_4.symm]) (by decide) ?_
  refine lv_iconst (v := -1) hx hb dX11_named_46 (by decide) ?_
  obtain e0 := tx_in1 hf
  rw [← e0]
  exact tx_iret S hr hlk hw dX11_named_47
def f_X0_isMan (fu : Nat) (u_T : S32) (x1 : Int32) : Option (Int32) := if x1 < (0 : Int32) then (some (0 : Int32)) else (if (u_T 0 1) ≤ x1 then (some (0 : Int32)) else (if (6 : Int32) ≤ x1 then (some (0 : Int32)) else (some (1 : Int32))))
set_option maxHeartbeats 4000000 in
set_option maxRecDepth 100000 in
theorem c_X0_isMan {l : Launch} {g : GG} {A : Nat → Prop} {X : va_W} {fu : Nat} {a_T : Nat → Nat} {p_T_17 : Nat} {u_T : S32} {x1 : Int32} {r : Int32} (hf : f_X0_isMan fu u_T x1 = some r) : MI l yX0_isMan cX0_isMan 2 (some .boolean) 0 g A (cl_X0 g a_T p_T_17 u_T ++ X) [.ref (a_T 0), .int x1] r (cl_X0 g a_T p_T_17 u_T ++ X) := by
  refine tx_start (av := [.ref (a_T 0), .int x1]) (by decide) (Nat.le_of_ble_eq_true rfl) ?_
  intro p e s m below meth c ls S hr hlk hE hw hl
  have S : CallFix p m c cX0_isMan 2 s (List.toArray [.ref (a_T 0), .int x1]) (Cond.code yX0_isMan cX0_isMan 2 (some .boolean) :: allW) RX0 := S
  have hx := S.1
  have hb := S.2.1
  have hown := S.2.2.2.1
  have hts : ∀ w ∈ allW, w.before (List.toArray [.ref (a_T 0), .int x1]) s = true := fun w h => S.2.2.2.2 w (List.mem_cons_of_mem _ h)
  have hl : lv_has ls 2 [(0, .ref (a_T 0)), (1, .int x1)] := hl
  unfold f_X0_isMan at hf
  refine lv_iload_n hx hb dX0_isMan_0 rfl (lv_at hl 1 rfl) ?_
  refine lv_if_lt (tgt := 22) hx hb dX0_isMan_1 (by decide) (fun h_1 => ?_) (fun h_1 => ?_)
  · replace hf := tx_pos hf h_1
    refine lv_iconst (v := 0) hx hb dX0_isMan_22 (by decide) ?_
    obtain e0 := tx_in1 hf
    rw [← e0]
    exact tx_zret S hr hlk (by decide) hw dX0_isMan_23
  · replace hf := tx_neg hf h_1
    refine lv_iload_n hx hb dX0_isMan_4 rfl (lv_at hl 1 rfl) ?_
    refine lv_aload_n hx hb dX0_isMan_5 rfl (lv_at hl 0 rfl) ?_
    refine gf_X0_59 S hE hw 0 rfl rfl dX0_isMan_6 ?_
    refine lv_icmp_ge (tgt := 22) hx hb dX0_isMan_9 (by decide) (fun h_2 => ?_) (fun h_2 => ?_)
    · replace hf := tx_pos hf h_2
      refine lv_iconst (v := 0) hx hb dX0_isMan_22 (by decide) ?_
      obtain e0 := tx_in1 hf
      rw [← e0]
      exact tx_zret S hr hlk (by decide) hw dX0_isMan_23
    · replace hf := tx_neg hf h_2
      refine lv_iload_n hx hb dX0_isMan_12 rfl (lv_at hl 1 rfl) ?_
      refine lv_bipush (v := 6) hx hb dX0_isMan_13 (by decide) ?_
      refine lv_icmp_ge (tgt := 22) hx hb dX0_isMan_15 (by decide) (fun h_3 => ?_) (fun h_3 => ?_)
      · replace hf := tx_pos hf h_3
        refine lv_iconst (v := 0) hx hb dX0_isMan_22 (by decide) ?_
        obtain e0 := tx_in1 hf
        rw [← e0]
        exact tx_zret S hr hlk (by decide) hw dX0_isMan_23
      · replace hf := tx_neg hf h_3
        refine lv_iconst (v := 1) hx hb dX0_isMan_18 (by decide) ?_
        refine lv_goto (tgt := 23) hx hb dX0_isMan_19 (by decide) ?_
        obtain e0 := tx_in1 hf
        rw [← e0]
        exact tx_zret S hr hlk (by decide) hw dX0_isMan_23
def f_X11_man (fu : Nat) (u_T : S32) (u_B : S32) (u_W : S32) (x1 : Int32) (x2 : Int32) : Option (Int32) := tx_b1 (f_X0_isMan fu u_B x1) fun (r_2 : Int32) => if r_2 = (0 : Int32) then (some (-1 : Int32)) else (if x2 = (0 : Int32) then (tx_ck x1 6 <| some (u_W 5 x1.toNatClampNeg)) else if x2 = (1 : Int32) then (tx_ck x1 6 <| some (u_W 6 x1.toNatClampNeg)) else if x2 = (2 : Int32) then (tx_ck x1 6 <| some (u_W 7 x1.toNatClampNeg)) else if x2 = (3 : Int32) then (tx_ck x1 6 <| some (u_W 8 x1.toNatClampNeg)) else if x2 = (4 : Int32) then (tx_ck x1 6 <| some (u_W 9 x1.toNatClampNeg)) else if x2 = (5 : Int32) then (tx_ck x1 6 <| some (u_W 10 x1.toNatClampNeg)) else (some (-1 : Int32)))
set_option maxHeartbeats 4000000 in
set_option maxRecDepth 100000 in
theorem c_X11_man {l : Launch} {g : GG} {A : Nat → Prop} {X : va_W} {fu : Nat} {a_T a_B a_W : Nat → Nat} {p_T_0 p_T_2 p_T_3 p_T_5 p_T_6 p_T_7 p_T_8 p_T_9 p_B_17 p_W_16 : Nat} {u_T : S32} {u_B : S32} {u_W : S32} {x1 : Int32} {x2 : Int32} {r : Int32} (hf : f_X11_man fu u_T u_B u_W x1 x2 = some r) : MI l yX11_man cX11_man 3 (some .int) 1 g A (cl_X11 g a_T p_T_0 (a_B 0) p_T_2 p_T_3 (a_W 0) p_T_5 p_T_6 p_T_7 p_T_8 p_T_9 u_T ++ (cl_X0 g a_B p_B_17 u_B ++ (cl_X10 g a_W (a_B 0) p_W_16 u_W ++ X))) [.ref (a_T 0), .int x1, .int x2] r (cl_X11 g a_T p_T_0 (a_B 0) p_T_2 p_T_3 (a_W 0) p_T_5 p_T_6 p_T_7 p_T_8 p_T_9 u_T ++ (cl_X0 g a_B p_B_17 u_B ++ (cl_X10 g a_W (a_B 0) p_W_16 u_W ++ X))) := by
  refine tx_start (av := [.ref (a_T 0), .int x1, .int x2]) (by decide) (Nat.le_of_ble_eq_true rfl) ?_
  intro p e s m below meth c ls S hr hlk hE hw hl
  have S : CallFix p m c cX11_man 3 s (List.toArray [.ref (a_T 0), .int x1, .int x2]) (Cond.code yX11_man cX11_man 3 (some .int) :: allW) RX11 := S
  have hx := S.1
  have hb := S.2.1
  have hown := S.2.2.2.1
  have hts : ∀ w ∈ allW, w.before (List.toArray [.ref (a_T 0), .int x1, .int x2]) s = true := fun w h => S.2.2.2.2 w (List.mem_cons_of_mem _ h)
  have hl : lv_has ls 3 [(0, .ref (a_T 0)), (1, .int x1), (2, .int x2)] := hl
  unfold f_X11_man at hf
  refine lv_aload_n hx hb dX11_man_0 rfl (lv_at hl 0 rfl) ?_
  refine gf_X11_21 S hE hw 0 rfl rfl dX11_man_1 ?_
  refine lv_iload_n hx hb dX11_man_4 rfl (lv_at hl 1 rfl) ?_
  have hw := hw.u1
  obtain ⟨r_2, h_1, hf⟩ := tx_b1_e hf
  refine tx_ci hw (tx_runN S hE hw (c_X0_isMan h_1) lk_X11_157 (q0 := 0) rfl rfl rfl hl.1 (rest := []) rfl (Nat.le_of_ble_eq_true rfl) ⟨by decide, by decide⟩ dX11_man_5 ⟨Nat.zero_le _, Nat.zero_le _⟩) (fun H locs hw => ?_)
  refine lv_if_ne (tgt := 13) hx hb dX11_man_8 (by decide) (fun h_3 => ?_) (fun h_3 => ?_)
  · replace hf := tx_neg hf h_3
    refine lv_iload_n hx hb dX11_man_13 rfl (lv_at hl 2 rfl) ?_
    by_cases h_4 : x2 = (0 : Int32)
    · replace hf := tx_pos hf h_4
      refine lv_tableIn (off := 38) (tgt := 52) hx hb dX11_man_14 (by rw [h_4]; decide) (by rw [h_4]; decide) (by rw [h_4]; rfl) (by decide) ?_
      refine lv_aload_n hx hb dX11_man_52 rfl (lv_at hl 0 rfl) ?_
      refine gf_X11_42 S hE hw 11 rfl rfl dX11_man_53 ?_
      refine gf_X11_160 S hE hw 12 rfl rfl dX11_man_56 ?_
      refine lv_iload_n hx hb dX11_man_59 rfl (lv_at hl 1 rfl) ?_
      obtain ⟨h_5, hf⟩ := tx_ck_e hf
      refine tx_iald S hE hw 13 rfl h_5 dX11_man_60 ?_
      have hw := hw.u2
      have hw := hw.u1
      have hw := hw.u2
      obtain e0 := tx_in1 hf
      rw [← e0]
      exact tx_iret S hr hlk hw dX11_man_61
    replace hf := tx_neg hf h_4
    by_cases h_6 : x2 = (1 : Int32)
    · replace hf := tx_pos hf h_6
      refine lv_tableIn (off := 48) (tgt := 62) hx hb dX11_man_14 (by rw [h_6]; decide) (by rw [h_6]; decide) (by rw [h_6]; rfl) (by decide) ?_
      refine lv_aload_n hx hb dX11_man_62 rfl (lv_at hl 0 rfl) ?_
      refine gf_X11_42 S hE hw 11 rfl rfl dX11_man_63 ?_
      refine gf_X11_163 S hE hw 12 rfl rfl dX11_man_66 ?_
      refine lv_iload_n hx hb dX11_man_69 rfl (lv_at hl 1 rfl) ?_
      obtain ⟨h_7, hf⟩ := tx_ck_e hf
      refine tx_iald S hE hw 14 rfl h_7 dX11_man_70 ?_
      have hw := hw.u2
      have hw := hw.u1
      have hw := hw.u2
      obtain e0 := tx_in1 hf
      rw [← e0]
      exact tx_iret S hr hlk hw dX11_man_71
    replace hf := tx_neg hf h_6
    by_cases h_8 : x2 = (2 : Int32)
    · replace hf := tx_pos hf h_8
      refine lv_tableIn (off := 58) (tgt := 72) hx hb dX11_man_14 (by rw [h_8]; decide) (by rw [h_8]; decide) (by rw [h_8]; rfl) (by decide) ?_
      refine lv_aload_n hx hb dX11_man_72 rfl (lv_at hl 0 rfl) ?_
      refine gf_X11_42 S hE hw 11 rfl rfl dX11_man_73 ?_
      refine gf_X11_166 S hE hw 12 rfl rfl dX11_man_76 ?_
      refine lv_iload_n hx hb dX11_man_79 rfl (lv_at hl 1 rfl) ?_
      obtain ⟨h_9, hf⟩ := tx_ck_e hf
      refine tx_iald S hE hw 15 rfl h_9 dX11_man_80 ?_
      have hw := hw.u2
      have hw := hw.u1
      have hw := hw.u2
      obtain e0 := tx_in1 hf
      rw [← e0]
      exact tx_iret S hr hlk hw dX11_man_81
    replace hf := tx_neg hf h_8
    by_cases h_10 : x2 = (3 : Int32)
    · replace hf := tx_pos hf h_10
      refine lv_tableIn (off := 68) (tgt := 82) hx hb dX11_man_14 (by rw [h_10]; decide) (by rw [h_10]; decide) (by rw [h_10]; rfl) (by decide) ?_
      refine lv_aload_n hx hb dX11_man_82 rfl (lv_at hl 0 rfl) ?_
      refine gf_X11_42 S hE hw 11 rfl rfl dX11_man_83 ?_
      refine gf_X11_169 S hE hw 12 rfl rfl dX11_man_86 ?_
      refine lv_iload_n hx hb dX11_man_89 rfl (lv_at hl 1 rfl) ?_
      obtain ⟨h_11, hf⟩ := tx_ck_e hf
      refine tx_iald S hE hw 16 rfl h_11 dX11_man_90 ?_
      have hw := hw.u2
      have hw := hw.u1
      have hw := hw.u2
      obtain e0 := tx_in1 hf
      rw [← e0]
      exact tx_iret S hr hlk hw dX11_man_91
    replace hf := tx_neg hf h_10
    by_cases h_12 : x2 = (4 : Int32)
    · replace hf := tx_pos hf h_12
      refine lv_tableIn (off := 78) (tgt := 92) hx hb dX11_man_14 (by rw [h_12]; decide) (by rw [h_12]; decide) (by rw [h_12]; rfl) (by decide) ?_
      refine lv_aload_n hx hb dX11_man_92 rfl (lv_at hl 0 rfl) ?_
      refine gf_X11_42 S hE hw 11 rfl rfl dX11_man_93 ?_
      refine gf_X11_172 S hE hw 12 rfl rfl dX11_man_96 ?_
      refine lv_iload_n hx hb dX11_man_99 rfl (lv_at hl 1 rfl) ?_
      obtain ⟨h_13, hf⟩ := tx_ck_e hf
      refine tx_iald S hE hw 17 rfl h_13 dX11_man_100 ?_
      have hw := hw.u2
      have hw := hw.u1
      have hw := hw.u2
      obtain e0 := tx_in1 hf
      rw [← e0]
      exact tx_iret S hr hlk hw dX11_man_101
    replace hf := tx_neg hf h_12
    by_cases h_14 : x2 = (5 : Int32)
    · replace hf := tx_pos hf h_14
      refine lv_tableIn (off := 88) (tgt := 102) hx hb dX11_man_14 (by rw [h_14]; decide) (by rw [h_14]; decide) (by rw [h_14]; rfl) (by decide) ?_
      refine lv_aload_n hx hb dX11_man_102 rfl (lv_at hl 0 rfl) ?_
      refine gf_X11_42 S hE hw 11 rfl rfl dX11_man_103 ?_
      refine gf_X11_175 S hE hw 12 rfl rfl dX11_man_106 ?_
      refine lv_iload_n hx hb dX11_man_109 rfl (lv_at hl 1 rfl) ?_
      obtain ⟨h_15, hf⟩ := tx_ck_e hf
      refine tx_iald S hE hw 18 rfl h_15 dX11_man_110 ?_
      have hw := hw.u2
      have hw := hw.u1
      have hw := hw.u2
      obtain e0 := tx_in1 hf
      rw [← e0]
      exact tx_iret S hr hlk hw dX11_man_111
    replace hf := tx_neg hf h_14
    have eh_4 : x2.toInt ≠ 0 := tx_ne h_4
    have eh_6 : x2.toInt ≠ 1 := tx_ne h_6
    have eh_8 : x2.toInt ≠ 2 := tx_ne h_8
    have eh_10 : x2.toInt ≠ 3 := tx_ne h_10
    have eh_12 : x2.toInt ≠ 4 := tx_ne h_12
    have eh_14 : x2.toInt ≠ 5 := tx_ne h_14
    refine lv_tableOut (tgt := 112) hx hb dX11_man_14 (by omega) (by decide) ?_
    refine lv_iconst (v := -1) hx hb dX11_man_112 (by decide) ?_
    have hw := hw.u2
    have hw := hw.u1
    have hw := hw.u2
    obtain e0 := tx_in1 hf
    rw [← e0]
    exact tx_iret S hr hlk hw dX11_man_113
  · replace hf := tx_pos hf h_3
    refine lv_iconst (v := -1) hx hb dX11_man_11 (by decide) ?_
    have hw := hw.u2
    have hw := hw.u1
    have hw := hw.u2
    obtain e0 := tx_in1 hf
    rw [← e0]
    exact tx_iret S hr hlk hw dX11_man_12
def f_X0_isReader (fu : Nat) (u_T : S32) (x1 : Int32) : Option (Int32) := if x1 < (0 : Int32) then (some (0 : Int32)) else (if (u_T 0 10) ≤ x1 then (some (0 : Int32)) else (if (4 : Int32) ≤ x1 then (some (0 : Int32)) else (some (1 : Int32))))
set_option maxHeartbeats 4000000 in
set_option maxRecDepth 100000 in
theorem c_X0_isReader {l : Launch} {g : GG} {A : Nat → Prop} {X : va_W} {fu : Nat} {a_T : Nat → Nat} {p_T_17 : Nat} {u_T : S32} {x1 : Int32} {r : Int32} (hf : f_X0_isReader fu u_T x1 = some r) : MI l yX0_isReader cX0_isReader 2 (some .boolean) 0 g A (cl_X0 g a_T p_T_17 u_T ++ X) [.ref (a_T 0), .int x1] r (cl_X0 g a_T p_T_17 u_T ++ X) := by
  refine tx_start (av := [.ref (a_T 0), .int x1]) (by decide) (Nat.le_of_ble_eq_true rfl) ?_
  intro p e s m below meth c ls S hr hlk hE hw hl
  have S : CallFix p m c cX0_isReader 2 s (List.toArray [.ref (a_T 0), .int x1]) (Cond.code yX0_isReader cX0_isReader 2 (some .boolean) :: allW) RX0 := S
  have hx := S.1
  have hb := S.2.1
  have hown := S.2.2.2.1
  have hts : ∀ w ∈ allW, w.before (List.toArray [.ref (a_T 0), .int x1]) s = true := fun w h => S.2.2.2.2 w (List.mem_cons_of_mem _ h)
  have hl : lv_has ls 2 [(0, .ref (a_T 0)), (1, .int x1)] := hl
  unfold f_X0_isReader at hf
  refine lv_iload_n hx hb dX0_isReader_0 rfl (lv_at hl 1 rfl) ?_
  refine lv_if_lt (tgt := 21) hx hb dX0_isReader_1 (by decide) (fun h_1 => ?_) (fun h_1 => ?_)
  · replace hf := tx_pos hf h_1
    refine lv_iconst (v := 0) hx hb dX0_isReader_21 (by decide) ?_
    obtain e0 := tx_in1 hf
    rw [← e0]
    exact tx_zret S hr hlk (by decide) hw dX0_isReader_22
  · replace hf := tx_neg hf h_1
    refine lv_iload_n hx hb dX0_isReader_4 rfl (lv_at hl 1 rfl) ?_
    refine lv_aload_n hx hb dX0_isReader_5 rfl (lv_at hl 0 rfl) ?_
    refine gf_X0_65 S hE hw 0 rfl rfl dX0_isReader_6 ?_
    refine lv_icmp_ge (tgt := 21) hx hb dX0_isReader_9 (by decide) (fun h_2 => ?_) (fun h_2 => ?_)
    · replace hf := tx_pos hf h_2
      refine lv_iconst (v := 0) hx hb dX0_isReader_21 (by decide) ?_
      obtain e0 := tx_in1 hf
      rw [← e0]
      exact tx_zret S hr hlk (by decide) hw dX0_isReader_22
    · replace hf := tx_neg hf h_2
      refine lv_iload_n hx hb dX0_isReader_12 rfl (lv_at hl 1 rfl) ?_
      refine lv_iconst (v := 4) hx hb dX0_isReader_13 (by decide) ?_
      refine lv_icmp_ge (tgt := 21) hx hb dX0_isReader_14 (by decide) (fun h_3 => ?_) (fun h_3 => ?_)
      · replace hf := tx_pos hf h_3
        refine lv_iconst (v := 0) hx hb dX0_isReader_21 (by decide) ?_
        obtain e0 := tx_in1 hf
        rw [← e0]
        exact tx_zret S hr hlk (by decide) hw dX0_isReader_22
      · replace hf := tx_neg hf h_3
        refine lv_iconst (v := 1) hx hb dX0_isReader_17 (by decide) ?_
        refine lv_goto (tgt := 22) hx hb dX0_isReader_18 (by decide) ?_
        obtain e0 := tx_in1 hf
        rw [← e0]
        exact tx_zret S hr hlk (by decide) hw dX0_isReader_22
def f_X11_reader (fu : Nat) (u_T : S32) (u_B : S32) (u_W : S32) (x1 : Int32) (x2 : Int32) : Option (Int32) := tx_b1 (f_X0_isReader fu u_B x1) fun (r_2 : Int32) => if r_2 = (0 : Int32) then (some (-1 : Int32)) else (if x2 = (0 : Int32) then (tx_ck x1 4 <| some (u_W 14 x1.toNatClampNeg)) else if x2 = (1 : Int32) then (tx_ck x1 4 <| some (u_W 15 x1.toNatClampNeg)) else (some (-1 : Int32)))
set_option maxHeartbeats 4000000 in
set_option maxRecDepth 100000 in
theorem c_X11_reader {l : Launch} {g : GG} {A : Nat → Prop} {X : va_W} {fu : Nat} {a_T a_B a_W : Nat → Nat} {p_T_0 p_T_2 p_T_3 p_T_5 p_T_6 p_T_7 p_T_8 p_T_9 p_B_17 p_W_16 : Nat} {u_T : S32} {u_B : S32} {u_W : S32} {x1 : Int32} {x2 : Int32} {r : Int32} (hf : f_X11_reader fu u_T u_B u_W x1 x2 = some r) : MI l yX11_reader cX11_reader 3 (some .int) 1 g A (cl_X11 g a_T p_T_0 (a_B 0) p_T_2 p_T_3 (a_W 0) p_T_5 p_T_6 p_T_7 p_T_8 p_T_9 u_T ++ (cl_X0 g a_B p_B_17 u_B ++ (cl_X10 g a_W (a_B 0) p_W_16 u_W ++ X))) [.ref (a_T 0), .int x1, .int x2] r (cl_X11 g a_T p_T_0 (a_B 0) p_T_2 p_T_3 (a_W 0) p_T_5 p_T_6 p_T_7 p_T_8 p_T_9 u_T ++ (cl_X0 g a_B p_B_17 u_B ++ (cl_X10 g a_W (a_B 0) p_W_16 u_W ++ X))) := by
  refine tx_start (av := [.ref (a_T 0), .int x1, .int x2]) (by decide) (Nat.le_of_ble_eq_true rfl) ?_
  intro p e s m below meth c ls S hr hlk hE hw hl
  have S : CallFix p m c cX11_reader 3 s (List.toArray [.ref (a_T 0), .int x1, .int x2]) (Cond.code yX11_reader cX11_reader 3 (some .int) :: allW) RX11 := S
  have hx := S.1
  have hb := S.2.1
  have hown := S.2.2.2.1
  have hts : ∀ w ∈ allW, w.before (List.toArray [.ref (a_T 0), .int x1, .int x2]) s = true := fun w h => S.2.2.2.2 w (List.mem_cons_of_mem _ h)
  have hl : lv_has ls 3 [(0, .ref (a_T 0)), (1, .int x1), (2, .int x2)] := hl
  unfold f_X11_reader at hf
  refine lv_aload_n hx hb dX11_reader_0 rfl (lv_at hl 0 rfl) ?_
  refine gf_X11_21 S hE hw 0 rfl rfl dX11_reader_1 ?_
  refine lv_iload_n hx hb dX11_reader_4 rfl (lv_at hl 1 rfl) ?_
  have hw := hw.u1
  obtain ⟨r_2, h_1, hf⟩ := tx_b1_e hf
  refine tx_ci hw (tx_runN S hE hw (c_X0_isReader h_1) lk_X11_178 (q0 := 0) rfl rfl rfl hl.1 (rest := []) rfl (Nat.le_of_ble_eq_true rfl) ⟨by decide, by decide⟩ dX11_reader_5 ⟨Nat.zero_le _, Nat.zero_le _⟩) (fun H locs hw => ?_)
  refine lv_if_ne (tgt := 13) hx hb dX11_reader_8 (by decide) (fun h_3 => ?_) (fun h_3 => ?_)
  · replace hf := tx_neg hf h_3
    refine lv_iload_n hx hb dX11_reader_13 rfl (lv_at hl 2 rfl) ?_
    by_cases h_4 : x2 = (0 : Int32)
    · replace hf := tx_pos hf h_4
      refine lv_lookup (off := 26) (tgt := 40) hx hb dX11_reader_14 (by decide) (by rw [h_4]; rfl) (by decide) ?_
      refine lv_aload_n hx hb dX11_reader_40 rfl (lv_at hl 0 rfl) ?_
      refine gf_X11_42 S hE hw 11 rfl rfl dX11_reader_41 ?_
      refine gf_X11_181 S hE hw 12 rfl rfl dX11_reader_44 ?_
      refine lv_iload_n hx hb dX11_reader_47 rfl (lv_at hl 1 rfl) ?_
      obtain ⟨h_5, hf⟩ := tx_ck_e hf
      refine tx_iald S hE hw 22 rfl h_5 dX11_reader_48 ?_
      have hw := hw.u2
      have hw := hw.u1
      have hw := hw.u2
      obtain e0 := tx_in1 hf
      rw [← e0]
      exact tx_iret S hr hlk hw dX11_reader_49
    replace hf := tx_neg hf h_4
    by_cases h_6 : x2 = (1 : Int32)
    · replace hf := tx_pos hf h_6
      refine lv_lookup (off := 36) (tgt := 50) hx hb dX11_reader_14 (by decide) (by rw [h_6]; rfl) (by decide) ?_
      refine lv_aload_n hx hb dX11_reader_50 rfl (lv_at hl 0 rfl) ?_
      refine gf_X11_42 S hE hw 11 rfl rfl dX11_reader_51 ?_
      refine gf_X11_184 S hE hw 12 rfl rfl dX11_reader_54 ?_
      refine lv_iload_n hx hb dX11_reader_57 rfl (lv_at hl 1 rfl) ?_
      obtain ⟨h_7, hf⟩ := tx_ck_e hf
      refine tx_iald S hE hw 23 rfl h_7 dX11_reader_58 ?_
      have hw := hw.u2
      have hw := hw.u1
      have hw := hw.u2
      obtain e0 := tx_in1 hf
      rw [← e0]
      exact tx_iret S hr hlk hw dX11_reader_59
    replace hf := tx_neg hf h_6
    have eh_4 : x2.toInt ≠ 0 := tx_ne h_4
    have eh_6 : x2.toInt ≠ 1 := tx_ne h_6
    refine lv_lookup (off := 46) (tgt := 60) hx hb dX11_reader_14 (by decide) (by simp [Op.lookupswitch.offset, eh_4, eh_4.symm, eh_6, eh_6.symm]) (by decide) ?_
    refine lv_iconst (v := -1) hx hb dX11_reader_60 (by decide) ?_
    have hw := hw.u2
    have hw := hw.u1
    have hw := hw.u2
    obtain e0 := tx_in1 hf
    rw [← e0]
    exact tx_iret S hr hlk hw dX11_reader_61
  · replace hf := tx_pos hf h_3
    refine lv_iconst (v := -1) hx hb dX11_reader_11 (by decide) ?_
    have hw := hw.u2
    have hw := hw.u1
    have hw := hw.u2
    obtain e0 := tx_in1 hf
    rw [← e0]
    exact tx_iret S hr hlk hw dX11_reader_12
def f_X0_isThought (fu : Nat) (u_T : S32) (x1 : Int32) : Option (Int32) := if x1 < (0 : Int32) then (some (0 : Int32)) else (if (u_T 0 5) ≤ x1 then (some (0 : Int32)) else (if (12 : Int32) ≤ x1 then (some (0 : Int32)) else (some (1 : Int32))))
set_option maxHeartbeats 4000000 in
set_option maxRecDepth 100000 in
theorem c_X0_isThought {l : Launch} {g : GG} {A : Nat → Prop} {X : va_W} {fu : Nat} {a_T : Nat → Nat} {p_T_17 : Nat} {u_T : S32} {x1 : Int32} {r : Int32} (hf : f_X0_isThought fu u_T x1 = some r) : MI l yX0_isThought cX0_isThought 2 (some .boolean) 0 g A (cl_X0 g a_T p_T_17 u_T ++ X) [.ref (a_T 0), .int x1] r (cl_X0 g a_T p_T_17 u_T ++ X) := by
  refine tx_start (av := [.ref (a_T 0), .int x1]) (by decide) (Nat.le_of_ble_eq_true rfl) ?_
  intro p e s m below meth c ls S hr hlk hE hw hl
  have S : CallFix p m c cX0_isThought 2 s (List.toArray [.ref (a_T 0), .int x1]) (Cond.code yX0_isThought cX0_isThought 2 (some .boolean) :: allW) RX0 := S
  have hx := S.1
  have hb := S.2.1
  have hown := S.2.2.2.1
  have hts : ∀ w ∈ allW, w.before (List.toArray [.ref (a_T 0), .int x1]) s = true := fun w h => S.2.2.2.2 w (List.mem_cons_of_mem _ h)
  have hl : lv_has ls 2 [(0, .ref (a_T 0)), (1, .int x1)] := hl
  unfold f_X0_isThought at hf
  refine lv_iload_n hx hb dX0_isThought_0 rfl (lv_at hl 1 rfl) ?_
  refine lv_if_lt (tgt := 22) hx hb dX0_isThought_1 (by decide) (fun h_1 => ?_) (fun h_1 => ?_)
  · replace hf := tx_pos hf h_1
    refine lv_iconst (v := 0) hx hb dX0_isThought_22 (by decide) ?_
    obtain e0 := tx_in1 hf
    rw [← e0]
    exact tx_zret S hr hlk (by decide) hw dX0_isThought_23
  · replace hf := tx_neg hf h_1
    refine lv_iload_n hx hb dX0_isThought_4 rfl (lv_at hl 1 rfl) ?_
    refine lv_aload_n hx hb dX0_isThought_5 rfl (lv_at hl 0 rfl) ?_
    refine gf_X0_62 S hE hw 0 rfl rfl dX0_isThought_6 ?_
    refine lv_icmp_ge (tgt := 22) hx hb dX0_isThought_9 (by decide) (fun h_2 => ?_) (fun h_2 => ?_)
    · replace hf := tx_pos hf h_2
      refine lv_iconst (v := 0) hx hb dX0_isThought_22 (by decide) ?_
      obtain e0 := tx_in1 hf
      rw [← e0]
      exact tx_zret S hr hlk (by decide) hw dX0_isThought_23
    · replace hf := tx_neg hf h_2
      refine lv_iload_n hx hb dX0_isThought_12 rfl (lv_at hl 1 rfl) ?_
      refine lv_bipush (v := 12) hx hb dX0_isThought_13 (by decide) ?_
      refine lv_icmp_ge (tgt := 22) hx hb dX0_isThought_15 (by decide) (fun h_3 => ?_) (fun h_3 => ?_)
      · replace hf := tx_pos hf h_3
        refine lv_iconst (v := 0) hx hb dX0_isThought_22 (by decide) ?_
        obtain e0 := tx_in1 hf
        rw [← e0]
        exact tx_zret S hr hlk (by decide) hw dX0_isThought_23
      · replace hf := tx_neg hf h_3
        refine lv_iconst (v := 1) hx hb dX0_isThought_18 (by decide) ?_
        refine lv_goto (tgt := 23) hx hb dX0_isThought_19 (by decide) ?_
        obtain e0 := tx_in1 hf
        rw [← e0]
        exact tx_zret S hr hlk (by decide) hw dX0_isThought_23
