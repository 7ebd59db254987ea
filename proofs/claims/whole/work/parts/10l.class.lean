def f_X2_agrees_J81 (fu : Nat) (u_T : S32) (u_Wa : S32) (u_B : S32) (K2 : Int32 → Int32 → Option (Int32)) (w2 : Int32) (w3 : Int32) : Option (Int32) := tx_let (w3 + (1 : Int32)) fun (y_17 : Int32) => K2 w2 y_17
def f_X2_agrees_J76 (fu : Nat) (u_T : S32) (u_Wa : S32) (u_B : S32) (K2 : Int32 → Int32 → Option (Int32)) (w2 : Int32) (w3 : Int32) (t0 : Int32) (t1 : Int32) : Option (Int32) := if t0 = t1 then (f_X2_agrees_J81 fu u_T u_Wa u_B K2 w2 w3) else (some (0 : Int32))
def f_X2_agrees_J2 (fu : Nat) (u_T : S32) (u_Wa : S32) (u_B : S32) (K2 : Int32 → Int32 → Option (Int32)) (w2 : Int32) (w3 : Int32) : Option (Int32) := if (u_T 0 5) ≤ w3 then (some (1 : Int32)) else (if (24 : Int32) ≤ w3 then (some (1 : Int32)) else (tx_b1 (f_X2_isKnown fu u_T w3) fun (r_4 : Int32) => if r_4 = (0 : Int32) then (f_X2_agrees_J81 fu u_T u_Wa u_B K2 w2 w3) else (tx_ck w3 24 <| if (u_T 1 w3.toNatClampNeg) = w2 then (tx_ck w3 24 <| tx_b1 (f_X0_isThought fu u_B (u_T 2 w3.toNatClampNeg)) fun (r_10 : Int32) => if r_10 = (0 : Int32) then (f_X2_agrees_J81 fu u_T u_Wa u_B K2 w2 w3) else (tx_ck w3 24 <| tx_ck w3 24 <| tx_ck (u_T 2 w3.toNatClampNeg) 12 <| if (u_Wa 13 (u_T 2 w3.toNatClampNeg).toNatClampNeg) = (1 : Int32) then (f_X2_agrees_J76 fu u_T u_Wa u_B K2 w2 w3 (u_T 3 w3.toNatClampNeg) (1 : Int32)) else (f_X2_agrees_J76 fu u_T u_Wa u_B K2 w2 w3 (u_T 3 w3.toNatClampNeg) (0 : Int32)))) else (f_X2_agrees_J81 fu u_T u_Wa u_B K2 w2 w3))))
def f_X2_agrees_L2 (fu : Nat) (u_T : S32) (u_Wa : S32) (u_B : S32) : Nat → Int32 → Int32 → Option (Int32)
  | 0 => fun _ _ => none
  | n + 1 => f_X2_agrees_J2 fu u_T u_Wa u_B (f_X2_agrees_L2 fu u_T u_Wa u_B n)
def f_X2_agrees (fu : Nat) (u_T : S32) (u_Wa : S32) (u_B : S32) (x2 : Int32) : Option (Int32) := f_X2_agrees_L2 fu u_T u_Wa u_B fu x2 (0 : Int32)
set_option maxHeartbeats 4000000 in
set_option maxRecDepth 100000 in
theorem c_X2_agrees {l : Launch} {g : GG} {A : Nat → Prop} {X : va_W} {fu : Nat} {a_T a_Wa a_B : Nat → Nat} {p_Wa_16 p_B_17 : Nat} {u_T : S32} {u_Wa : S32} {u_B : S32} {x2 : Int32} {r : Int32} (hf : f_X2_agrees fu u_T u_Wa u_B x2 = some r) : MI l yX2_agrees cX2_agrees 4 (some .boolean) 3 g A (cl_X2 g a_T u_T ++ (cl_X10 g a_Wa (a_B 0) p_Wa_16 u_Wa ++ (cl_X0 g a_B p_B_17 u_B ++ X))) [.ref (a_T 0), .ref (a_Wa 0), .int x2] r (cl_X2 g a_T u_T ++ (cl_X10 g a_Wa (a_B 0) p_Wa_16 u_Wa ++ (cl_X0 g a_B p_B_17 u_B ++ X))) := by
  refine tx_start (av := [.ref (a_T 0), .ref (a_Wa 0), .int x2]) (by decide) (Nat.le_of_ble_eq_true rfl) ?_
  intro p e s m below meth c ls S hr hlk hE hw hl
  have S : CallFix p m c cX2_agrees 4 s (List.toArray [.ref (a_T 0), .ref (a_Wa 0), .int x2]) (Cond.code yX2_agrees cX2_agrees 4 (some .boolean) :: allW) RX2 := S
  have hx := S.1
  have hb := S.2.1
  have hown := S.2.2.2.1
  have hts : ∀ w ∈ allW, w.before (List.toArray [.ref (a_T 0), .ref (a_Wa 0), .int x2]) s = true := fun w h => S.2.2.2.2 w (List.mem_cons_of_mem _ h)
  have hl : lv_has ls 4 [(0, .ref (a_T 0)), (1, .ref (a_Wa 0)), (2, .int x2)] := hl
  have J81 : ∀ {K2 : Int32 → Int32 → Option (Int32)} (hK2 : ∀ {w2 : Int32} {w3 : Int32} {H : Heap} {locs : List Loc} {ls : Array Slot}, K2 w2 w3 = some r → WD g A s.heap (cl_X2 g a_T u_T ++ (cl_X10 g a_Wa (a_B 0) p_Wa_16 u_Wa ++ (cl_X0 g a_B p_B_17 u_B ++ X))) H locs → lv_has ls 4 [(0, .ref (a_T 0)), (1, .ref (a_Wa 0)), (2, .int w2), (3, .int w3)] → W p l e (rmH 3) s m (List.toArray [.ref (a_T 0), .ref (a_Wa 0), .int x2]) below meth c H locs 0 0 (MQ below (va_Qi (fun r2 (_ : Unit) => r2 = r) (fun _ t => POST g A (cl_X2 g a_T u_T ++ (cl_X10 g a_Wa (a_B 0) p_Wa_16 u_Wa ++ (cl_X0 g a_B p_B_17 u_B ++ X))) t) A) (List.toArray [.ref (a_T 0), .ref (a_Wa 0), .int x2]) s 0 0 A) (F0 m 2 ls [])), ∀ {w2 : Int32} {w3 : Int32} {H : Heap} {locs : List Loc} {ls : Array Slot}, f_X2_agrees_J81 fu u_T u_Wa u_B K2 w2 w3 = some r → WD g A s.heap (cl_X2 g a_T u_T ++ (cl_X10 g a_Wa (a_B 0) p_Wa_16 u_Wa ++ (cl_X0 g a_B p_B_17 u_B ++ X))) H locs → lv_has ls 4 [(0, .ref (a_T 0)), (1, .ref (a_Wa 0)), (2, .int w2), (3, .int w3)] → W p l e (rmH 3) s m (List.toArray [.ref (a_T 0), .ref (a_Wa 0), .int x2]) below meth c H locs 0 0 (MQ below (va_Qi (fun r2 (_ : Unit) => r2 = r) (fun _ t => POST g A (cl_X2 g a_T u_T ++ (cl_X10 g a_Wa (a_B 0) p_Wa_16 u_Wa ++ (cl_X0 g a_B p_B_17 u_B ++ X))) t) A) (List.toArray [.ref (a_T 0), .ref (a_Wa 0), .int x2]) s 0 0 A) (F0 m 81 ls []) := by
    intro K2 hK2 w2 w3 H locs ls hf hw hl
    unfold f_X2_agrees_J81 at hf
    obtain ⟨y_17, ey_17⟩ : ∃ y : Int32, y = w3 + (1 : Int32) := ⟨_, rfl⟩
    replace hf := tx_let_e hf ey_17
    refine lv_iinc (v := y_17) (lv' := [(3, .int y_17), (0, .ref (a_T 0)), (1, .ref (a_Wa 0)), (2, .int w2)]) hx hb dX2_agrees_81 hl (k := 3) rfl (by rw [ey_17]; rfl) (by decide) rfl (fun ls hl => ?_)
    refine lv_goto (tgt := 2) hx hb dX2_agrees_84 (by decide) ?_
    exact hK2 hf hw (lv_sub hl [1, 2, 3, 0] rfl)
  have J76 : ∀ {K2 : Int32 → Int32 → Option (Int32)} (hK2 : ∀ {w2 : Int32} {w3 : Int32} {H : Heap} {locs : List Loc} {ls : Array Slot}, K2 w2 w3 = some r → WD g A s.heap (cl_X2 g a_T u_T ++ (cl_X10 g a_Wa (a_B 0) p_Wa_16 u_Wa ++ (cl_X0 g a_B p_B_17 u_B ++ X))) H locs → lv_has ls 4 [(0, .ref (a_T 0)), (1, .ref (a_Wa 0)), (2, .int w2), (3, .int w3)] → W p l e (rmH 3) s m (List.toArray [.ref (a_T 0), .ref (a_Wa 0), .int x2]) below meth c H locs 0 0 (MQ below (va_Qi (fun r2 (_ : Unit) => r2 = r) (fun _ t => POST g A (cl_X2 g a_T u_T ++ (cl_X10 g a_Wa (a_B 0) p_Wa_16 u_Wa ++ (cl_X0 g a_B p_B_17 u_B ++ X))) t) A) (List.toArray [.ref (a_T 0), .ref (a_Wa 0), .int x2]) s 0 0 A) (F0 m 2 ls [])), ∀ {w2 : Int32} {w3 : Int32} {t0 : Int32} {t1 : Int32} {H : Heap} {locs : List Loc} {ls : Array Slot}, f_X2_agrees_J76 fu u_T u_Wa u_B K2 w2 w3 t0 t1 = some r → WD g A s.heap (cl_X2 g a_T u_T ++ (cl_X10 g a_Wa (a_B 0) p_Wa_16 u_Wa ++ (cl_X0 g a_B p_B_17 u_B ++ X))) H locs → lv_has ls 4 [(0, .ref (a_T 0)), (1, .ref (a_Wa 0)), (2, .int w2), (3, .int w3)] → W p l e (rmH 3) s m (List.toArray [.ref (a_T 0), .ref (a_Wa 0), .int x2]) below meth c H locs 0 0 (MQ below (va_Qi (fun r2 (_ : Unit) => r2 = r) (fun _ t => POST g A (cl_X2 g a_T u_T ++ (cl_X10 g a_Wa (a_B 0) p_Wa_16 u_Wa ++ (cl_X0 g a_B p_B_17 u_B ++ X))) t) A) (List.toArray [.ref (a_T 0), .ref (a_Wa 0), .int x2]) s 0 0 A) (F0 m 76 ls [.int t1, .int t0]) := by
    intro K2 hK2 w2 w3 t0 t1 H locs ls hf hw hl
    unfold f_X2_agrees_J76 at hf
    refine lv_icmp_eq (tgt := 81) hx hb dX2_agrees_76 (by decide) (fun h_16 => ?_) (fun h_16 => ?_)
    · replace hf := tx_pos hf h_16
      exact J81 hK2 hf hw (lv_sub hl [0, 1, 2, 3] rfl)
    · replace hf := tx_neg hf h_16
      refine lv_iconst (v := 0) hx hb dX2_agrees_79 (by decide) ?_
      obtain e0 := tx_in1 hf
      rw [← e0]
      exact tx_zret S hr hlk (by decide) hw dX2_agrees_80
  have J2 : ∀ {K2 : Int32 → Int32 → Option (Int32)} (hK2 : ∀ {w2 : Int32} {w3 : Int32} {H : Heap} {locs : List Loc} {ls : Array Slot}, K2 w2 w3 = some r → WD g A s.heap (cl_X2 g a_T u_T ++ (cl_X10 g a_Wa (a_B 0) p_Wa_16 u_Wa ++ (cl_X0 g a_B p_B_17 u_B ++ X))) H locs → lv_has ls 4 [(0, .ref (a_T 0)), (1, .ref (a_Wa 0)), (2, .int w2), (3, .int w3)] → W p l e (rmH 3) s m (List.toArray [.ref (a_T 0), .ref (a_Wa 0), .int x2]) below meth c H locs 0 0 (MQ below (va_Qi (fun r2 (_ : Unit) => r2 = r) (fun _ t => POST g A (cl_X2 g a_T u_T ++ (cl_X10 g a_Wa (a_B 0) p_Wa_16 u_Wa ++ (cl_X0 g a_B p_B_17 u_B ++ X))) t) A) (List.toArray [.ref (a_T 0), .ref (a_Wa 0), .int x2]) s 0 0 A) (F0 m 2 ls [])), ∀ {w2 : Int32} {w3 : Int32} {H : Heap} {locs : List Loc} {ls : Array Slot}, f_X2_agrees_J2 fu u_T u_Wa u_B K2 w2 w3 = some r → WD g A s.heap (cl_X2 g a_T u_T ++ (cl_X10 g a_Wa (a_B 0) p_Wa_16 u_Wa ++ (cl_X0 g a_B p_B_17 u_B ++ X))) H locs → lv_has ls 4 [(0, .ref (a_T 0)), (1, .ref (a_Wa 0)), (2, .int w2), (3, .int w3)] → W p l e (rmH 3) s m (List.toArray [.ref (a_T 0), .ref (a_Wa 0), .int x2]) below meth c H locs 0 0 (MQ below (va_Qi (fun r2 (_ : Unit) => r2 = r) (fun _ t => POST g A (cl_X2 g a_T u_T ++ (cl_X10 g a_Wa (a_B 0) p_Wa_16 u_Wa ++ (cl_X0 g a_B p_B_17 u_B ++ X))) t) A) (List.toArray [.ref (a_T 0), .ref (a_Wa 0), .int x2]) s 0 0 A) (F0 m 2 ls []) := by
    intro K2 hK2 w2 w3 H locs ls hf hw hl
    unfold f_X2_agrees_J2 at hf
    refine lv_iload_n hx hb dX2_agrees_2 rfl (lv_at hl 3 rfl) ?_
    refine lv_aload_n hx hb dX2_agrees_3 rfl (lv_at hl 0 rfl) ?_
    refine gf_X2_32 S hE hw 0 rfl rfl dX2_agrees_4 ?_
    refine lv_icmp_ge (tgt := 87) hx hb dX2_agrees_7 (by decide) (fun h_1 => ?_) (fun h_1 => ?_)
    · replace hf := tx_pos hf h_1
      refine lv_iconst (v := 1) hx hb dX2_agrees_87 (by decide) ?_
      obtain e0 := tx_in1 hf
      rw [← e0]
      exact tx_zret S hr hlk (by decide) hw dX2_agrees_88
    · replace hf := tx_neg hf h_1
      refine lv_iload_n hx hb dX2_agrees_10 rfl (lv_at hl 3 rfl) ?_
      refine lv_bipush (v := 24) hx hb dX2_agrees_11 (by decide) ?_
      refine lv_icmp_ge (tgt := 87) hx hb dX2_agrees_13 (by decide) (fun h_2 => ?_) (fun h_2 => ?_)
      · replace hf := tx_pos hf h_2
        refine lv_iconst (v := 1) hx hb dX2_agrees_87 (by decide) ?_
        obtain e0 := tx_in1 hf
        rw [← e0]
        exact tx_zret S hr hlk (by decide) hw dX2_agrees_88
      · replace hf := tx_neg hf h_2
        refine lv_aload_n hx hb dX2_agrees_16 rfl (lv_at hl 0 rfl) ?_
        refine lv_iload_n hx hb dX2_agrees_17 rfl (lv_at hl 3 rfl) ?_
        obtain ⟨r_4, h_3, hf⟩ := tx_b1_e hf
        refine tx_ci hw (tx_runV S hE hw (c_X2_isKnown h_3) lk_X2_49 (q0 := 0) rfl rfl rfl hl.1 (rest := []) rfl (Nat.le_of_ble_eq_true rfl) ⟨by decide, by decide⟩ dX2_agrees_18 ⟨Nat.zero_le _, Nat.zero_le _⟩) (fun H locs hw => ?_)
        refine lv_if_eq (tgt := 81) hx hb dX2_agrees_21 (by decide) (fun h_5 => ?_) (fun h_5 => ?_)
        · replace hf := tx_pos hf h_5
          exact J81 hK2 hf hw (lv_sub hl [0, 1, 2, 3] rfl)
        · replace hf := tx_neg hf h_5
          refine lv_aload_n hx hb dX2_agrees_24 rfl (lv_at hl 0 rfl) ?_
          refine gf_X2_11 S hE hw 0 rfl rfl dX2_agrees_25 ?_
          refine lv_iload_n hx hb dX2_agrees_28 rfl (lv_at hl 3 rfl) ?_
          obtain ⟨h_6, hf⟩ := tx_ck_e hf
          refine tx_iald S hE hw 1 rfl h_6 dX2_agrees_29 ?_
          refine lv_iload_n hx hb dX2_agrees_30 rfl (lv_at hl 2 rfl) ?_
          refine lv_icmp_ne (tgt := 81) hx hb dX2_agrees_31 (by decide) (fun h_7 => ?_) (fun h_7 => ?_)
          · replace hf := tx_neg hf h_7
            exact J81 hK2 hf hw (lv_sub hl [0, 1, 2, 3] rfl)
          · replace hf := tx_pos hf h_7
            refine lv_aload_n hx hb dX2_agrees_34 rfl (lv_at hl 1 rfl) ?_
            refine gf_X2_56 S hE hw 6 rfl rfl dX2_agrees_35 ?_
            refine lv_aload_n hx hb dX2_agrees_38 rfl (lv_at hl 0 rfl) ?_
            refine gf_X2_15 S hE hw 0 rfl rfl dX2_agrees_39 ?_
            refine lv_iload_n hx hb dX2_agrees_42 rfl (lv_at hl 3 rfl) ?_
            obtain ⟨h_8, hf⟩ := tx_ck_e hf
            refine tx_iald S hE hw 2 rfl h_8 dX2_agrees_43 ?_
            have hw := hw.u2
            obtain ⟨r_10, h_9, hf⟩ := tx_b1_e hf
            refine tx_ci hw (tx_runN S hE hw (c_X0_isThought h_9) lk_X2_62 (q0 := 0) rfl rfl rfl hl.1 (rest := []) rfl (Nat.le_of_ble_eq_true rfl) ⟨by decide, by decide⟩ dX2_agrees_44 ⟨Nat.zero_le _, Nat.zero_le _⟩) (fun H locs hw => ?_)
            refine lv_if_eq (tgt := 81) hx hb dX2_agrees_47 (by decide) (fun h_11 => ?_) (fun h_11 => ?_)
            · replace hf := tx_pos hf h_11
              have hw := hw.u2
              have hw := hw.u2
              exact J81 hK2 hf hw (lv_sub hl [0, 1, 2, 3] rfl)
            · replace hf := tx_neg hf h_11
              refine lv_aload_n hx hb dX2_agrees_50 rfl (lv_at hl 0 rfl) ?_
              refine gf_X2_18 S hE hw 11 rfl rfl dX2_agrees_51 ?_
              refine lv_iload_n hx hb dX2_agrees_54 rfl (lv_at hl 3 rfl) ?_
              obtain ⟨h_12, hf⟩ := tx_ck_e hf
              refine tx_zald S hE hw 14 rfl h_12 dX2_agrees_55 ?_
              refine lv_aload_n hx hb dX2_agrees_56 rfl (lv_at hl 1 rfl) ?_
              refine gf_X2_67 S hE hw 17 rfl rfl dX2_agrees_57 ?_
              refine lv_aload_n hx hb dX2_agrees_60 rfl (lv_at hl 0 rfl) ?_
              refine gf_X2_15 S hE hw 11 rfl rfl dX2_agrees_61 ?_
              refine lv_iload_n hx hb dX2_agrees_64 rfl (lv_at hl 3 rfl) ?_
              obtain ⟨h_13, hf⟩ := tx_ck_e hf
              refine tx_iald S hE hw 13 rfl h_13 dX2_agrees_65 ?_
              obtain ⟨h_14, hf⟩ := tx_ck_e hf
              refine tx_iald S hE hw 26 rfl h_14 dX2_agrees_66 ?_
              refine lv_iconst (v := 1) hx hb dX2_agrees_67 (by decide) ?_
              refine lv_icmp_ne (tgt := 75) hx hb dX2_agrees_68 (by decide) (fun h_15 => ?_) (fun h_15 => ?_)
              · replace hf := tx_neg hf h_15
                refine lv_iconst (v := 0) hx hb dX2_agrees_75 (by decide) ?_
                have hw := hw.u2
                have hw := hw.u2
                exact J76 hK2 hf hw (lv_sub hl [0, 1, 2, 3] rfl)
              · replace hf := tx_pos hf h_15
                refine lv_iconst (v := 1) hx hb dX2_agrees_71 (by decide) ?_
                refine lv_goto (tgt := 76) hx hb dX2_agrees_72 (by decide) ?_
                have hw := hw.u2
                have hw := hw.u2
                exact J76 hK2 hf hw (lv_sub hl [0, 1, 2, 3] rfl)
  have L2 : ∀ (n : Nat), ∀ {w2 : Int32} {w3 : Int32} {H : Heap} {locs : List Loc} {ls : Array Slot}, f_X2_agrees_L2 fu u_T u_Wa u_B n w2 w3 = some r → WD g A s.heap (cl_X2 g a_T u_T ++ (cl_X10 g a_Wa (a_B 0) p_Wa_16 u_Wa ++ (cl_X0 g a_B p_B_17 u_B ++ X))) H locs → lv_has ls 4 [(0, .ref (a_T 0)), (1, .ref (a_Wa 0)), (2, .int w2), (3, .int w3)] → W p l e (rmH 3) s m (List.toArray [.ref (a_T 0), .ref (a_Wa 0), .int x2]) below meth c H locs 0 0 (MQ below (va_Qi (fun r2 (_ : Unit) => r2 = r) (fun _ t => POST g A (cl_X2 g a_T u_T ++ (cl_X10 g a_Wa (a_B 0) p_Wa_16 u_Wa ++ (cl_X0 g a_B p_B_17 u_B ++ X))) t) A) (List.toArray [.ref (a_T 0), .ref (a_Wa 0), .int x2]) s 0 0 A) (F0 m 2 ls []) := by
    intro  n
    induction n with
    | zero => intro w2 w3 H locs ls hf; exact absurd hf (by intro q; cases q)
    | succ n ih => exact fun hf hw hl => J2 ih hf hw hl
  unfold f_X2_agrees at hf
  refine lv_iconst (v := 0) hx hb dX2_agrees_0 (by decide) ?_
  refine lv_istore_n (lv' := [(3, .int (0 : Int32)), (0, .ref (a_T 0)), (1, .ref (a_Wa 0)), (2, .int x2)]) hx hb dX2_agrees_1 rfl hl (by decide) rfl (fun ls hl => ?_)
  exact L2 fu hf hw (lv_sub hl [1, 2, 3, 0] rfl)
def f_X9_skillsBy_J110 (fu : Nat) (u_T : S32) (u_Ba : S32) (u_L : S32) (p_W_0 : Nat) (pa_Ba : Nat) (K16 : S32 → S32 → S64 → S64 → Nat → Int32 → Int32 → Int32 → Int32 → Option (Int32 × S32 × S32 × S64 × S64 × Nat)) (u_Fa : S32) (u_W : S32) (v_L : S64) (v_N : S64) (w3 : Int32) (w4 : Int32) (w6 : Int32) (t0 : Int32) (t1 : Int32) : Option (Int32 × S32 × S32 × S64 × S64 × Nat) := tx_let (t0 ||| t1) fun (y_23 : Int32) => tx_let (w6 + (1 : Int32)) fun (y_24 : Int32) => K16 u_Fa u_W v_L v_N pa_Ba w3 w4 y_23 y_24
def f_X9_skillsBy_J95 (fu : Nat) (u_T : S32) (u_Ba : S32) (u_L : S32) (p_W_0 : Nat) (pa_Ba : Nat) (K16 : S32 → S32 → S64 → S64 → Nat → Int32 → Int32 → Int32 → Int32 → Option (Int32 × S32 × S32 × S64 × S64 × Nat)) (u_Fa : S32) (u_W : S32) (v_L : S64) (v_N : S64) (w3 : Int32) (w4 : Int32) (w5 : Int32) (w6 : Int32) (w7 : Int32) : Option (Int32 × S32 × S32 × S64 × S64 × Nat) := if w7 = (0 : Int32) then (f_X9_skillsBy_J110 fu u_T u_Ba u_L p_W_0 pa_Ba K16 u_Fa u_W v_L v_N w3 w4 w6 w5 (0 : Int32)) else (f_X9_skillsBy_J110 fu u_T u_Ba u_L p_W_0 pa_Ba K16 u_Fa u_W v_L v_N w3 w4 w6 w5 ((1 : Int32) <<< (w6 &&& 31)))
def f_X9_skillsBy_J56 (fu : Nat) (u_T : S32) (u_Ba : S32) (u_L : S32) (p_W_0 : Nat) (pa_Ba : Nat) (K16 : S32 → S32 → S64 → S64 → Nat → Int32 → Int32 → Int32 → Int32 → Option (Int32 × S32 × S32 × S64 × S64 × Nat)) (K56 : S32 → S32 → S64 → S64 → Int32 → Int32 → Int32 → Int32 → Int32 → Int32 → Option (Int32 × S32 × S32 × S64 × S64 × Nat)) (u_Fa : S32) (u_W : S32) (v_L : S64) (v_N : S64) (w3 : Int32) (w4 : Int32) (w5 : Int32) (w6 : Int32) (w7 : Int32) (w8 : Int32) : Option (Int32 × S32 × S32 × S64 × S64 × Nat) := if w4 < w8 then (f_X9_skillsBy_J95 fu u_T u_Ba u_L p_W_0 pa_Ba K16 u_Fa u_W v_L v_N w3 w4 w5 w6 w7) else (if w7 = (0 : Int32) then (f_X9_skillsBy_J95 fu u_T u_Ba u_L p_W_0 pa_Ba K16 u_Fa u_W v_L v_N w3 w4 w5 w6 w7) else (tx_b3 (f_X10_goWeeks fu u_Ba u_L u_W v_L v_N (1 : Int32) (0 : Int32)) fun (u_W_16 : S32) (v_L_17 : S64) (v_N_18 : S64) => tx_b1 (f_X2_agrees fu u_Fa u_W_16 u_Ba w8) fun (r_20 : Int32) => tx_let (w8 + (1 : Int32)) fun (y_21 : Int32) => K56 u_Fa u_W_16 v_L_17 v_N_18 w3 w4 w5 w6 r_20 y_21))
def f_X9_skillsBy_L56 (fu : Nat) (u_T : S32) (u_Ba : S32) (u_L : S32) (p_W_0 : Nat) (pa_Ba : Nat) (K16 : S32 → S32 → S64 → S64 → Nat → Int32 → Int32 → Int32 → Int32 → Option (Int32 × S32 × S32 × S64 × S64 × Nat)) : Nat → S32 → S32 → S64 → S64 → Int32 → Int32 → Int32 → Int32 → Int32 → Int32 → Option (Int32 × S32 × S32 × S64 × S64 × Nat)
  | 0 => fun _ _ _ _ _ _ _ _ _ _ => none
  | n + 1 => f_X9_skillsBy_J56 fu u_T u_Ba u_L p_W_0 pa_Ba K16 (f_X9_skillsBy_L56 fu u_T u_Ba u_L p_W_0 pa_Ba K16 n)
def f_X9_skillsBy_J16 (fu : Nat) (u_T : S32) (u_Ba : S32) (u_L : S32) (p_W_0 : Nat) (pa_Ba : Nat) (K16 : S32 → S32 → S64 → S64 → Nat → Int32 → Int32 → Int32 → Int32 → Option (Int32 × S32 × S32 × S64 × S64 × Nat)) (u_Fa : S32) (u_W : S32) (v_L : S64) (v_N : S64) (q_W_0 : Nat) (w3 : Int32) (w4 : Int32) (w5 : Int32) (w6 : Int32) : Option (Int32 × S32 × S32 × S64 × S64 × Nat) := if (9 : Int32) < w6 then (some (w5, u_Fa, u_W, v_L, v_N, q_W_0)) else (tx_b1 (f_X0_isReader fu u_Ba w3) fun (r_7 : Int32) => if r_7 = (0 : Int32) then (some (w5, u_Fa, u_W, v_L, v_N, q_W_0)) else (tx_b1 (f_X10_begin fu u_Ba u_W) fun (u_W_10 : S32) => tx_ck w3 4 <| tx_let (up2 u_W_10 14 w3.toNatClampNeg w6) fun (u_W_12 : S32) => f_X9_skillsBy_L56 fu u_T u_Ba u_L p_W_0 pa_Ba K16 fu u_Fa u_W_12 v_L v_N w3 w4 w5 w6 (1 : Int32) (1 : Int32)))
def f_X9_skillsBy_L16 (fu : Nat) (u_T : S32) (u_Ba : S32) (u_L : S32) (p_W_0 : Nat) (pa_Ba : Nat) : Nat → S32 → S32 → S64 → S64 → Nat → Int32 → Int32 → Int32 → Int32 → Option (Int32 × S32 × S32 × S64 × S64 × Nat)
  | 0 => fun _ _ _ _ _ _ _ _ _ => none
  | n + 1 => f_X9_skillsBy_J16 fu u_T u_Ba u_L p_W_0 pa_Ba (f_X9_skillsBy_L16 fu u_T u_Ba u_L p_W_0 pa_Ba n)
def f_X9_skillsBy (fu : Nat) (u_T : S32) (u_Ba : S32) (u_L : S32) (p_W_0 : Nat) (pa_Ba : Nat) (u_Fa : S32) (u_W : S32) (v_L : S64) (v_N : S64) (x3 : Int32) : Option (Int32 × S32 × S32 × S64 × S64 × Nat) := tx_b1 (f_X2_settle fu u_Fa) fun (u_Fa_2 : S32) => tx_b1 (f_X2_lastKnownWeek fu u_Fa_2) fun (r_4 : Int32) => f_X9_skillsBy_L16 fu u_T u_Ba u_L p_W_0 pa_Ba fu u_Fa_2 u_W v_L v_N p_W_0 x3 r_4 (0 : Int32) (0 : Int32)
set_option maxHeartbeats 4000000 in
set_option maxRecDepth 100000 in
theorem c_X9_skillsBy {l : Launch} {g : GG} {A : Nat → Prop} {X : va_W} {fu : Nat} {a_T a_Fa a_Ba a_W a_L a_N : Nat → Nat} {p_W_0 : Nat} {u_T : S32} {u_Fa : S32} {u_Ba : S32} {u_W : S32} {u_L : S32} {v_L : S64} {v_N : S64} {x3 : Int32} {r : Int32} {zu_Fa : S32} {zu_W : S32} {zv_L : S64} {zv_N : S64} {zq_W_0 : Nat} (hf : f_X9_skillsBy fu u_T u_Ba u_L p_W_0 (a_Ba 0) u_Fa u_W v_L v_N x3 = some (r, zu_Fa, zu_W, zv_L, zv_N, zq_W_0)) : MI l yX9_skillsBy cX9_skillsBy 9 (some .int) 6 g A (cl_X9 g a_T (a_W 0) u_T ++ (cl_X2 g a_Fa u_Fa ++ (cl_X0 g a_Ba (a_L 0) u_Ba ++ (cl_X10 g a_W p_W_0 (a_N 0) u_W ++ (cl_X5 g a_L u_L v_L ++ (cl_N g a_N v_N ++ X)))))) [.ref (a_T 0), .ref (a_Fa 0), .ref (a_Ba 0), .int x3] r (cl_X9 g a_T (a_W 0) u_T ++ (cl_X2 g a_Fa zu_Fa ++ (cl_X0 g a_Ba (a_L 0) u_Ba ++ (cl_X10 g a_W zq_W_0 (a_N 0) zu_W ++ (cl_X5 g a_L u_L zv_L ++ (cl_N g a_N zv_N ++ X)))))) := by
  refine tx_start (av := [.ref (a_T 0), .ref (a_Fa 0), .ref (a_Ba 0), .int x3]) (by decide) (Nat.le_of_ble_eq_true rfl) ?_
  intro p e s m below meth c ls S hr hlk hE hw hl
  have S : CallFix p m c cX9_skillsBy 9 s (List.toArray [.ref (a_T 0), .ref (a_Fa 0), .ref (a_Ba 0), .int x3]) (Cond.code yX9_skillsBy cX9_skillsBy 9 (some .int) :: allW) RX9 := S
  have hx := S.1
  have hb := S.2.1
  have hown := S.2.2.2.1
  have hts : ∀ w ∈ allW, w.before (List.toArray [.ref (a_T 0), .ref (a_Fa 0), .ref (a_Ba 0), .int x3]) s = true := fun w h => S.2.2.2.2 w (List.mem_cons_of_mem _ h)
  have hl : lv_has ls 9 [(0, .ref (a_T 0)), (1, .ref (a_Fa 0)), (2, .ref (a_Ba 0)), (3, .int x3)] := hl
  have J110 : ∀ {K16 : S32 → S32 → S64 → S64 → Nat → Int32 → Int32 → Int32 → Int32 → Option (Int32 × S32 × S32 × S64 × S64 × Nat)} (hK16 : ∀ {u_Fa : S32} {u_W : S32} {v_L : S64} {v_N : S64} {q_W_0 : Nat} {w3 : Int32} {w4 : Int32} {w5 : Int32} {w6 : Int32} {H : Heap} {locs : List Loc} {ls : Array Slot}, K16 u_Fa u_W v_L v_N q_W_0 w3 w4 w5 w6 = some (r, zu_Fa, zu_W, zv_L, zv_N, zq_W_0) → WD g A s.heap (cl_X9 g a_T (a_W 0) u_T ++ (cl_X2 g a_Fa u_Fa ++ (cl_X0 g a_Ba (a_L 0) u_Ba ++ (cl_X10 g a_W q_W_0 (a_N 0) u_W ++ (cl_X5 g a_L u_L v_L ++ (cl_N g a_N v_N ++ X)))))) H locs → lv_has ls 9 [(0, .ref (a_T 0)), (1, .ref (a_Fa 0)), (2, .ref (a_Ba 0)), (3, .int w3), (4, .int w4), (5, .int w5), (6, .int w6)] → W p l e (rmH 6) s m (List.toArray [.ref (a_T 0), .ref (a_Fa 0), .ref (a_Ba 0), .int x3]) below meth c H locs 0 0 (MQ below (va_Qi (fun r2 (_ : Unit) => r2 = r) (fun _ t => POST g A (cl_X9 g a_T (a_W 0) u_T ++ (cl_X2 g a_Fa zu_Fa ++ (cl_X0 g a_Ba (a_L 0) u_Ba ++ (cl_X10 g a_W zq_W_0 (a_N 0) zu_W ++ (cl_X5 g a_L u_L zv_L ++ (cl_N g a_N zv_N ++ X)))))) t) A) (List.toArray [.ref (a_T 0), .ref (a_Fa 0), .ref (a_Ba 0), .int x3]) s 0 0 A) (F0 m 16 ls [])), ∀ {u_Fa : S32} {u_W : S32} {v_L : S64} {v_N : S64} {w3 : Int32} {w4 : Int32} {w6 : Int32} {t0 : Int32} {t1 : Int32} {H : Heap} {locs : List Loc} {ls : Array Slot}, f_X9_skillsBy_J110 fu u_T u_Ba u_L p_W_0 (a_Ba 0) K16 u_Fa u_W v_L v_N w3 w4 w6 t0 t1 = some (r, zu_Fa, zu_W, zv_L, zv_N, zq_W_0) → WD g A s.heap (cl_X9 g a_T (a_W 0) u_T ++ (cl_X2 g a_Fa u_Fa ++ (cl_X0 g a_Ba (a_L 0) u_Ba ++ (cl_X10 g a_W (a_Ba 0) (a_N 0) u_W ++ (cl_X5 g a_L u_L v_L ++ (cl_N g a_N v_N ++ X)))))) H locs → lv_has ls 9 [(0, .ref (a_T 0)), (1, .ref (a_Fa 0)), (2, .ref (a_Ba 0)), (3, .int w3), (4, .int w4), (6, .int w6)] → W p l e (rmH 6) s m (List.toArray [.ref (a_T 0), .ref (a_Fa 0), .ref (a_Ba 0), .int x3]) below meth c H locs 0 0 (MQ below (va_Qi (fun r2 (_ : Unit) => r2 = r) (fun _ t => POST g A (cl_X9 g a_T (a_W 0) u_T ++ (cl_X2 g a_Fa zu_Fa ++ (cl_X0 g a_Ba (a_L 0) u_Ba ++ (cl_X10 g a_W zq_W_0 (a_N 0) zu_W ++ (cl_X5 g a_L u_L zv_L ++ (cl_N g a_N zv_N ++ X)))))) t) A) (List.toArray [.ref (a_T 0), .ref (a_Fa 0), .ref (a_Ba 0), .int x3]) s 0 0 A) (F0 m 110 ls [.int t1, .int t0]) := by
    intro K16 hK16 u_Fa u_W v_L v_N w3 w4 w6 t0 t1 H locs ls hf hw hl
    unfold f_X9_skillsBy_J110 at hf
    refine lv_ior hx hb dX9_skillsBy_110 ?_
    refine lv_topi (fun y_23 ey_23 => ?_)
    replace hf := tx_let_e hf ey_23
    refine lv_istore (lv' := [(5, .int y_23), (0, .ref (a_T 0)), (1, .ref (a_Fa 0)), (2, .ref (a_Ba 0)), (3, .int w3), (4, .int w4), (6, .int w6)]) hx hb dX9_skillsBy_111 hl (by decide) rfl (fun ls hl => ?_)
    obtain ⟨y_24, ey_24⟩ : ∃ y : Int32, y = w6 + (1 : Int32) := ⟨_, rfl⟩
    replace hf := tx_let_e hf ey_24
    refine lv_iinc (v := y_24) (lv' := [(6, .int y_24), (5, .int y_23), (0, .ref (a_T 0)), (1, .ref (a_Fa 0)), (2, .ref (a_Ba 0)), (3, .int w3), (4, .int w4)]) hx hb dX9_skillsBy_113 hl (k := 6) rfl (by rw [ey_24]; rfl) (by decide) rfl (fun ls hl => ?_)
    refine lv_goto (tgt := 16) hx hb dX9_skillsBy_116 (by decide) ?_
    exact hK16 hf hw (lv_sub hl [2, 3, 4, 5, 6, 1, 0] rfl)
  have J95 : ∀ {K16 : S32 → S32 → S64 → S64 → Nat → Int32 → Int32 → Int32 → Int32 → Option (Int32 × S32 × S32 × S64 × S64 × Nat)} (hK16 : ∀ {u_Fa : S32} {u_W : S32} {v_L : S64} {v_N : S64} {q_W_0 : Nat} {w3 : Int32} {w4 : Int32} {w5 : Int32} {w6 : Int32} {H : Heap} {locs : List Loc} {ls : Array Slot}, K16 u_Fa u_W v_L v_N q_W_0 w3 w4 w5 w6 = some (r, zu_Fa, zu_W, zv_L, zv_N, zq_W_0) → WD g A s.heap (cl_X9 g a_T (a_W 0) u_T ++ (cl_X2 g a_Fa u_Fa ++ (cl_X0 g a_Ba (a_L 0) u_Ba ++ (cl_X10 g a_W q_W_0 (a_N 0) u_W ++ (cl_X5 g a_L u_L v_L ++ (cl_N g a_N v_N ++ X)))))) H locs → lv_has ls 9 [(0, .ref (a_T 0)), (1, .ref (a_Fa 0)), (2, .ref (a_Ba 0)), (3, .int w3), (4, .int w4), (5, .int w5), (6, .int w6)] → W p l e (rmH 6) s m (List.toArray [.ref (a_T 0), .ref (a_Fa 0), .ref (a_Ba 0), .int x3]) below meth c H locs 0 0 (MQ below (va_Qi (fun r2 (_ : Unit) => r2 = r) (fun _ t => POST g A (cl_X9 g a_T (a_W 0) u_T ++ (cl_X2 g a_Fa zu_Fa ++ (cl_X0 g a_Ba (a_L 0) u_Ba ++ (cl_X10 g a_W zq_W_0 (a_N 0) zu_W ++ (cl_X5 g a_L u_L zv_L ++ (cl_N g a_N zv_N ++ X)))))) t) A) (List.toArray [.ref (a_T 0), .ref (a_Fa 0), .ref (a_Ba 0), .int x3]) s 0 0 A) (F0 m 16 ls [])), ∀ {u_Fa : S32} {u_W : S32} {v_L : S64} {v_N : S64} {w3 : Int32} {w4 : Int32} {w5 : Int32} {w6 : Int32} {w7 : Int32} {H : Heap} {locs : List Loc} {ls : Array Slot}, f_X9_skillsBy_J95 fu u_T u_Ba u_L p_W_0 (a_Ba 0) K16 u_Fa u_W v_L v_N w3 w4 w5 w6 w7 = some (r, zu_Fa, zu_W, zv_L, zv_N, zq_W_0) → WD g A s.heap (cl_X9 g a_T (a_W 0) u_T ++ (cl_X2 g a_Fa u_Fa ++ (cl_X0 g a_Ba (a_L 0) u_Ba ++ (cl_X10 g a_W (a_Ba 0) (a_N 0) u_W ++ (cl_X5 g a_L u_L v_L ++ (cl_N g a_N v_N ++ X)))))) H locs → lv_has ls 9 [(0, .ref (a_T 0)), (1, .ref (a_Fa 0)), (2, .ref (a_Ba 0)), (3, .int w3), (4, .int w4), (5, .int w5), (6, .int w6), (7, .int w7)] → W p l e (rmH 6) s m (List.toArray [.ref (a_T 0), .ref (a_Fa 0), .ref (a_Ba 0), .int x3]) below meth c H locs 0 0 (MQ below (va_Qi (fun r2 (_ : Unit) => r2 = r) (fun _ t => POST g A (cl_X9 g a_T (a_W 0) u_T ++ (cl_X2 g a_Fa zu_Fa ++ (cl_X0 g a_Ba (a_L 0) u_Ba ++ (cl_X10 g a_W zq_W_0 (a_N 0) zu_W ++ (cl_X5 g a_L u_L zv_L ++ (cl_N g a_N zv_N ++ X)))))) t) A) (List.toArray [.ref (a_T 0), .ref (a_Fa 0), .ref (a_Ba 0), .int x3]) s 0 0 A) (F0 m 95 ls []) := by
    intro K16 hK16 u_Fa u_W v_L v_N w3 w4 w5 w6 w7 H locs ls hf hw hl
    unfold f_X9_skillsBy_J95 at hf
    refine lv_iload hx hb dX9_skillsBy_95 (lv_at hl 5 rfl) ?_
    refine lv_iload hx hb dX9_skillsBy_97 (lv_at hl 7 rfl) ?_
    refine lv_if_eq (tgt := 109) hx hb dX9_skillsBy_99 (by decide) (fun h_22 => ?_) (fun h_22 => ?_)
    · replace hf := tx_pos hf h_22
      refine lv_iconst (v := 0) hx hb dX9_skillsBy_109 (by decide) ?_
      exact J110 hK16 hf hw (lv_sub hl [0, 1, 2, 3, 4, 6] rfl)
    · replace hf := tx_neg hf h_22
      refine lv_iconst (v := 1) hx hb dX9_skillsBy_102 (by decide) ?_
      refine lv_iload hx hb dX9_skillsBy_103 (lv_at hl 6 rfl) ?_
      refine lv_ishl hx hb dX9_skillsBy_105 ?_
      refine lv_goto (tgt := 110) hx hb dX9_skillsBy_106 (by decide) ?_
      exact J110 hK16 hf hw (lv_sub hl [0, 1, 2, 3, 4, 6] rfl)
  have J56 : ∀ {K16 : S32 → S32 → S64 → S64 → Nat → Int32 → Int32 → Int32 → Int32 → Option (Int32 × S32 × S32 × S64 × S64 × Nat)} (hK16 : ∀ {u_Fa : S32} {u_W : S32} {v_L : S64} {v_N : S64} {q_W_0 : Nat} {w3 : Int32} {w4 : Int32} {w5 : Int32} {w6 : Int32} {H : Heap} {locs : List Loc} {ls : Array Slot}, K16 u_Fa u_W v_L v_N q_W_0 w3 w4 w5 w6 = some (r, zu_Fa, zu_W, zv_L, zv_N, zq_W_0) → WD g A s.heap (cl_X9 g a_T (a_W 0) u_T ++ (cl_X2 g a_Fa u_Fa ++ (cl_X0 g a_Ba (a_L 0) u_Ba ++ (cl_X10 g a_W q_W_0 (a_N 0) u_W ++ (cl_X5 g a_L u_L v_L ++ (cl_N g a_N v_N ++ X)))))) H locs → lv_has ls 9 [(0, .ref (a_T 0)), (1, .ref (a_Fa 0)), (2, .ref (a_Ba 0)), (3, .int w3), (4, .int w4), (5, .int w5), (6, .int w6)] → W p l e (rmH 6) s m (List.toArray [.ref (a_T 0), .ref (a_Fa 0), .ref (a_Ba 0), .int x3]) below meth c H locs 0 0 (MQ below (va_Qi (fun r2 (_ : Unit) => r2 = r) (fun _ t => POST g A (cl_X9 g a_T (a_W 0) u_T ++ (cl_X2 g a_Fa zu_Fa ++ (cl_X0 g a_Ba (a_L 0) u_Ba ++ (cl_X10 g a_W zq_W_0 (a_N 0) zu_W ++ (cl_X5 g a_L u_L zv_L ++ (cl_N g a_N zv_N ++ X)))))) t) A) (List.toArray [.ref (a_T 0), .ref (a_Fa 0), .ref (a_Ba 0), .int x3]) s 0 0 A) (F0 m 16 ls [])) {K56 : S32 → S32 → S64 → S64 → Int32 → Int32 → Int32 → Int32 → Int32 → Int32 → Option (Int32 × S32 × S32 × S64 × S64 × Nat)} (hK56 : ∀ {u_Fa : S32} {u_W : S32} {v_L : S64} {v_N : S64} {w3 : Int32} {w4 : Int32} {w5 : Int32} {w6 : Int32} {w7 : Int32} {w8 : Int32} {H : Heap} {locs : List Loc} {ls : Array Slot}, K56 u_Fa u_W v_L v_N w3 w4 w5 w6 w7 w8 = some (r, zu_Fa, zu_W, zv_L, zv_N, zq_W_0) → WD g A s.heap (cl_X9 g a_T (a_W 0) u_T ++ (cl_X2 g a_Fa u_Fa ++ (cl_X0 g a_Ba (a_L 0) u_Ba ++ (cl_X10 g a_W (a_Ba 0) (a_N 0) u_W ++ (cl_X5 g a_L u_L v_L ++ (cl_N g a_N v_N ++ X)))))) H locs → lv_has ls 9 [(0, .ref (a_T 0)), (1, .ref (a_Fa 0)), (2, .ref (a_Ba 0)), (3, .int w3), (4, .int w4), (5, .int w5), (6, .int w6), (7, .int w7), (8, .int w8)] → W p l e (rmH 6) s m (List.toArray [.ref (a_T 0), .ref (a_Fa 0), .ref (a_Ba 0), .int x3]) below meth c H locs 0 0 (MQ below (va_Qi (fun r2 (_ : Unit) => r2 = r) (fun _ t => POST g A (cl_X9 g a_T (a_W 0) u_T ++ (cl_X2 g a_Fa zu_Fa ++ (cl_X0 g a_Ba (a_L 0) u_Ba ++ (cl_X10 g a_W zq_W_0 (a_N 0) zu_W ++ (cl_X5 g a_L u_L zv_L ++ (cl_N g a_N zv_N ++ X)))))) t) A) (List.toArray [.ref (a_T 0), .ref (a_Fa 0), .ref (a_Ba 0), .int x3]) s 0 0 A) (F0 m 56 ls [])), ∀ {u_Fa : S32} {u_W : S32} {v_L : S64} {v_N : S64} {w3 : Int32} {w4 : Int32} {w5 : Int32} {w6 : Int32} {w7 : Int32} {w8 : Int32} {H : Heap} {locs : List Loc} {ls : Array Slot}, f_X9_skillsBy_J56 fu u_T u_Ba u_L p_W_0 (a_Ba 0) K16 K56 u_Fa u_W v_L v_N w3 w4 w5 w6 w7 w8 = some (r, zu_Fa, zu_W, zv_L, zv_N, zq_W_0) → WD g A s.heap (cl_X9 g a_T (a_W 0) u_T ++ (cl_X2 g a_Fa u_Fa ++ (cl_X0 g a_Ba (a_L 0) u_Ba ++ (cl_X10 g a_W (a_Ba 0) (a_N 0) u_W ++ (cl_X5 g a_L u_L v_L ++ (cl_N g a_N v_N ++ X)))))) H locs → lv_has ls 9 [(0, .ref (a_T 0)), (1, .ref (a_Fa 0)), (2, .ref (a_Ba 0)), (3, .int w3), (4, .int w4), (5, .int w5), (6, .int w6), (7, .int w7), (8, .int w8)] → W p l e (rmH 6) s m (List.toArray [.ref (a_T 0), .ref (a_Fa 0), .ref (a_Ba 0), .int x3]) below meth c H locs 0 0 (MQ below (va_Qi (fun r2 (_ : Unit) => r2 = r) (fun _ t => POST g A (cl_X9 g a_T (a_W 0) u_T ++ (cl_X2 g a_Fa zu_Fa ++ (cl_X0 g a_Ba (a_L 0) u_Ba ++ (cl_X10 g a_W zq_W_0 (a_N 0) zu_W ++ (cl_X5 g a_L u_L zv_L ++ (cl_N g a_N zv_N ++ X)))))) t) A) (List.toArray [.ref (a_T 0), .ref (a_Fa 0), .ref (a_Ba 0), .int x3]) s 0 0 A) (F0 m 56 ls []) := by
    intro K16 hK16 K56 hK56 u_Fa u_W v_L v_N w3 w4 w5 w6 w7 w8 H locs ls hf hw hl
    unfold f_X9_skillsBy_J56 at hf
    refine lv_iload hx hb dX9_skillsBy_56 (lv_at hl 8 rfl) ?_
    refine lv_iload hx hb dX9_skillsBy_58 (lv_at hl 4 rfl) ?_
    refine lv_icmp_gt (tgt := 95) hx hb dX9_skillsBy_60 (by decide) (fun h_13 => ?_) (fun h_13 => ?_)
    · replace hf := tx_pos hf h_13
      exact J95 hK16 hf hw (lv_sub hl [0, 1, 2, 3, 4, 5, 6, 7] rfl)
    · replace hf := tx_neg hf h_13
      refine lv_iload hx hb dX9_skillsBy_63 (lv_at hl 7 rfl) ?_
      refine lv_if_eq (tgt := 95) hx hb dX9_skillsBy_65 (by decide) (fun h_14 => ?_) (fun h_14 => ?_)
      · replace hf := tx_pos hf h_14
        exact J95 hK16 hf hw (lv_sub hl [0, 1, 2, 3, 4, 5, 6, 7] rfl)
      · replace hf := tx_neg hf h_14
        refine lv_aload_n hx hb dX9_skillsBy_68 rfl (lv_at hl 0 rfl) ?_
        refine gf_X9_20 S hE hw 0 rfl rfl dX9_skillsBy_69 ?_
        refine lv_iconst (v := 1) hx hb dX9_skillsBy_72 (by decide) ?_
        refine lv_iconst (v := 0) hx hb dX9_skillsBy_73 (by decide) ?_
        have hw := hw.u5
        have hw := hw.u5
        have hw := hw.u4
        have hw := hw.u5
        obtain ⟨u_W_16, v_L_17, v_N_18, h_15, hf⟩ := tx_b3_e hf
        refine tx_cv hw (tx_runN S hE hw (c_X10_goWeeks h_15) lk_X9_28 (q0 := 0) rfl rfl rfl hl.1 (rest := []) rfl (Nat.le_of_ble_eq_true rfl) ⟨by decide, by decide⟩ dX9_skillsBy_74 ⟨Nat.zero_le _, Nat.zero_le _⟩) (fun H locs hw => ?_)
        refine lv_aload_n hx hb dX9_skillsBy_77 rfl (lv_at hl 1 rfl) ?_
        refine lv_aload_n hx hb dX9_skillsBy_78 rfl (lv_at hl 0 rfl) ?_
        refine gf_X9_20 S hE hw 30 rfl rfl dX9_skillsBy_79 ?_
        refine lv_iload hx hb dX9_skillsBy_82 (lv_at hl 8 rfl) ?_
        have hw := hw.u1
        have hw := hw.u1
        have hw := hw.u5
        obtain ⟨r_20, h_19, hf⟩ := tx_b1_e hf
        refine tx_ci hw (tx_runN S hE hw (c_X2_agrees h_19) lk_X9_144 (q0 := 0) rfl rfl rfl hl.1 (rest := []) rfl (Nat.le_of_ble_eq_true rfl) ⟨by decide, by decide⟩ dX9_skillsBy_84 ⟨Nat.zero_le _, Nat.zero_le _⟩) (fun H locs hw => ?_)
        refine lv_istore (lv' := [(7, .int r_20), (0, .ref (a_T 0)), (1, .ref (a_Fa 0)), (2, .ref (a_Ba 0)), (3, .int w3), (4, .int w4), (5, .int w5), (6, .int w6), (8, .int w8)]) hx hb dX9_skillsBy_87 hl (by decide) rfl (fun ls hl => ?_)
        obtain ⟨y_21, ey_21⟩ : ∃ y : Int32, y = w8 + (1 : Int32) := ⟨_, rfl⟩
        replace hf := tx_let_e hf ey_21
        refine lv_iinc (v := y_21) (lv' := [(8, .int y_21), (7, .int r_20), (0, .ref (a_T 0)), (1, .ref (a_Fa 0)), (2, .ref (a_Ba 0)), (3, .int w3), (4, .int w4), (5, .int w5), (6, .int w6)]) hx hb dX9_skillsBy_89 hl (k := 8) rfl (by rw [ey_21]; rfl) (by decide) rfl (fun ls hl => ?_)
        refine lv_goto (tgt := 56) hx hb dX9_skillsBy_92 (by decide) ?_
        have hw := hw.u4
        have hw := hw.u4
        have hw := hw.u3
        have hw := hw.u4
        have hw := hw.u4
        have hw := hw.u5
        exact hK56 hf hw (lv_sub hl [2, 3, 4, 5, 6, 7, 8, 1, 0] rfl)
  have L56 : ∀ {K16 : S32 → S32 → S64 → S64 → Nat → Int32 → Int32 → Int32 → Int32 → Option (Int32 × S32 × S32 × S64 × S64 × Nat)} (hK16 : ∀ {u_Fa : S32} {u_W : S32} {v_L : S64} {v_N : S64} {q_W_0 : Nat} {w3 : Int32} {w4 : Int32} {w5 : Int32} {w6 : Int32} {H : Heap} {locs : List Loc} {ls : Array Slot}, K16 u_Fa u_W v_L v_N q_W_0 w3 w4 w5 w6 = some (r, zu_Fa, zu_W, zv_L, zv_N, zq_W_0) → WD g A s.heap (cl_X9 g a_T (a_W 0) u_T ++ (cl_X2 g a_Fa u_Fa ++ (cl_X0 g a_Ba (a_L 0) u_Ba ++ (cl_X10 g a_W q_W_0 (a_N 0) u_W ++ (cl_X5 g a_L u_L v_L ++ (cl_N g a_N v_N ++ X)))))) H locs → lv_has ls 9 [(0, .ref (a_T 0)), (1, .ref (a_Fa 0)), (2, .ref (a_Ba 0)), (3, .int w3), (4, .int w4), (5, .int w5), (6, .int w6)] → W p l e (rmH 6) s m (List.toArray [.ref (a_T 0), .ref (a_Fa 0), .ref (a_Ba 0), .int x3]) below meth c H locs 0 0 (MQ below (va_Qi (fun r2 (_ : Unit) => r2 = r) (fun _ t => POST g A (cl_X9 g a_T (a_W 0) u_T ++ (cl_X2 g a_Fa zu_Fa ++ (cl_X0 g a_Ba (a_L 0) u_Ba ++ (cl_X10 g a_W zq_W_0 (a_N 0) zu_W ++ (cl_X5 g a_L u_L zv_L ++ (cl_N g a_N zv_N ++ X)))))) t) A) (List.toArray [.ref (a_T 0), .ref (a_Fa 0), .ref (a_Ba 0), .int x3]) s 0 0 A) (F0 m 16 ls [])), ∀ (n : Nat), ∀ {u_Fa : S32} {u_W : S32} {v_L : S64} {v_N : S64} {w3 : Int32} {w4 : Int32} {w5 : Int32} {w6 : Int32} {w7 : Int32} {w8 : Int32} {H : Heap} {locs : List Loc} {ls : Array Slot}, f_X9_skillsBy_L56 fu u_T u_Ba u_L p_W_0 (a_Ba 0) K16 n u_Fa u_W v_L v_N w3 w4 w5 w6 w7 w8 = some (r, zu_Fa, zu_W, zv_L, zv_N, zq_W_0) → WD g A s.heap (cl_X9 g a_T (a_W 0) u_T ++ (cl_X2 g a_Fa u_Fa ++ (cl_X0 g a_Ba (a_L 0) u_Ba ++ (cl_X10 g a_W (a_Ba 0) (a_N 0) u_W ++ (cl_X5 g a_L u_L v_L ++ (cl_N g a_N v_N ++ X)))))) H locs → lv_has ls 9 [(0, .ref (a_T 0)), (1, .ref (a_Fa 0)), (2, .ref (a_Ba 0)), (3, .int w3), (4, .int w4), (5, .int w5), (6, .int w6), (7, .int w7), (8, .int w8)] → W p l e (rmH 6) s m (List.toArray [.ref (a_T 0), .ref (a_Fa 0), .ref (a_Ba 0), .int x3]) below meth c H locs 0 0 (MQ below (va_Qi (fun r2 (_ : Unit) => r2 = r) (fun _ t => POST g A (cl_X9 g a_T (a_W 0) u_T ++ (cl_X2 g a_Fa zu_Fa ++ (cl_X0 g a_Ba (a_L 0) u_Ba ++ (cl_X10 g a_W zq_W_0 (a_N 0) zu_W ++ (cl_X5 g a_L u_L zv_L ++ (cl_N g a_N zv_N ++ X)))))) t) A) (List.toArray [.ref (a_T 0), .ref (a_Fa 0), .ref (a_Ba 0), .int x3]) s 0 0 A) (F0 m 56 ls []) := by
    intro K16 hK16 n
    induction n with
    | zero => intro u_Fa u_W v_L v_N w3 w4 w5 w6 w7 w8 H locs ls hf; exact absurd hf (by intro q; cases q)
    | succ n ih => exact fun hf hw hl => J56 hK16 ih hf hw hl
  have J16 : ∀ {K16 : S32 → S32 → S64 → S64 → Nat → Int32 → Int32 → Int32 → Int32 → Option (Int32 × S32 × S32 × S64 × S64 × Nat)} (hK16 : ∀ {u_Fa : S32} {u_W : S32} {v_L : S64} {v_N : S64} {q_W_0 : Nat} {w3 : Int32} {w4 : Int32} {w5 : Int32} {w6 : Int32} {H : Heap} {locs : List Loc} {ls : Array Slot}, K16 u_Fa u_W v_L v_N q_W_0 w3 w4 w5 w6 = some (r, zu_Fa, zu_W, zv_L, zv_N, zq_W_0) → WD g A s.heap (cl_X9 g a_T (a_W 0) u_T ++ (cl_X2 g a_Fa u_Fa ++ (cl_X0 g a_Ba (a_L 0) u_Ba ++ (cl_X10 g a_W q_W_0 (a_N 0) u_W ++ (cl_X5 g a_L u_L v_L ++ (cl_N g a_N v_N ++ X)))))) H locs → lv_has ls 9 [(0, .ref (a_T 0)), (1, .ref (a_Fa 0)), (2, .ref (a_Ba 0)), (3, .int w3), (4, .int w4), (5, .int w5), (6, .int w6)] → W p l e (rmH 6) s m (List.toArray [.ref (a_T 0), .ref (a_Fa 0), .ref (a_Ba 0), .int x3]) below meth c H locs 0 0 (MQ below (va_Qi (fun r2 (_ : Unit) => r2 = r) (fun _ t => POST g A (cl_X9 g a_T (a_W 0) u_T ++ (cl_X2 g a_Fa zu_Fa ++ (cl_X0 g a_Ba (a_L 0) u_Ba ++ (cl_X10 g a_W zq_W_0 (a_N 0) zu_W ++ (cl_X5 g a_L u_L zv_L ++ (cl_N g a_N zv_N ++ X)))))) t) A) (List.toArray [.ref (a_T 0), .ref (a_Fa 0), .ref (a_Ba 0), .int x3]) s 0 0 A) (F0 m 16 ls [])), ∀ {u_Fa : S32} {u_W : S32} {v_L : S64} {v_N : S64} {q_W_0 : Nat} {w3 : Int32} {w4 : Int32} {w5 : Int32} {w6 : Int32} {H : Heap} {locs : List Loc} {ls : Array Slot}, f_X9_skillsBy_J16 fu u_T u_Ba u_L p_W_0 (a_Ba 0) K16 u_Fa u_W v_L v_N q_W_0 w3 w4 w5 w6 = some (r, zu_Fa, zu_W, zv_L, zv_N, zq_W_0) → WD g A s.heap (cl_X9 g a_T (a_W 0) u_T ++ (cl_X2 g a_Fa u_Fa ++ (cl_X0 g a_Ba (a_L 0) u_Ba ++ (cl_X10 g a_W q_W_0 (a_N 0) u_W ++ (cl_X5 g a_L u_L v_L ++ (cl_N g a_N v_N ++ X)))))) H locs → lv_has ls 9 [(0, .ref (a_T 0)), (1, .ref (a_Fa 0)), (2, .ref (a_Ba 0)), (3, .int w3), (4, .int w4), (5, .int w5), (6, .int w6)] → W p l e (rmH 6) s m (List.toArray [.ref (a_T 0), .ref (a_Fa 0), .ref (a_Ba 0), .int x3]) below meth c H locs 0 0 (MQ below (va_Qi (fun r2 (_ : Unit) => r2 = r) (fun _ t => POST g A (cl_X9 g a_T (a_W 0) u_T ++ (cl_X2 g a_Fa zu_Fa ++ (cl_X0 g a_Ba (a_L 0) u_Ba ++ (cl_X10 g a_W zq_W_0 (a_N 0) zu_W ++ (cl_X5 g a_L u_L zv_L ++ (cl_N g a_N zv_N ++ X)))))) t) A) (List.toArray [.ref (a_T 0), .ref (a_Fa 0), .ref (a_Ba 0), .int x3]) s 0 0 A) (F0 m 16 ls []) := by
    intro K16 hK16 u_Fa u_W v_L v_N q_W_0 w3 w4 w5 w6 H locs ls hf hw hl
    unfold f_X9_skillsBy_J16 at hf
    refine lv_iload hx hb dX9_skillsBy_16 (lv_at hl 6 rfl) ?_
    refine lv_bipush (v := 9) hx hb dX9_skillsBy_18 (by decide) ?_
    refine lv_icmp_gt (tgt := 119) hx hb dX9_skillsBy_20 (by decide) (fun h_5 => ?_) (fun h_5 => ?_)
    · replace hf := tx_pos hf h_5
      refine lv_iload hx hb dX9_skillsBy_119 (lv_at hl 5 rfl) ?_
      obtain ⟨e0, e1, e2, e3, e4, e5⟩ := tx_in6 hf
      rw [← e0, ← e1, ← e2, ← e3, ← e4, ← e5]
      exact tx_iret S hr hlk hw dX9_skillsBy_121
    · replace hf := tx_neg hf h_5
      refine lv_aload_n hx hb dX9_skillsBy_23 rfl (lv_at hl 2 rfl) ?_
      refine lv_iload_n hx hb dX9_skillsBy_24 rfl (lv_at hl 3 rfl) ?_
      have hw := hw.u2
      obtain ⟨r_7, h_6, hf⟩ := tx_b1_e hf
      refine tx_ci hw (tx_runN S hE hw (c_X0_isReader h_6) lk_X9_135 (q0 := 0) rfl rfl rfl hl.1 (rest := []) rfl (Nat.le_of_ble_eq_true rfl) ⟨by decide, by decide⟩ dX9_skillsBy_25 ⟨Nat.zero_le _, Nat.zero_le _⟩) (fun H locs hw => ?_)
      refine lv_if_eq (tgt := 119) hx hb dX9_skillsBy_28 (by decide) (fun h_8 => ?_) (fun h_8 => ?_)
      · replace hf := tx_pos hf h_8
        refine lv_iload hx hb dX9_skillsBy_119 (lv_at hl 5 rfl) ?_
        have hw := hw.u5
        have hw := hw.u5
        have hw := hw.u5
        have hw := hw.u3
        have hw := hw.u5
        have hw := hw.u5
        obtain ⟨e0, e1, e2, e3, e4, e5⟩ := tx_in6 hf
        rw [← e0, ← e1, ← e2, ← e3, ← e4, ← e5]
        exact tx_iret S hr hlk hw dX9_skillsBy_121
      · replace hf := tx_neg hf h_8
        refine lv_aload_n hx hb dX9_skillsBy_31 rfl (lv_at hl 0 rfl) ?_
        refine gf_X9_20 S hE hw 11 rfl rfl dX9_skillsBy_32 ?_
        refine lv_aload_n hx hb dX9_skillsBy_35 rfl (lv_at hl 2 rfl) ?_
        have hw := hw.u3
        obtain ⟨u_W_10, h_9, hf⟩ := tx_b1_e hf
        refine tx_cv hw (tx_runN S hE hw (c_X10_begin h_9) lk_X9_138 (q0 := 0) rfl rfl rfl hl.1 (rest := []) rfl (Nat.le_of_ble_eq_true rfl) ⟨by decide, by decide⟩ dX9_skillsBy_36 ⟨Nat.zero_le _, Nat.zero_le _⟩) (fun H locs hw => ?_)
        refine lv_aload_n hx hb dX9_skillsBy_39 rfl (lv_at hl 0 rfl) ?_
        refine gf_X9_20 S hE hw 23 rfl rfl dX9_skillsBy_40 ?_
        refine gf_X9_141 S hE hw 0 rfl rfl dX9_skillsBy_43 ?_
        refine lv_iload_n hx hb dX9_skillsBy_46 rfl (lv_at hl 3 rfl) ?_
        refine lv_iload hx hb dX9_skillsBy_47 (lv_at hl 6 rfl) ?_
        obtain ⟨h_11, hf⟩ := tx_ck_e hf
        obtain ⟨u_W_12, eu_W_12⟩ : ∃ z : S32, z = up2 u_W_10 14 w3.toNatClampNeg w6 := ⟨_, rfl⟩
        replace hf := tx_let_e hf eu_W_12
        refine tx_iast (ws' := cl_X10 g a_W (a_Ba 0) (a_N 0) u_W_12 ++ (cl_X0 g a_Ba (a_L 0) u_Ba ++ (cl_X9 g a_T (a_W 0) u_T ++ (cl_X2 g a_Fa u_Fa ++ (cl_X5 g a_L u_L v_L ++ (cl_N g a_N v_N ++ X)))))) S hE hw 10 rfl h_11 (by rw [eu_W_12]; rfl) dX9_skillsBy_49 (fun H locs hw => ?_)
        refine lv_iconst (v := 1) hx hb dX9_skillsBy_50 (by decide) ?_
        refine lv_istore (lv' := [(7, .int (1 : Int32)), (0, .ref (a_T 0)), (1, .ref (a_Fa 0)), (2, .ref (a_Ba 0)), (3, .int w3), (4, .int w4), (5, .int w5), (6, .int w6)]) hx hb dX9_skillsBy_51 hl (by decide) rfl (fun ls hl => ?_)
        refine lv_iconst (v := 1) hx hb dX9_skillsBy_53 (by decide) ?_
        refine lv_istore (lv' := [(8, .int (1 : Int32)), (7, .int (1 : Int32)), (0, .ref (a_T 0)), (1, .ref (a_Fa 0)), (2, .ref (a_Ba 0)), (3, .int w3), (4, .int w4), (5, .int w5), (6, .int w6)]) hx hb dX9_skillsBy_54 hl (by decide) rfl (fun ls hl => ?_)
        have hw := hw.u5
        have hw := hw.u5
        have hw := hw.u2
        have hw := hw.u3
        have hw := hw.u5
        have hw := hw.u5
        exact L56 hK16 fu hf hw (lv_sub hl [2, 3, 4, 5, 6, 7, 8, 1, 0] rfl)
  have L16 : ∀ (n : Nat), ∀ {u_Fa : S32} {u_W : S32} {v_L : S64} {v_N : S64} {q_W_0 : Nat} {w3 : Int32} {w4 : Int32} {w5 : Int32} {w6 : Int32} {H : Heap} {locs : List Loc} {ls : Array Slot}, f_X9_skillsBy_L16 fu u_T u_Ba u_L p_W_0 (a_Ba 0) n u_Fa u_W v_L v_N q_W_0 w3 w4 w5 w6 = some (r, zu_Fa, zu_W, zv_L, zv_N, zq_W_0) → WD g A s.heap (cl_X9 g a_T (a_W 0) u_T ++ (cl_X2 g a_Fa u_Fa ++ (cl_X0 g a_Ba (a_L 0) u_Ba ++ (cl_X10 g a_W q_W_0 (a_N 0) u_W ++ (cl_X5 g a_L u_L v_L ++ (cl_N g a_N v_N ++ X)))))) H locs → lv_has ls 9 [(0, .ref (a_T 0)), (1, .ref (a_Fa 0)), (2, .ref (a_Ba 0)), (3, .int w3), (4, .int w4), (5, .int w5), (6, .int w6)] → W p l e (rmH 6) s m (List.toArray [.ref (a_T 0), .ref (a_Fa 0), .ref (a_Ba 0), .int x3]) below meth c H locs 0 0 (MQ below (va_Qi (fun r2 (_ : Unit) => r2 = r) (fun _ t => POST g A (cl_X9 g a_T (a_W 0) u_T ++ (cl_X2 g a_Fa zu_Fa ++ (cl_X0 g a_Ba (a_L 0) u_Ba ++ (cl_X10 g a_W zq_W_0 (a_N 0) zu_W ++ (cl_X5 g a_L u_L zv_L ++ (cl_N g a_N zv_N ++ X)))))) t) A) (List.toArray [.ref (a_T 0), .ref (a_Fa 0), .ref (a_Ba 0), .int x3]) s 0 0 A) (F0 m 16 ls []) := by
    intro  n
    induction n with
    | zero => intro u_Fa u_W v_L v_N q_W_0 w3 w4 w5 w6 H locs ls hf; exact absurd hf (by intro q; cases q)
    | succ n ih => exact fun hf hw hl => J16 ih hf hw hl
  unfold f_X9_skillsBy at hf
  refine lv_aload_n hx hb dX9_skillsBy_0 rfl (lv_at hl 1 rfl) ?_
  have hw := hw.u1
  obtain ⟨u_Fa_2, h_1, hf⟩ := tx_b1_e hf
  refine tx_cv hw (tx_runN S hE hw (c_X2_settle h_1) lk_X9_127 (q0 := 0) rfl rfl rfl hl.1 (rest := []) rfl (Nat.le_of_ble_eq_true rfl) ⟨by decide, by decide⟩ dX9_skillsBy_1 ⟨Nat.zero_le _, Nat.zero_le _⟩) (fun H locs hw => ?_)
  refine lv_aload_n hx hb dX9_skillsBy_4 rfl (lv_at hl 1 rfl) ?_
  obtain ⟨r_4, h_3, hf⟩ := tx_b1_e hf
  refine tx_ci hw (tx_runN S hE hw (c_X2_lastKnownWeek h_3) lk_X9_132 (q0 := 0) rfl rfl rfl hl.1 (rest := []) rfl (Nat.le_of_ble_eq_true rfl) ⟨by decide, by decide⟩ dX9_skillsBy_5 ⟨Nat.zero_le _, Nat.zero_le _⟩) (fun H locs hw => ?_)
  refine lv_istore (lv' := [(4, .int r_4), (0, .ref (a_T 0)), (1, .ref (a_Fa 0)), (2, .ref (a_Ba 0)), (3, .int x3)]) hx hb dX9_skillsBy_8 hl (by decide) rfl (fun ls hl => ?_)
  refine lv_iconst (v := 0) hx hb dX9_skillsBy_10 (by decide) ?_
  refine lv_istore (lv' := [(5, .int (0 : Int32)), (4, .int r_4), (0, .ref (a_T 0)), (1, .ref (a_Fa 0)), (2, .ref (a_Ba 0)), (3, .int x3)]) hx hb dX9_skillsBy_11 hl (by decide) rfl (fun ls hl => ?_)
  refine lv_iconst (v := 0) hx hb dX9_skillsBy_13 (by decide) ?_
  refine lv_istore (lv' := [(6, .int (0 : Int32)), (5, .int (0 : Int32)), (4, .int r_4), (0, .ref (a_T 0)), (1, .ref (a_Fa 0)), (2, .ref (a_Ba 0)), (3, .int x3)]) hx hb dX9_skillsBy_14 hl (by decide) rfl (fun ls hl => ?_)
  have hw := hw.u5
  have hw := hw.u5
  have hw := hw.u5
  have hw := hw.u5
  have hw := hw.u4
  have hw := hw.u5
  exact L16 fu hf hw (lv_sub hl [3, 4, 5, 6, 2, 1, 0] rfl)
def f_X11_skills (fu : Nat) (u_T : S32) (u_B : S32) (u_Y : S32) (u_L : S32) (p_W_0 : Nat) (pa_B : Nat) (u_F : S32) (u_W : S32) (v_L : S64) (v_N : S64) (x1 : Int32) : Option (Int32 × S32 × S32 × S64 × S64 × Nat) := tx_b1 (f_X0_isReader fu u_B x1) fun (r_2 : Int32) => if r_2 = (0 : Int32) then (some ((-1 : Int32), u_F, u_W, v_L, v_N, p_W_0)) else (tx_b6 (f_X9_skillsBy fu u_Y u_B u_L p_W_0 pa_B u_F u_W v_L v_N x1) fun (r_5 : Int32) (u_F_6 : S32) (u_W_7 : S32) (v_L_8 : S64) (v_N_9 : S64) (q_10 : Nat) => some (r_5, u_F_6, u_W_7, v_L_8, v_N_9, q_10))
set_option maxHeartbeats 4000000 in
set_option maxRecDepth 100000 in
theorem c_X11_skills {l : Launch} {g : GG} {A : Nat → Prop} {X : va_W} {fu : Nat} {a_T a_B a_Y a_F a_W a_L a_N : Nat → Nat} {p_T_0 p_T_2 p_T_3 p_T_4 p_T_5 p_T_7 p_T_9 p_W_0 : Nat} {u_T : S32} {u_B : S32} {u_Y : S32} {u_F : S32} {u_W : S32} {u_L : S32} {v_L : S64} {v_N : S64} {x1 : Int32} {r : Int32} {zu_F : S32} {zu_W : S32} {zv_L : S64} {zv_N : S64} {zq_W_0 : Nat} (hf : f_X11_skills fu u_T u_B u_Y u_L p_W_0 (a_B 0) u_F u_W v_L v_N x1 = some (r, zu_F, zu_W, zv_L, zv_N, zq_W_0)) : MI l yX11_skills cX11_skills 2 (some .int) 7 g A (cl_X11 g a_T p_T_0 (a_B 0) p_T_2 p_T_3 p_T_4 p_T_5 (a_Y 0) p_T_7 (a_F 0) p_T_9 u_T ++ (cl_X0 g a_B (a_L 0) u_B ++ (cl_X9 g a_Y (a_W 0) u_Y ++ (cl_X2 g a_F u_F ++ (cl_X10 g a_W p_W_0 (a_N 0) u_W ++ (cl_X5 g a_L u_L v_L ++ (cl_N g a_N v_N ++ X))))))) [.ref (a_T 0), .int x1] r (cl_X11 g a_T p_T_0 (a_B 0) p_T_2 p_T_3 p_T_4 p_T_5 (a_Y 0) p_T_7 (a_F 0) p_T_9 u_T ++ (cl_X0 g a_B (a_L 0) u_B ++ (cl_X9 g a_Y (a_W 0) u_Y ++ (cl_X2 g a_F zu_F ++ (cl_X10 g a_W zq_W_0 (a_N 0) zu_W ++ (cl_X5 g a_L u_L zv_L ++ (cl_N g a_N zv_N ++ X))))))) := by
  refine tx_start (av := [.ref (a_T 0), .int x1]) (by decide) (Nat.le_of_ble_eq_true rfl) ?_
  intro p e s m below meth c ls S hr hlk hE hw hl
  have S : CallFix p m c cX11_skills 2 s (List.toArray [.ref (a_T 0), .int x1]) (Cond.code yX11_skills cX11_skills 2 (some .int) :: allW) RX11 := S
  have hx := S.1
  have hb := S.2.1
  have hown := S.2.2.2.1
  have hts : ∀ w ∈ allW, w.before (List.toArray [.ref (a_T 0), .int x1]) s = true := fun w h => S.2.2.2.2 w (List.mem_cons_of_mem _ h)
  have hl : lv_has ls 2 [(0, .ref (a_T 0)), (1, .int x1)] := hl
  unfold f_X11_skills at hf
  refine lv_aload_n hx hb dX11_skills_0 rfl (lv_at hl 0 rfl) ?_
  refine gf_X11_21 S hE hw 0 rfl rfl dX11_skills_1 ?_
  refine lv_iload_n hx hb dX11_skills_4 rfl (lv_at hl 1 rfl) ?_
  have hw := hw.u1
  obtain ⟨r_2, h_1, hf⟩ := tx_b1_e hf
  refine tx_ci hw (tx_runN S hE hw (c_X0_isReader h_1) lk_X11_178 (q0 := 0) rfl rfl rfl hl.1 (rest := []) rfl (Nat.le_of_ble_eq_true rfl) ⟨by decide, by decide⟩ dX11_skills_5 ⟨Nat.zero_le _, Nat.zero_le _⟩) (fun H locs hw => ?_)
  refine lv_if_ne (tgt := 13) hx hb dX11_skills_8 (by decide) (fun h_3 => ?_) (fun h_3 => ?_)
  · replace hf := tx_neg hf h_3
    refine lv_aload_n hx hb dX11_skills_13 rfl (lv_at hl 0 rfl) ?_
    refine gf_X11_52 S hE hw 11 rfl rfl dX11_skills_14 ?_
    refine lv_aload_n hx hb dX11_skills_17 rfl (lv_at hl 0 rfl) ?_
    refine gf_X11_66 S hE hw 11 rfl rfl dX11_skills_18 ?_
    refine lv_aload_n hx hb dX11_skills_21 rfl (lv_at hl 0 rfl) ?_
    refine gf_X11_21 S hE hw 11 rfl rfl dX11_skills_22 ?_
    refine lv_iload_n hx hb dX11_skills_25 rfl (lv_at hl 1 rfl) ?_
    have hw := hw.u6
    have hw := hw.u6
    have hw := hw.u6
    have hw := hw.u3
    have hw := hw.u6
    have hw := hw.u6
    obtain ⟨r_5, u_F_6, u_W_7, v_L_8, v_N_9, q_10, h_4, hf⟩ := tx_b6_e hf
    refine tx_ci hw (tx_runN S hE hw (c_X9_skillsBy h_4) lk_X11_318 (q0 := 0) rfl rfl rfl hl.1 (rest := []) rfl (Nat.le_of_ble_eq_true rfl) ⟨by decide, by decide⟩ dX11_skills_26 ⟨Nat.zero_le _, Nat.zero_le _⟩) (fun H locs hw => ?_)
    have hw := hw.u5
    have hw := hw.u5
    have hw := hw.u5
    have hw := hw.u4
    have hw := hw.u4
    have hw := hw.u5
    have hw := hw.u6
    obtain ⟨e0, e1, e2, e3, e4, e5⟩ := tx_in6 hf
    rw [← e0, ← e1, ← e2, ← e3, ← e4, ← e5]
    exact tx_iret S hr hlk hw dX11_skills_29
  · replace hf := tx_pos hf h_3
    refine lv_iconst (v := -1) hx hb dX11_skills_11 (by decide) ?_
    have hw := hw.u6
    have hw := hw.u6
    have hw := hw.u6
    have hw := hw.u6
    have hw := hw.u6
    have hw := hw.u5
    have hw := hw.u6
    obtain ⟨e0, e1, e2, e3, e4, e5⟩ := tx_in6 hf
    rw [← e0, ← e1, ← e2, ← e3, ← e4, ← e5]
    exact tx_iret S hr hlk hw dX11_skills_12
def f_X9_timesPaid_J86 (fu : Nat) (u_T : S32) (u_Wa : S32) (u_B : S32) (u_L : S32) (p_W_0 : Nat) (pa_B : Nat) (K9 : S32 → S64 → S64 → Nat → Int32 → Int32 → Int32 → Int32 → Int32 → Option (Int32 × S32 × S64 × S64 × Nat)) (u_W : S32) (v_L : S64) (v_N : S64) (w3 : Int32) (w4 : Int32) (w6 : Int32) (w7 : Int32) (t0 : Int32) (t1 : Int32) : Option (Int32 × S32 × S64 × S64 × Nat) := tx_let (t0 + t1) fun (y_15 : Int32) => tx_let (w7 + (1 : Int32)) fun (y_16 : Int32) => K9 u_W v_L v_N pa_B w3 w4 y_15 w6 y_16
def f_X9_timesPaid_J9 (fu : Nat) (u_T : S32) (u_Wa : S32) (u_B : S32) (u_L : S32) (p_W_0 : Nat) (pa_B : Nat) (K9 : S32 → S64 → S64 → Nat → Int32 → Int32 → Int32 → Int32 → Int32 → Option (Int32 × S32 × S64 × S64 × Nat)) (u_W : S32) (v_L : S64) (v_N : S64) (q_W_0 : Nat) (w3 : Int32) (w4 : Int32) (w5 : Int32) (w6 : Int32) (w7 : Int32) : Option (Int32 × S32 × S64 × S64 × Nat) := if (10 : Int32) ≤ w7 then (some (w5, u_W, v_L, v_N, q_W_0)) else (tx_b1 (f_X10_copy fu u_Wa u_W) fun (u_W_3 : S32) => tx_let (up2 u_W_3 0 3 w6) fun (u_W_4 : S32) => tx_b3 (f_X10_goWeeks fu u_B u_L u_W_4 v_L v_N w3 (1 : Int32)) fun (u_W_6 : S32) (v_L_7 : S64) (v_N_8 : S64) => tx_let (u_W_6 0 3) fun (y_9 : Int32) => tx_b1 (f_X10_sum_tX10r7 fu u_W_6 u_B) fun (r_11 : Int32) => tx_b1 (f_X10_sum_tX10r7 fu u_Wa u_B) fun (r_13 : Int32) => if (r_11 - r_13) < w4 then (f_X9_timesPaid_J86 fu u_T u_Wa u_B u_L p_W_0 pa_B K9 u_W_6 v_L_7 v_N_8 w3 w4 y_9 w7 w5 (0 : Int32)) else (f_X9_timesPaid_J86 fu u_T u_Wa u_B u_L p_W_0 pa_B K9 u_W_6 v_L_7 v_N_8 w3 w4 y_9 w7 w5 (1 : Int32)))
def f_X9_timesPaid_L9 (fu : Nat) (u_T : S32) (u_Wa : S32) (u_B : S32) (u_L : S32) (p_W_0 : Nat) (pa_B : Nat) : Nat → S32 → S64 → S64 → Nat → Int32 → Int32 → Int32 → Int32 → Int32 → Option (Int32 × S32 × S64 × S64 × Nat)
  | 0 => fun _ _ _ _ _ _ _ _ _ => none
  | n + 1 => f_X9_timesPaid_J9 fu u_T u_Wa u_B u_L p_W_0 pa_B (f_X9_timesPaid_L9 fu u_T u_Wa u_B u_L p_W_0 pa_B n)
def f_X9_timesPaid (fu : Nat) (u_T : S32) (u_Wa : S32) (u_B : S32) (u_L : S32) (p_W_0 : Nat) (pa_B : Nat) (u_W : S32) (v_L : S64) (v_N : S64) (x2 : Int32) (x3 : Int32) (x4 : Int32) : Option (Int32 × S32 × S64 × S64 × Nat) := f_X9_timesPaid_L9 fu u_T u_Wa u_B u_L p_W_0 pa_B fu u_W v_L v_N p_W_0 x3 x4 (0 : Int32) x2 (0 : Int32)
set_option maxHeartbeats 4000000 in
set_option maxRecDepth 100000 in
theorem c_X9_timesPaid {l : Launch} {g : GG} {A : Nat → Prop} {X : va_W} {fu : Nat} {a_T a_Wa a_W a_B a_L a_N : Nat → Nat} {p_Wa_16 p_W_0 : Nat} {u_T : S32} {u_Wa : S32} {u_W : S32} {u_B : S32} {u_L : S32} {v_L : S64} {v_N : S64} {x2 : Int32} {x3 : Int32} {x4 : Int32} {r : Int32} {zu_W : S32} {zv_L : S64} {zv_N : S64} {zq_W_0 : Nat} (hf : f_X9_timesPaid fu u_T u_Wa u_B u_L p_W_0 (a_B 0) u_W v_L v_N x2 x3 x4 = some (r, zu_W, zv_L, zv_N, zq_W_0)) : MI l yX9_timesPaid cX9_timesPaid 8 (some .int) 6 g A (cl_X9 g a_T (a_W 0) u_T ++ (cl_X10 g a_Wa (a_B 0) p_Wa_16 u_Wa ++ (cl_X10 g a_W p_W_0 (a_N 0) u_W ++ (cl_X0 g a_B (a_L 0) u_B ++ (cl_X5 g a_L u_L v_L ++ (cl_N g a_N v_N ++ X)))))) [.ref (a_T 0), .ref (a_Wa 0), .int x2, .int x3, .int x4] r (cl_X9 g a_T (a_W 0) u_T ++ (cl_X10 g a_Wa (a_B 0) p_Wa_16 u_Wa ++ (cl_X10 g a_W zq_W_0 (a_N 0) zu_W ++ (cl_X0 g a_B (a_L 0) u_B ++ (cl_X5 g a_L u_L zv_L ++ (cl_N g a_N zv_N ++ X)))))) := by
  refine tx_start (av := [.ref (a_T 0), .ref (a_Wa 0), .int x2, .int x3, .int x4]) (by decide) (Nat.le_of_ble_eq_true rfl) ?_
  intro p e s m below meth c ls S hr hlk hE hw hl
  have S : CallFix p m c cX9_timesPaid 8 s (List.toArray [.ref (a_T 0), .ref (a_Wa 0), .int x2, .int x3, .int x4]) (Cond.code yX9_timesPaid cX9_timesPaid 8 (some .int) :: allW) RX9 := S
  have hx := S.1
  have hb := S.2.1
  have hown := S.2.2.2.1
  have hts : ∀ w ∈ allW, w.before (List.toArray [.ref (a_T 0), .ref (a_Wa 0), .int x2, .int x3, .int x4]) s = true := fun w h => S.2.2.2.2 w (List.mem_cons_of_mem _ h)
  have hl : lv_has ls 8 [(0, .ref (a_T 0)), (1, .ref (a_Wa 0)), (2, .int x2), (3, .int x3), (4, .int x4)] := hl
  have J86 : ∀ {K9 : S32 → S64 → S64 → Nat → Int32 → Int32 → Int32 → Int32 → Int32 → Option (Int32 × S32 × S64 × S64 × Nat)} (hK9 : ∀ {u_W : S32} {v_L : S64} {v_N : S64} {q_W_0 : Nat} {w3 : Int32} {w4 : Int32} {w5 : Int32} {w6 : Int32} {w7 : Int32} {H : Heap} {locs : List Loc} {ls : Array Slot}, K9 u_W v_L v_N q_W_0 w3 w4 w5 w6 w7 = some (r, zu_W, zv_L, zv_N, zq_W_0) → WD g A s.heap (cl_X9 g a_T (a_W 0) u_T ++ (cl_X10 g a_Wa (a_B 0) p_Wa_16 u_Wa ++ (cl_X10 g a_W q_W_0 (a_N 0) u_W ++ (cl_X0 g a_B (a_L 0) u_B ++ (cl_X5 g a_L u_L v_L ++ (cl_N g a_N v_N ++ X)))))) H locs → lv_has ls 8 [(0, .ref (a_T 0)), (1, .ref (a_Wa 0)), (3, .int w3), (4, .int w4), (5, .int w5), (6, .int w6), (7, .int w7)] → W p l e (rmH 6) s m (List.toArray [.ref (a_T 0), .ref (a_Wa 0), .int x2, .int x3, .int x4]) below meth c H locs 0 0 (MQ below (va_Qi (fun r2 (_ : Unit) => r2 = r) (fun _ t => POST g A (cl_X9 g a_T (a_W 0) u_T ++ (cl_X10 g a_Wa (a_B 0) p_Wa_16 u_Wa ++ (cl_X10 g a_W zq_W_0 (a_N 0) zu_W ++ (cl_X0 g a_B (a_L 0) u_B ++ (cl_X5 g a_L u_L zv_L ++ (cl_N g a_N zv_N ++ X)))))) t) A) (List.toArray [.ref (a_T 0), .ref (a_Wa 0), .int x2, .int x3, .int x4]) s 0 0 A) (F0 m 9 ls [])), ∀ {u_W : S32} {v_L : S64} {v_N : S64} {w3 : Int32} {w4 : Int32} {w6 : Int32} {w7 : Int32} {t0 : Int32} {t1 : Int32} {H : Heap} {locs : List Loc} {ls : Array Slot}, f_X9_timesPaid_J86 fu u_T u_Wa u_B u_L p_W_0 (a_B 0) K9 u_W v_L v_N w3 w4 w6 w7 t0 t1 = some (r, zu_W, zv_L, zv_N, zq_W_0) → WD g A s.heap (cl_X9 g a_T (a_W 0) u_T ++ (cl_X10 g a_Wa (a_B 0) p_Wa_16 u_Wa ++ (cl_X10 g a_W (a_B 0) (a_N 0) u_W ++ (cl_X0 g a_B (a_L 0) u_B ++ (cl_X5 g a_L u_L v_L ++ (cl_N g a_N v_N ++ X)))))) H locs → lv_has ls 8 [(0, .ref (a_T 0)), (1, .ref (a_Wa 0)), (3, .int w3), (4, .int w4), (6, .int w6), (7, .int w7)] → W p l e (rmH 6) s m (List.toArray [.ref (a_T 0), .ref (a_Wa 0), .int x2, .int x3, .int x4]) below meth c H locs 0 0 (MQ below (va_Qi (fun r2 (_ : Unit) => r2 = r) (fun _ t => POST g A (cl_X9 g a_T (a_W 0) u_T ++ (cl_X10 g a_Wa (a_B 0) p_Wa_16 u_Wa ++ (cl_X10 g a_W zq_W_0 (a_N 0) zu_W ++ (cl_X0 g a_B (a_L 0) u_B ++ (cl_X5 g a_L u_L zv_L ++ (cl_N g a_N zv_N ++ X)))))) t) A) (List.toArray [.ref (a_T 0), .ref (a_Wa 0), .int x2, .int x3, .int x4]) s 0 0 A) (F0 m 86 ls [.int t1, .int t0]) := by
    intro K9 hK9 u_W v_L v_N w3 w4 w6 w7 t0 t1 H locs ls hf hw hl
    unfold f_X9_timesPaid_J86 at hf
    refine lv_iadd hx hb dX9_timesPaid_86 ?_
    refine lv_topi (fun y_15 ey_15 => ?_)
    replace hf := tx_let_e hf ey_15
    refine lv_istore (lv' := [(5, .int y_15), (0, .ref (a_T 0)), (1, .ref (a_Wa 0)), (3, .int w3), (4, .int w4), (6, .int w6), (7, .int w7)]) hx hb dX9_timesPaid_87 hl (by decide) rfl (fun ls hl => ?_)
    obtain ⟨y_16, ey_16⟩ : ∃ y : Int32, y = w7 + (1 : Int32) := ⟨_, rfl⟩
    replace hf := tx_let_e hf ey_16
    refine lv_iinc (v := y_16) (lv' := [(7, .int y_16), (5, .int y_15), (0, .ref (a_T 0)), (1, .ref (a_Wa 0)), (3, .int w3), (4, .int w4), (6, .int w6)]) hx hb dX9_timesPaid_89 hl (k := 6) rfl (by rw [ey_16]; rfl) (by decide) rfl (fun ls hl => ?_)
    refine lv_goto (tgt := 9) hx hb dX9_timesPaid_92 (by decide) ?_
    exact hK9 hf hw (lv_sub hl [2, 3, 4, 5, 1, 6, 0] rfl)
  have J9 : ∀ {K9 : S32 → S64 → S64 → Nat → Int32 → Int32 → Int32 → Int32 → Int32 → Option (Int32 × S32 × S64 × S64 × Nat)} (hK9 : ∀ {u_W : S32} {v_L : S64} {v_N : S64} {q_W_0 : Nat} {w3 : Int32} {w4 : Int32} {w5 : Int32} {w6 : Int32} {w7 : Int32} {H : Heap} {locs : List Loc} {ls : Array Slot}, K9 u_W v_L v_N q_W_0 w3 w4 w5 w6 w7 = some (r, zu_W, zv_L, zv_N, zq_W_0) → WD g A s.heap (cl_X9 g a_T (a_W 0) u_T ++ (cl_X10 g a_Wa (a_B 0) p_Wa_16 u_Wa ++ (cl_X10 g a_W q_W_0 (a_N 0) u_W ++ (cl_X0 g a_B (a_L 0) u_B ++ (cl_X5 g a_L u_L v_L ++ (cl_N g a_N v_N ++ X)))))) H locs → lv_has ls 8 [(0, .ref (a_T 0)), (1, .ref (a_Wa 0)), (3, .int w3), (4, .int w4), (5, .int w5), (6, .int w6), (7, .int w7)] → W p l e (rmH 6) s m (List.toArray [.ref (a_T 0), .ref (a_Wa 0), .int x2, .int x3, .int x4]) below meth c H locs 0 0 (MQ below (va_Qi (fun r2 (_ : Unit) => r2 = r) (fun _ t => POST g A (cl_X9 g a_T (a_W 0) u_T ++ (cl_X10 g a_Wa (a_B 0) p_Wa_16 u_Wa ++ (cl_X10 g a_W zq_W_0 (a_N 0) zu_W ++ (cl_X0 g a_B (a_L 0) u_B ++ (cl_X5 g a_L u_L zv_L ++ (cl_N g a_N zv_N ++ X)))))) t) A) (List.toArray [.ref (a_T 0), .ref (a_Wa 0), .int x2, .int x3, .int x4]) s 0 0 A) (F0 m 9 ls [])), ∀ {u_W : S32} {v_L : S64} {v_N : S64} {q_W_0 : Nat} {w3 : Int32} {w4 : Int32} {w5 : Int32} {w6 : Int32} {w7 : Int32} {H : Heap} {locs : List Loc} {ls : Array Slot}, f_X9_timesPaid_J9 fu u_T u_Wa u_B u_L p_W_0 (a_B 0) K9 u_W v_L v_N q_W_0 w3 w4 w5 w6 w7 = some (r, zu_W, zv_L, zv_N, zq_W_0) → WD g A s.heap (cl_X9 g a_T (a_W 0) u_T ++ (cl_X10 g a_Wa (a_B 0) p_Wa_16 u_Wa ++ (cl_X10 g a_W q_W_0 (a_N 0) u_W ++ (cl_X0 g a_B (a_L 0) u_B ++ (cl_X5 g a_L u_L v_L ++ (cl_N g a_N v_N ++ X)))))) H locs → lv_has ls 8 [(0, .ref (a_T 0)), (1, .ref (a_Wa 0)), (3, .int w3), (4, .int w4), (5, .int w5), (6, .int w6), (7, .int w7)] → W p l e (rmH 6) s m (List.toArray [.ref (a_T 0), .ref (a_Wa 0), .int x2, .int x3, .int x4]) below meth c H locs 0 0 (MQ below (va_Qi (fun r2 (_ : Unit) => r2 = r) (fun _ t => POST g A (cl_X9 g a_T (a_W 0) u_T ++ (cl_X10 g a_Wa (a_B 0) p_Wa_16 u_Wa ++ (cl_X10 g a_W zq_W_0 (a_N 0) zu_W ++ (cl_X0 g a_B (a_L 0) u_B ++ (cl_X5 g a_L u_L zv_L ++ (cl_N g a_N zv_N ++ X)))))) t) A) (List.toArray [.ref (a_T 0), .ref (a_Wa 0), .int x2, .int x3, .int x4]) s 0 0 A) (F0 m 9 ls []) := by
    intro K9 hK9 u_W v_L v_N q_W_0 w3 w4 w5 w6 w7 H locs ls hf hw hl
    unfold f_X9_timesPaid_J9 at hf
    refine lv_iload hx hb dX9_timesPaid_9 (lv_at hl 6 rfl) ?_
    refine lv_bipush (v := 10) hx hb dX9_timesPaid_11 (by decide) ?_
    refine lv_icmp_ge (tgt := 95) hx hb dX9_timesPaid_13 (by decide) (fun h_1 => ?_) (fun h_1 => ?_)
    · replace hf := tx_pos hf h_1
      refine lv_iload hx hb dX9_timesPaid_95 (lv_at hl 4 rfl) ?_
      obtain ⟨e0, e1, e2, e3, e4⟩ := tx_in5 hf
      rw [← e0, ← e1, ← e2, ← e3, ← e4]
      exact tx_iret S hr hlk hw dX9_timesPaid_97
    · replace hf := tx_neg hf h_1
      refine lv_aload_n hx hb dX9_timesPaid_16 rfl (lv_at hl 0 rfl) ?_
      refine gf_X9_20 S hE hw 0 rfl rfl dX9_timesPaid_17 ?_
      refine lv_aload_n hx hb dX9_timesPaid_20 rfl (lv_at hl 1 rfl) ?_
      have hw := hw.u1
      have hw := hw.u2
      obtain ⟨u_W_3, h_2, hf⟩ := tx_b1_e hf
      refine tx_cv hw (tx_runN S hE hw (c_X10_copy h_2) lk_X9_24 (q0 := 0) rfl rfl rfl hl.1 (rest := []) rfl (Nat.le_of_ble_eq_true rfl) ⟨by decide, by decide⟩ dX9_timesPaid_21 ⟨Nat.zero_le _, Nat.zero_le _⟩) (fun H locs hw => ?_)
      refine lv_aload_n hx hb dX9_timesPaid_24 rfl (lv_at hl 0 rfl) ?_
      refine gf_X9_20 S hE hw 24 rfl rfl dX9_timesPaid_25 ?_
      refine lv_iload hx hb dX9_timesPaid_28 (lv_at hl 5 rfl) ?_
      obtain ⟨u_W_4, eu_W_4⟩ : ∃ z : S32, z = up2 u_W_3 0 3 w6 := ⟨_, rfl⟩
      replace hf := tx_let_e hf eu_W_4
      refine pf_X9_148 (ws' := cl_X10 g a_W (a_B 0) (a_N 0) u_W_4 ++ (cl_X10 g a_Wa (a_B 0) p_Wa_16 u_Wa ++ (cl_X9 g a_T (a_W 0) u_T ++ (cl_X0 g a_B (a_L 0) u_B ++ (cl_X5 g a_L u_L v_L ++ (cl_N g a_N v_N ++ X)))))) S hE hw rfl rfl 0 rfl (Nat.le_of_ble_eq_true rfl) (by rw [eu_W_4]; rfl) dX9_timesPaid_30 (fun H locs hw => ?_)
      refine lv_aload_n hx hb dX9_timesPaid_33 rfl (lv_at hl 0 rfl) ?_
      refine gf_X9_20 S hE hw 24 rfl rfl dX9_timesPaid_34 ?_
      refine lv_iload_n hx hb dX9_timesPaid_37 rfl (lv_at hl 2 rfl) ?_
      refine lv_iconst (v := 1) hx hb dX9_timesPaid_38 (by decide) ?_
      have hw := hw.u5
      have hw := hw.u5
      have hw := hw.u5
      have hw := hw.u3
      obtain ⟨u_W_6, v_L_7, v_N_8, h_5, hf⟩ := tx_b3_e hf
      refine tx_cv hw (tx_runN S hE hw (c_X10_goWeeks h_5) lk_X9_28 (q0 := 0) rfl rfl rfl hl.1 (rest := []) rfl (Nat.le_of_ble_eq_true rfl) ⟨by decide, by decide⟩ dX9_timesPaid_39 ⟨Nat.zero_le _, Nat.zero_le _⟩) (fun H locs hw => ?_)
      refine lv_aload_n hx hb dX9_timesPaid_42 rfl (lv_at hl 0 rfl) ?_
      refine gf_X9_20 S hE hw 42 rfl rfl dX9_timesPaid_43 ?_
      refine gf_X9_148 S hE hw 0 rfl rfl dX9_timesPaid_46 ?_
      refine lv_topi (fun y_9 ey_9 => ?_)
      replace hf := tx_let_e hf ey_9
      refine lv_istore (lv' := [(6, .int y_9), (0, .ref (a_T 0)), (1, .ref (a_Wa 0)), (3, .int w3), (4, .int w4), (5, .int w5), (7, .int w7)]) hx hb dX9_timesPaid_49 hl (by decide) rfl (fun ls hl => ?_)
      refine lv_iload hx hb dX9_timesPaid_51 (lv_at hl 5 rfl) ?_
      refine lv_aload_n hx hb dX9_timesPaid_53 rfl (lv_at hl 1 rfl) ?_
      refine gf_X9_20 S hE hw 42 rfl rfl dX9_timesPaid_54 ?_
      refine lv_aload_n hx hb dX9_timesPaid_57 rfl (lv_at hl 1 rfl) ?_
      refine gf_X9_20 S hE hw 42 rfl rfl dX9_timesPaid_58 ?_
      refine gf_X9_32 S hE hw 0 rfl rfl dX9_timesPaid_61 ?_
      obtain ⟨r_11, h_10, hf⟩ := tx_b1_e hf
      refine tx_ci hw (tx_runN S hE hw (c_X10_sum_tX10r7 h_10) lk_X9_35 (q0 := 0) rfl rfl rfl hl.1 (rest := [.int w5]) rfl (Nat.le_of_ble_eq_true rfl) ⟨by decide, by decide⟩ dX9_timesPaid_64 ⟨Nat.zero_le _, Nat.zero_le _⟩) (fun H locs hw => ?_)
      refine lv_aload_n hx hb dX9_timesPaid_67 rfl (lv_at hl 2 rfl) ?_
      refine lv_aload_n hx hb dX9_timesPaid_68 rfl (lv_at hl 2 rfl) ?_
      refine gf_X9_32 S hE hw 30 rfl rfl dX9_timesPaid_69 ?_
      have hw := hw.u1
      have hw := hw.u4
      obtain ⟨r_13, h_12, hf⟩ := tx_b1_e hf
      refine tx_ci hw (tx_runN S hE hw (c_X10_sum_tX10r7 h_12) lk_X9_35 (q0 := 0) rfl rfl rfl hl.1 (rest := [.int r_11, .int w5]) rfl (Nat.le_of_ble_eq_true rfl) ⟨by decide, by decide⟩ dX9_timesPaid_72 ⟨Nat.zero_le _, Nat.zero_le _⟩) (fun H locs hw => ?_)
      refine lv_isub hx hb dX9_timesPaid_75 ?_
      refine lv_iload hx hb dX9_timesPaid_76 (lv_at hl 4 rfl) ?_
      refine lv_icmp_lt (tgt := 85) hx hb dX9_timesPaid_78 (by decide) (fun h_14 => ?_) (fun h_14 => ?_)
      · replace hf := tx_pos hf h_14
        refine lv_iconst (v := 0) hx hb dX9_timesPaid_85 (by decide) ?_
        have hw := hw.u4
        have hw := hw.u4
        have hw := hw.u3
        have hw := hw.u4
        have hw := hw.u4
        have hw := hw.u5
        exact J86 hK9 hf hw (lv_sub hl [1, 2, 3, 4, 0, 6] rfl)
      · replace hf := tx_neg hf h_14
        refine lv_iconst (v := 1) hx hb dX9_timesPaid_81 (by decide) ?_
        refine lv_goto (tgt := 86) hx hb dX9_timesPaid_82 (by decide) ?_
        have hw := hw.u4
        have hw := hw.u4
        have hw := hw.u3
        have hw := hw.u4
        have hw := hw.u4
        have hw := hw.u5
        exact J86 hK9 hf hw (lv_sub hl [1, 2, 3, 4, 0, 6] rfl)
  have L9 : ∀ (n : Nat), ∀ {u_W : S32} {v_L : S64} {v_N : S64} {q_W_0 : Nat} {w3 : Int32} {w4 : Int32} {w5 : Int32} {w6 : Int32} {w7 : Int32} {H : Heap} {locs : List Loc} {ls : Array Slot}, f_X9_timesPaid_L9 fu u_T u_Wa u_B u_L p_W_0 (a_B 0) n u_W v_L v_N q_W_0 w3 w4 w5 w6 w7 = some (r, zu_W, zv_L, zv_N, zq_W_0) → WD g A s.heap (cl_X9 g a_T (a_W 0) u_T ++ (cl_X10 g a_Wa (a_B 0) p_Wa_16 u_Wa ++ (cl_X10 g a_W q_W_0 (a_N 0) u_W ++ (cl_X0 g a_B (a_L 0) u_B ++ (cl_X5 g a_L u_L v_L ++ (cl_N g a_N v_N ++ X)))))) H locs → lv_has ls 8 [(0, .ref (a_T 0)), (1, .ref (a_Wa 0)), (3, .int w3), (4, .int w4), (5, .int w5), (6, .int w6), (7, .int w7)] → W p l e (rmH 6) s m (List.toArray [.ref (a_T 0), .ref (a_Wa 0), .int x2, .int x3, .int x4]) below meth c H locs 0 0 (MQ below (va_Qi (fun r2 (_ : Unit) => r2 = r) (fun _ t => POST g A (cl_X9 g a_T (a_W 0) u_T ++ (cl_X10 g a_Wa (a_B 0) p_Wa_16 u_Wa ++ (cl_X10 g a_W zq_W_0 (a_N 0) zu_W ++ (cl_X0 g a_B (a_L 0) u_B ++ (cl_X5 g a_L u_L zv_L ++ (cl_N g a_N zv_N ++ X)))))) t) A) (List.toArray [.ref (a_T 0), .ref (a_Wa 0), .int x2, .int x3, .int x4]) s 0 0 A) (F0 m 9 ls []) := by
    intro  n
    induction n with
    | zero => intro u_W v_L v_N q_W_0 w3 w4 w5 w6 w7 H locs ls hf; exact absurd hf (by intro q; cases q)
    | succ n ih => exact fun hf hw hl => J9 ih hf hw hl
  unfold f_X9_timesPaid at hf
  refine lv_iconst (v := 0) hx hb dX9_timesPaid_0 (by decide) ?_
  refine lv_istore (lv' := [(5, .int (0 : Int32)), (0, .ref (a_T 0)), (1, .ref (a_Wa 0)), (2, .int x2), (3, .int x3), (4, .int x4)]) hx hb dX9_timesPaid_1 hl (by decide) rfl (fun ls hl => ?_)
  refine lv_iload_n hx hb dX9_timesPaid_3 rfl (lv_at hl 3 rfl) ?_
  refine lv_istore (lv' := [(6, .int x2), (5, .int (0 : Int32)), (0, .ref (a_T 0)), (1, .ref (a_Wa 0)), (2, .int x2), (3, .int x3), (4, .int x4)]) hx hb dX9_timesPaid_4 hl (by decide) rfl (fun ls hl => ?_)
  refine lv_iconst (v := 0) hx hb dX9_timesPaid_6 (by decide) ?_
  refine lv_istore (lv' := [(7, .int (0 : Int32)), (6, .int x2), (5, .int (0 : Int32)), (0, .ref (a_T 0)), (1, .ref (a_Wa 0)), (2, .int x2), (3, .int x3), (4, .int x4)]) hx hb dX9_timesPaid_7 hl (by decide) rfl (fun ls hl => ?_)
  exact L9 fu hf hw (lv_sub hl [3, 4, 6, 7, 2, 1, 0] rfl)
def f_X11_chance (fu : Nat) (u_T : S32) (u_Y : S32) (u_W : S32) (u_B : S32) (u_L : S32) (p_W2_0 : Nat) (pa_B : Nat) (u_W2 : S32) (v_L : S64) (v_N : S64) (x1 : Int32) (x2 : Int32) (x3 : Int32) : Option (Int32 × S32 × S64 × S64 × Nat) := if x1 < (0 : Int32) then (some ((-1 : Int32), u_W2, v_L, v_N, p_W2_0)) else (if x2 < (1 : Int32) then (some ((-1 : Int32), u_W2, v_L, v_N, p_W2_0)) else (if (99 : Int32) < x2 then (some ((-1 : Int32), u_W2, v_L, v_N, p_W2_0)) else (if x3 < (0 : Int32) then (some ((-1 : Int32), u_W2, v_L, v_N, p_W2_0)) else (if x3 ≤ (999 : Int32) then (tx_b5 (f_X9_timesPaid fu u_Y u_W u_B u_L p_W2_0 pa_B u_W2 v_L v_N x1 x2 x3) fun (r_7 : Int32) (u_W2_8 : S32) (v_L_9 : S64) (v_N_10 : S64) (q_11 : Nat) => some (r_7, u_W2_8, v_L_9, v_N_10, q_11)) else (some ((-1 : Int32), u_W2, v_L, v_N, p_W2_0))))))
set_option maxHeartbeats 4000000 in
set_option maxRecDepth 100000 in
theorem c_X11_chance {l : Launch} {g : GG} {A : Nat → Prop} {X : va_W} {fu : Nat} {a_T a_Y a_W a_W2 a_B a_L a_N : Nat → Nat} {p_T_0 p_T_2 p_T_3 p_T_5 p_T_7 p_T_8 p_T_9 p_W_16 p_W2_0 : Nat} {u_T : S32} {u_Y : S32} {u_W : S32} {u_W2 : S32} {u_B : S32} {u_L : S32} {v_L : S64} {v_N : S64} {x1 : Int32} {x2 : Int32} {x3 : Int32} {r : Int32} {zu_W2 : S32} {zv_L : S64} {zv_N : S64} {zq_W2_0 : Nat} (hf : f_X11_chance fu u_T u_Y u_W u_B u_L p_W2_0 (a_B 0) u_W2 v_L v_N x1 x2 x3 = some (r, zu_W2, zv_L, zv_N, zq_W2_0)) : MI l yX11_chance cX11_chance 4 (some .int) 7 g A (cl_X11 g a_T p_T_0 (a_B 0) p_T_2 p_T_3 (a_W 0) p_T_5 (a_Y 0) p_T_7 p_T_8 p_T_9 u_T ++ (cl_X9 g a_Y (a_W2 0) u_Y ++ (cl_X10 g a_W (a_B 0) p_W_16 u_W ++ (cl_X10 g a_W2 p_W2_0 (a_N 0) u_W2 ++ (cl_X0 g a_B (a_L 0) u_B ++ (cl_X5 g a_L u_L v_L ++ (cl_N g a_N v_N ++ X))))))) [.ref (a_T 0), .int x1, .int x2, .int x3] r (cl_X11 g a_T p_T_0 (a_B 0) p_T_2 p_T_3 (a_W 0) p_T_5 (a_Y 0) p_T_7 p_T_8 p_T_9 u_T ++ (cl_X9 g a_Y (a_W2 0) u_Y ++ (cl_X10 g a_W (a_B 0) p_W_16 u_W ++ (cl_X10 g a_W2 zq_W2_0 (a_N 0) zu_W2 ++ (cl_X0 g a_B (a_L 0) u_B ++ (cl_X5 g a_L u_L zv_L ++ (cl_N g a_N zv_N ++ X))))))) := by
  refine tx_start (av := [.ref (a_T 0), .int x1, .int x2, .int x3]) (by decide) (Nat.le_of_ble_eq_true rfl) ?_
  intro p e s m below meth c ls S hr hlk hE hw hl
  have S : CallFix p m c cX11_chance 4 s (List.toArray [.ref (a_T 0), .int x1, .int x2, .int x3]) (Cond.code yX11_chance cX11_chance 4 (some .int) :: allW) RX11 := S
  have hx := S.1
  have hb := S.2.1
  have hown := S.2.2.2.1
  have hts : ∀ w ∈ allW, w.before (List.toArray [.ref (a_T 0), .int x1, .int x2, .int x3]) s = true := fun w h => S.2.2.2.2 w (List.mem_cons_of_mem _ h)
  have hl : lv_has ls 4 [(0, .ref (a_T 0)), (1, .int x1), (2, .int x2), (3, .int x3)] := hl
  unfold f_X11_chance at hf
  refine lv_iload_n hx hb dX11_chance_0 rfl (lv_at hl 1 rfl) ?_
  refine lv_if_lt (tgt := 26) hx hb dX11_chance_1 (by decide) (fun h_1 => ?_) (fun h_1 => ?_)
  · replace hf := tx_pos hf h_1
    refine lv_iconst (v := -1) hx hb dX11_chance_26 (by decide) ?_
    obtain ⟨e0, e1, e2, e3, e4⟩ := tx_in5 hf
    rw [← e0, ← e1, ← e2, ← e3, ← e4]
    exact tx_iret S hr hlk hw dX11_chance_27
  · replace hf := tx_neg hf h_1
    refine lv_iload_n hx hb dX11_chance_4 rfl (lv_at hl 2 rfl) ?_
    refine lv_iconst (v := 1) hx hb dX11_chance_5 (by decide) ?_
    refine lv_icmp_lt (tgt := 26) hx hb dX11_chance_6 (by decide) (fun h_2 => ?_) (fun h_2 => ?_)
    · replace hf := tx_pos hf h_2
      refine lv_iconst (v := -1) hx hb dX11_chance_26 (by decide) ?_
      obtain ⟨e0, e1, e2, e3, e4⟩ := tx_in5 hf
      rw [← e0, ← e1, ← e2, ← e3, ← e4]
      exact tx_iret S hr hlk hw dX11_chance_27
    · replace hf := tx_neg hf h_2
      refine lv_iload_n hx hb dX11_chance_9 rfl (lv_at hl 2 rfl) ?_
      refine lv_bipush (v := 99) hx hb dX11_chance_10 (by decide) ?_
      refine lv_icmp_gt (tgt := 26) hx hb dX11_chance_12 (by decide) (fun h_3 => ?_) (fun h_3 => ?_)
      · replace hf := tx_pos hf h_3
        refine lv_iconst (v := -1) hx hb dX11_chance_26 (by decide) ?_
        obtain ⟨e0, e1, e2, e3, e4⟩ := tx_in5 hf
        rw [← e0, ← e1, ← e2, ← e3, ← e4]
        exact tx_iret S hr hlk hw dX11_chance_27
      · replace hf := tx_neg hf h_3
        refine lv_iload_n hx hb dX11_chance_15 rfl (lv_at hl 3 rfl) ?_
        refine lv_if_lt (tgt := 26) hx hb dX11_chance_16 (by decide) (fun h_4 => ?_) (fun h_4 => ?_)
        · replace hf := tx_pos hf h_4
          refine lv_iconst (v := -1) hx hb dX11_chance_26 (by decide) ?_
          obtain ⟨e0, e1, e2, e3, e4⟩ := tx_in5 hf
          rw [← e0, ← e1, ← e2, ← e3, ← e4]
          exact tx_iret S hr hlk hw dX11_chance_27
        · replace hf := tx_neg hf h_4
          refine lv_iload_n hx hb dX11_chance_19 rfl (lv_at hl 3 rfl) ?_
          refine lv_sipush (v := 999) hx hb dX11_chance_20 (by decide) ?_
          refine lv_icmp_le (tgt := 28) hx hb dX11_chance_23 (by decide) (fun h_5 => ?_) (fun h_5 => ?_)
          · replace hf := tx_pos hf h_5
            refine lv_aload_n hx hb dX11_chance_28 rfl (lv_at hl 0 rfl) ?_
            refine gf_X11_52 S hE hw 0 rfl rfl dX11_chance_29 ?_
            refine lv_aload_n hx hb dX11_chance_32 rfl (lv_at hl 0 rfl) ?_
            refine gf_X11_42 S hE hw 0 rfl rfl dX11_chance_33 ?_
            refine lv_iload_n hx hb dX11_chance_36 rfl (lv_at hl 1 rfl) ?_
            refine lv_iload_n hx hb dX11_chance_37 rfl (lv_at hl 2 rfl) ?_
            refine lv_iload_n hx hb dX11_chance_38 rfl (lv_at hl 3 rfl) ?_
            have hw := hw.u6
            have hw := hw.u6
            have hw := hw.u6
            have hw := hw.u6
            have hw := hw.u6
            have hw := hw.u6
            obtain ⟨r_7, u_W2_8, v_L_9, v_N_10, q_11, h_6, hf⟩ := tx_b5_e hf
            refine tx_ci hw (tx_runN S hE hw (c_X9_timesPaid h_6) lk_X11_322 (q0 := 0) rfl rfl rfl hl.1 (rest := []) rfl (Nat.le_of_ble_eq_true rfl) ⟨by decide, by decide⟩ dX11_chance_39 ⟨Nat.zero_le _, Nat.zero_le _⟩) (fun H locs hw => ?_)
            have hw := hw.u5
            have hw := hw.u5
            have hw := hw.u5
            have hw := hw.u5
            have hw := hw.u5
            have hw := hw.u5
            have hw := hw.u6
            obtain ⟨e0, e1, e2, e3, e4⟩ := tx_in5 hf
            rw [← e0, ← e1, ← e2, ← e3, ← e4]
            exact tx_iret S hr hlk hw dX11_chance_42
          · replace hf := tx_neg hf h_5
            refine lv_iconst (v := -1) hx hb dX11_chance_26 (by decide) ?_
            obtain ⟨e0, e1, e2, e3, e4⟩ := tx_in5 hf
            rw [← e0, ← e1, ← e2, ← e3, ← e4]
            exact tx_iret S hr hlk hw dX11_chance_27
def f_J7_fill_53178_oX10r6_J5 (fu : Nat) (K5 : S32 → Int32 → Int32 → Int32 → Option (S32)) (u_W : S32) (w1 : Int32) (w2 : Int32) (w3 : Int32) : Option (S32) := if w3 ≤ w2 then (some u_W) else (tx_ck w2 6 <| tx_let (up2 u_W 6 w2.toNatClampNeg w1) fun (u_W_3 : S32) => tx_let (w2 + (1 : Int32)) fun (y_4 : Int32) => K5 u_W_3 w1 y_4 w3)
def f_J7_fill_53178_oX10r6_L5 (fu : Nat) : Nat → S32 → Int32 → Int32 → Int32 → Option (S32)
  | 0 => fun _ _ _ _ => none
  | n + 1 => f_J7_fill_53178_oX10r6_J5 fu (f_J7_fill_53178_oX10r6_L5 fu n)
def f_J7_fill_53178_oX10r6 (fu : Nat) (u_W : S32) (x1 : Int32) : Option (S32) := f_J7_fill_53178_oX10r6_L5 fu fu u_W x1 (0 : Int32) (6 : Int32)
set_option maxHeartbeats 4000000 in
set_option maxRecDepth 100000 in
theorem c_J7_fill_53178_oX10r6 {l : Launch} {g : GG} {A : Nat → Prop} {X : va_W} {fu : Nat} {a_W : Nat → Nat} {p_W_0 p_W_16 : Nat} {u_W : S32} {x1 : Int32} {zu_W : S32} (hf : f_J7_fill_53178_oX10r6 fu  u_W x1 = some zu_W) : MV l yJ7_fill_53178 cJ7_fill_53178 4 none 0 g A (cl_X10 g a_W p_W_0 p_W_16 u_W ++ X) [.ref (a_W 6), .int x1] (cl_X10 g a_W p_W_0 p_W_16 zu_W ++ X) := by
  refine tx_start (av := [.ref (a_W 6), .int x1]) (by decide) (Nat.le_of_ble_eq_true rfl) ?_
  intro p e s m below meth c ls S hr hlk hE hw hl
  have S : CallFix p m c cJ7_fill_53178 4 s (List.toArray [.ref (a_W 6), .int x1]) (Cond.code yJ7_fill_53178 cJ7_fill_53178 4 none :: allW) RJ7 := S
  have hx := S.1
  have hb := S.2.1
  have hown := S.2.2.2.1
  have hts : ∀ w ∈ allW, w.before (List.toArray [.ref (a_W 6), .int x1]) s = true := fun w h => S.2.2.2.2 w (List.mem_cons_of_mem _ h)
  have hl : lv_has ls 4 [(0, .ref (a_W 6)), (1, .int x1)] := hl
  have J5 : ∀ {K5 : S32 → Int32 → Int32 → Int32 → Option (S32)} (hK5 : ∀ {u_W : S32} {w1 : Int32} {w2 : Int32} {w3 : Int32} {H : Heap} {locs : List Loc} {ls : Array Slot}, K5 u_W w1 w2 w3 = some zu_W → WD g A s.heap (cl_X10 g a_W p_W_0 p_W_16 u_W ++ X) H locs → lv_has ls 4 [(0, .ref (a_W 6)), (1, .int w1), (2, .int w2), (3, .int w3)] → W p l e (rmH 0) s m (List.toArray [.ref (a_W 6), .int x1]) below meth c H locs 0 0 (MQ below (va_Qv (fun (_ : Unit) => True) (fun _ t => POST g A (cl_X10 g a_W p_W_0 p_W_16 zu_W ++ X) t) A) (List.toArray [.ref (a_W 6), .int x1]) s 0 0 A) (F0 m 5 ls [])), ∀ {u_W : S32} {w1 : Int32} {w2 : Int32} {w3 : Int32} {H : Heap} {locs : List Loc} {ls : Array Slot}, f_J7_fill_53178_oX10r6_J5 fu K5 u_W w1 w2 w3 = some zu_W → WD g A s.heap (cl_X10 g a_W p_W_0 p_W_16 u_W ++ X) H locs → lv_has ls 4 [(0, .ref (a_W 6)), (1, .int w1), (2, .int w2), (3, .int w3)] → W p l e (rmH 0) s m (List.toArray [.ref (a_W 6), .int x1]) below meth c H locs 0 0 (MQ below (va_Qv (fun (_ : Unit) => True) (fun _ t => POST g A (cl_X10 g a_W p_W_0 p_W_16 zu_W ++ X) t) A) (List.toArray [.ref (a_W 6), .int x1]) s 0 0 A) (F0 m 5 ls []) := by
    intro K5 hK5 u_W w1 w2 w3 H locs ls hf hw hl
    unfold f_J7_fill_53178_oX10r6_J5 at hf
    refine lv_iload_n hx hb dJ7_fill_53178_5 rfl (lv_at hl 2 rfl) ?_
    refine lv_iload_n hx hb dJ7_fill_53178_6 rfl (lv_at hl 3 rfl) ?_
    refine lv_icmp_ge (tgt := 20) hx hb dJ7_fill_53178_7 (by decide) (fun h_1 => ?_) (fun h_1 => ?_)
    · replace hf := tx_pos hf h_1
      obtain e0 := tx_in1 hf
      rw [← e0]
      exact tx_vret S hr hlk hw dJ7_fill_53178_20
    · replace hf := tx_neg hf h_1
      refine lv_aload_n hx hb dJ7_fill_53178_10 rfl (lv_at hl 0 rfl) ?_
      refine lv_iload_n hx hb dJ7_fill_53178_11 rfl (lv_at hl 2 rfl) ?_
      refine lv_iload_n hx hb dJ7_fill_53178_12 rfl (lv_at hl 1 rfl) ?_
      obtain ⟨h_2, hf⟩ := tx_ck_e hf
      obtain ⟨u_W_3, eu_W_3⟩ : ∃ z : S32, z = up2 u_W 6 w2.toNatClampNeg w1 := ⟨_, rfl⟩
      replace hf := tx_let_e hf eu_W_3
      refine tx_iast (ws' := cl_X10 g a_W p_W_0 p_W_16 u_W_3 ++ X) S hE hw 2 rfl h_2 (by rw [eu_W_3]; rfl) dJ7_fill_53178_13 (fun H locs hw => ?_)
      obtain ⟨y_4, ey_4⟩ : ∃ y : Int32, y = w2 + (1 : Int32) := ⟨_, rfl⟩
      replace hf := tx_let_e hf ey_4
      refine lv_iinc (v := y_4) (lv' := [(2, .int y_4), (0, .ref (a_W 6)), (1, .int w1), (3, .int w3)]) hx hb dJ7_fill_53178_14 hl (k := 2) rfl (by rw [ey_4]; rfl) (by decide) rfl (fun ls hl => ?_)
      refine lv_goto (tgt := 5) hx hb dJ7_fill_53178_17 (by decide) ?_
      exact hK5 hf hw (lv_sub hl [1, 2, 0, 3] rfl)
  have L5 : ∀ (n : Nat), ∀ {u_W : S32} {w1 : Int32} {w2 : Int32} {w3 : Int32} {H : Heap} {locs : List Loc} {ls : Array Slot}, f_J7_fill_53178_oX10r6_L5 fu n u_W w1 w2 w3 = some zu_W → WD g A s.heap (cl_X10 g a_W p_W_0 p_W_16 u_W ++ X) H locs → lv_has ls 4 [(0, .ref (a_W 6)), (1, .int w1), (2, .int w2), (3, .int w3)] → W p l e (rmH 0) s m (List.toArray [.ref (a_W 6), .int x1]) below meth c H locs 0 0 (MQ below (va_Qv (fun (_ : Unit) => True) (fun _ t => POST g A (cl_X10 g a_W p_W_0 p_W_16 zu_W ++ X) t) A) (List.toArray [.ref (a_W 6), .int x1]) s 0 0 A) (F0 m 5 ls []) := by
    intro  n
    induction n with
    | zero => intro u_W w1 w2 w3 H locs ls hf; exact absurd hf (by intro q; cases q)
    | succ n ih => exact fun hf hw hl => J5 ih hf hw hl
  unfold f_J7_fill_53178_oX10r6 at hf
  refine lv_iconst (v := 0) hx hb dJ7_fill_53178_0 (by decide) ?_
  refine lv_istore_n (lv' := [(2, .int (0 : Int32)), (0, .ref (a_W 6)), (1, .int x1)]) hx hb dJ7_fill_53178_1 rfl hl (by decide) rfl (fun ls hl => ?_)
  refine lv_aload_n hx hb dJ7_fill_53178_2 rfl (lv_at hl 1 rfl) ?_
  refine tx_alen (v := 6) S hE hw 2 1 rfl rfl rfl dJ7_fill_53178_3 ?_
  refine lv_istore_n (lv' := [(3, .int (6 : Int32)), (2, .int (0 : Int32)), (0, .ref (a_W 6)), (1, .int x1)]) hx hb dJ7_fill_53178_4 rfl hl (by decide) rfl (fun ls hl => ?_)
  exact L5 fu hf hw (lv_sub hl [2, 3, 1, 0] rfl)
def f_X9_thinkNothing_J60 (fu : Nat) (u_T : S32) (u_B : S32) (K2 : S32 → Int32 → Int32 → Option (S32)) (u_W : S32) (w1 : Int32) (w2 : Int32) : Option (S32) := tx_let (w2 + (1 : Int32)) fun (y_9 : Int32) => K2 u_W w1 y_9
def f_X9_thinkNothing_J2 (fu : Nat) (u_T : S32) (u_B : S32) (K2 : S32 → Int32 → Int32 → Option (S32)) (u_W : S32) (w1 : Int32) (w2 : Int32) : Option (S32) := if (u_B 0 5) ≤ w2 then (some u_W) else (if (12 : Int32) ≤ w2 then (some u_W) else (tx_ck w2 12 <| if (u_W 11 w2.toNatClampNeg) = (0 : Int32) then (tx_ck w2 12 <| if (u_B 7 w2.toNatClampNeg) = w1 then (tx_ck w2 12 <| tx_let (up2 u_W 11 w2.toNatClampNeg (2 : Int32)) fun (u_W_8 : S32) => f_X9_thinkNothing_J60 fu u_T u_B K2 u_W_8 w1 w2) else (f_X9_thinkNothing_J60 fu u_T u_B K2 u_W w1 w2)) else (f_X9_thinkNothing_J60 fu u_T u_B K2 u_W w1 w2)))
def f_X9_thinkNothing_L2 (fu : Nat) (u_T : S32) (u_B : S32) : Nat → S32 → Int32 → Int32 → Option (S32)
  | 0 => fun _ _ _ => none
  | n + 1 => f_X9_thinkNothing_J2 fu u_T u_B (f_X9_thinkNothing_L2 fu u_T u_B n)
def f_X9_thinkNothing (fu : Nat) (u_T : S32) (u_B : S32) (u_W : S32) (x1 : Int32) : Option (S32) := f_X9_thinkNothing_L2 fu u_T u_B fu u_W x1 (0 : Int32)
set_option maxHeartbeats 4000000 in
set_option maxRecDepth 100000 in
theorem c_X9_thinkNothing {l : Launch} {g : GG} {A : Nat → Prop} {X : va_W} {fu : Nat} {a_T a_W a_B : Nat → Nat} {p_W_16 p_B_17 : Nat} {u_T : S32} {u_W : S32} {u_B : S32} {x1 : Int32} {zu_W : S32} (hf : f_X9_thinkNothing fu u_T u_B u_W x1 = some zu_W) : MV l yX9_thinkNothing cX9_thinkNothing 3 none 0 g A (cl_X9 g a_T (a_W 0) u_T ++ (cl_X10 g a_W (a_B 0) p_W_16 u_W ++ (cl_X0 g a_B p_B_17 u_B ++ X))) [.ref (a_T 0), .int x1] (cl_X9 g a_T (a_W 0) u_T ++ (cl_X10 g a_W (a_B 0) p_W_16 zu_W ++ (cl_X0 g a_B p_B_17 u_B ++ X))) := by
  refine tx_start (av := [.ref (a_T 0), .int x1]) (by decide) (Nat.le_of_ble_eq_true rfl) ?_
  intro p e s m below meth c ls S hr hlk hE hw hl
  have S : CallFix p m c cX9_thinkNothing 3 s (List.toArray [.ref (a_T 0), .int x1]) (Cond.code yX9_thinkNothing cX9_thinkNothing 3 none :: allW) RX9 := S
  have hx := S.1
  have hb := S.2.1
  have hown := S.2.2.2.1
  have hts : ∀ w ∈ allW, w.before (List.toArray [.ref (a_T 0), .int x1]) s = true := fun w h => S.2.2.2.2 w (List.mem_cons_of_mem _ h)
  have hl : lv_has ls 3 [(0, .ref (a_T 0)), (1, .int x1)] := hl
  have J60 : ∀ {K2 : S32 → Int32 → Int32 → Option (S32)} (hK2 : ∀ {u_W : S32} {w1 : Int32} {w2 : Int32} {H : Heap} {locs : List Loc} {ls : Array Slot}, K2 u_W w1 w2 = some zu_W → WD g A s.heap (cl_X9 g a_T (a_W 0) u_T ++ (cl_X10 g a_W (a_B 0) p_W_16 u_W ++ (cl_X0 g a_B p_B_17 u_B ++ X))) H locs → lv_has ls 3 [(0, .ref (a_T 0)), (1, .int w1), (2, .int w2)] → W p l e (rmH 0) s m (List.toArray [.ref (a_T 0), .int x1]) below meth c H locs 0 0 (MQ below (va_Qv (fun (_ : Unit) => True) (fun _ t => POST g A (cl_X9 g a_T (a_W 0) u_T ++ (cl_X10 g a_W (a_B 0) p_W_16 zu_W ++ (cl_X0 g a_B p_B_17 u_B ++ X))) t) A) (List.toArray [.ref (a_T 0), .int x1]) s 0 0 A) (F0 m 2 ls [])), ∀ {u_W : S32} {w1 : Int32} {w2 : Int32} {H : Heap} {locs : List Loc} {ls : Array Slot}, f_X9_thinkNothing_J60 fu u_T u_B K2 u_W w1 w2 = some zu_W → WD g A s.heap (cl_X9 g a_T (a_W 0) u_T ++ (cl_X10 g a_W (a_B 0) p_W_16 u_W ++ (cl_X0 g a_B p_B_17 u_B ++ X))) H locs → lv_has ls 3 [(0, .ref (a_T 0)), (1, .int w1), (2, .int w2)] → W p l e (rmH 0) s m (List.toArray [.ref (a_T 0), .int x1]) below meth c H locs 0 0 (MQ below (va_Qv (fun (_ : Unit) => True) (fun _ t => POST g A (cl_X9 g a_T (a_W 0) u_T ++ (cl_X10 g a_W (a_B 0) p_W_16 zu_W ++ (cl_X0 g a_B p_B_17 u_B ++ X))) t) A) (List.toArray [.ref (a_T 0), .int x1]) s 0 0 A) (F0 m 60 ls []) := by
    intro K2 hK2 u_W w1 w2 H locs ls hf hw hl
    unfold f_X9_thinkNothing_J60 at hf
    obtain ⟨y_9, ey_9⟩ : ∃ y : Int32, y = w2 + (1 : Int32) := ⟨_, rfl⟩
    replace hf := tx_let_e hf ey_9
    refine lv_iinc (v := y_9) (lv' := [(2, .int y_9), (0, .ref (a_T 0)), (1, .int w1)]) hx hb dX9_thinkNothing_60 hl (k := 2) rfl (by rw [ey_9]; rfl) (by decide) rfl (fun ls hl => ?_)
    refine lv_goto (tgt := 2) hx hb dX9_thinkNothing_63 (by decide) ?_
    exact hK2 hf hw (lv_sub hl [1, 2, 0] rfl)
  have J2 : ∀ {K2 : S32 → Int32 → Int32 → Option (S32)} (hK2 : ∀ {u_W : S32} {w1 : Int32} {w2 : Int32} {H : Heap} {locs : List Loc} {ls : Array Slot}, K2 u_W w1 w2 = some zu_W → WD g A s.heap (cl_X9 g a_T (a_W 0) u_T ++ (cl_X10 g a_W (a_B 0) p_W_16 u_W ++ (cl_X0 g a_B p_B_17 u_B ++ X))) H locs → lv_has ls 3 [(0, .ref (a_T 0)), (1, .int w1), (2, .int w2)] → W p l e (rmH 0) s m (List.toArray [.ref (a_T 0), .int x1]) below meth c H locs 0 0 (MQ below (va_Qv (fun (_ : Unit) => True) (fun _ t => POST g A (cl_X9 g a_T (a_W 0) u_T ++ (cl_X10 g a_W (a_B 0) p_W_16 zu_W ++ (cl_X0 g a_B p_B_17 u_B ++ X))) t) A) (List.toArray [.ref (a_T 0), .int x1]) s 0 0 A) (F0 m 2 ls [])), ∀ {u_W : S32} {w1 : Int32} {w2 : Int32} {H : Heap} {locs : List Loc} {ls : Array Slot}, f_X9_thinkNothing_J2 fu u_T u_B K2 u_W w1 w2 = some zu_W → WD g A s.heap (cl_X9 g a_T (a_W 0) u_T ++ (cl_X10 g a_W (a_B 0) p_W_16 u_W ++ (cl_X0 g a_B p_B_17 u_B ++ X))) H locs → lv_has ls 3 [(0, .ref (a_T 0)), (1, .int w1), (2, .int w2)] → W p l e (rmH 0) s m (List.toArray [.ref (a_T 0), .int x1]) below meth c H locs 0 0 (MQ below (va_Qv (fun (_ : Unit) => True) (fun _ t => POST g A (cl_X9 g a_T (a_W 0) u_T ++ (cl_X10 g a_W (a_B 0) p_W_16 zu_W ++ (cl_X0 g a_B p_B_17 u_B ++ X))) t) A) (List.toArray [.ref (a_T 0), .int x1]) s 0 0 A) (F0 m 2 ls []) := by
    intro K2 hK2 u_W w1 w2 H locs ls hf hw hl
    unfold f_X9_thinkNothing_J2 at hf
    refine lv_iload_n hx hb dX9_thinkNothing_2 rfl (lv_at hl 2 rfl) ?_
    refine lv_aload_n hx hb dX9_thinkNothing_3 rfl (lv_at hl 0 rfl) ?_
    refine gf_X9_20 S hE hw 0 rfl rfl dX9_thinkNothing_4 ?_
    refine gf_X9_49 S hE hw 2 rfl rfl dX9_thinkNothing_7 ?_
    refine gf_X9_93 S hE hw 14 rfl rfl dX9_thinkNothing_10 ?_
    refine lv_icmp_ge (tgt := 66) hx hb dX9_thinkNothing_13 (by decide) (fun h_1 => ?_) (fun h_1 => ?_)
    · replace hf := tx_pos hf h_1
      obtain e0 := tx_in1 hf
      rw [← e0]
      exact tx_vret S hr hlk hw dX9_thinkNothing_66
    · replace hf := tx_neg hf h_1
      refine lv_iload_n hx hb dX9_thinkNothing_16 rfl (lv_at hl 2 rfl) ?_
      refine lv_bipush (v := 12) hx hb dX9_thinkNothing_17 (by decide) ?_
      refine lv_icmp_ge (tgt := 66) hx hb dX9_thinkNothing_19 (by decide) (fun h_2 => ?_) (fun h_2 => ?_)
      · replace hf := tx_pos hf h_2
        obtain e0 := tx_in1 hf
        rw [← e0]
        exact tx_vret S hr hlk hw dX9_thinkNothing_66
      · replace hf := tx_neg hf h_2
        refine lv_aload_n hx hb dX9_thinkNothing_22 rfl (lv_at hl 0 rfl) ?_
        refine gf_X9_20 S hE hw 0 rfl rfl dX9_thinkNothing_23 ?_
        refine gf_X9_99 S hE hw 2 rfl rfl dX9_thinkNothing_26 ?_
        refine lv_iload_n hx hb dX9_thinkNothing_29 rfl (lv_at hl 2 rfl) ?_
        obtain ⟨h_3, hf⟩ := tx_ck_e hf
        refine tx_iald S hE hw 9 rfl h_3 dX9_thinkNothing_30 ?_
        refine lv_if_ne (tgt := 60) hx hb dX9_thinkNothing_31 (by decide) (fun h_4 => ?_) (fun h_4 => ?_)
        · replace hf := tx_neg hf h_4
          exact J60 hK2 hf hw (lv_sub hl [0, 1, 2] rfl)
        · replace hf := tx_pos hf h_4
          refine lv_aload_n hx hb dX9_thinkNothing_34 rfl (lv_at hl 0 rfl) ?_
          refine gf_X9_20 S hE hw 0 rfl rfl dX9_thinkNothing_35 ?_
          refine gf_X9_49 S hE hw 2 rfl rfl dX9_thinkNothing_38 ?_
          refine gf_X9_96 S hE hw 14 rfl rfl dX9_thinkNothing_41 ?_
          refine lv_iload_n hx hb dX9_thinkNothing_44 rfl (lv_at hl 2 rfl) ?_
          obtain ⟨h_5, hf⟩ := tx_ck_e hf
          refine tx_iald S hE hw 18 rfl h_5 dX9_thinkNothing_45 ?_
          refine lv_iload_n hx hb dX9_thinkNothing_46 rfl (lv_at hl 1 rfl) ?_
          refine lv_icmp_ne (tgt := 60) hx hb dX9_thinkNothing_47 (by decide) (fun h_6 => ?_) (fun h_6 => ?_)
          · replace hf := tx_neg hf h_6
            exact J60 hK2 hf hw (lv_sub hl [0, 1, 2] rfl)
          · replace hf := tx_pos hf h_6
            refine lv_aload_n hx hb dX9_thinkNothing_50 rfl (lv_at hl 0 rfl) ?_
            refine gf_X9_20 S hE hw 0 rfl rfl dX9_thinkNothing_51 ?_
            refine gf_X9_99 S hE hw 2 rfl rfl dX9_thinkNothing_54 ?_
            refine lv_iload_n hx hb dX9_thinkNothing_57 rfl (lv_at hl 2 rfl) ?_
            refine lv_iconst (v := 2) hx hb dX9_thinkNothing_58 (by decide) ?_
            obtain ⟨h_7, hf⟩ := tx_ck_e hf
            obtain ⟨u_W_8, eu_W_8⟩ : ∃ z : S32, z = up2 u_W 11 w2.toNatClampNeg (2 : Int32) := ⟨_, rfl⟩
            replace hf := tx_let_e hf eu_W_8
            refine tx_iast (ws' := cl_X9 g a_T (a_W 0) u_T ++ (cl_X10 g a_W (a_B 0) p_W_16 u_W_8 ++ (cl_X0 g a_B p_B_17 u_B ++ X))) S hE hw 9 rfl h_7 (by rw [eu_W_8]; rfl) dX9_thinkNothing_59 (fun H locs hw => ?_)
            exact J60 hK2 hf hw (lv_sub hl [0, 1, 2] rfl)
  have L2 : ∀ (n : Nat), ∀ {u_W : S32} {w1 : Int32} {w2 : Int32} {H : Heap} {locs : List Loc} {ls : Array Slot}, f_X9_thinkNothing_L2 fu u_T u_B n u_W w1 w2 = some zu_W → WD g A s.heap (cl_X9 g a_T (a_W 0) u_T ++ (cl_X10 g a_W (a_B 0) p_W_16 u_W ++ (cl_X0 g a_B p_B_17 u_B ++ X))) H locs → lv_has ls 3 [(0, .ref (a_T 0)), (1, .int w1), (2, .int w2)] → W p l e (rmH 0) s m (List.toArray [.ref (a_T 0), .int x1]) below meth c H locs 0 0 (MQ below (va_Qv (fun (_ : Unit) => True) (fun _ t => POST g A (cl_X9 g a_T (a_W 0) u_T ++ (cl_X10 g a_W (a_B 0) p_W_16 zu_W ++ (cl_X0 g a_B p_B_17 u_B ++ X))) t) A) (List.toArray [.ref (a_T 0), .int x1]) s 0 0 A) (F0 m 2 ls []) := by
    intro  n
    induction n with
    | zero => intro u_W w1 w2 H locs ls hf; exact absurd hf (by intro q; cases q)
    | succ n ih => exact fun hf hw hl => J2 ih hf hw hl
  unfold f_X9_thinkNothing at hf
  refine lv_iconst (v := 0) hx hb dX9_thinkNothing_0 (by decide) ?_
  refine lv_istore_n (lv' := [(2, .int (0 : Int32)), (0, .ref (a_T 0)), (1, .int x1)]) hx hb dX9_thinkNothing_1 rfl hl (by decide) rfl (fun ls hl => ?_)
  exact L2 fu hf hw (lv_sub hl [1, 2, 0] rfl)
def f_J7_fill_53178_oX10r15_J5 (fu : Nat) (K5 : S32 → Int32 → Int32 → Int32 → Option (S32)) (u_W : S32) (w1 : Int32) (w2 : Int32) (w3 : Int32) : Option (S32) := if w3 ≤ w2 then (some u_W) else (tx_ck w2 4 <| tx_let (up2 u_W 15 w2.toNatClampNeg w1) fun (u_W_3 : S32) => tx_let (w2 + (1 : Int32)) fun (y_4 : Int32) => K5 u_W_3 w1 y_4 w3)
def f_J7_fill_53178_oX10r15_L5 (fu : Nat) : Nat → S32 → Int32 → Int32 → Int32 → Option (S32)
  | 0 => fun _ _ _ _ => none
  | n + 1 => f_J7_fill_53178_oX10r15_J5 fu (f_J7_fill_53178_oX10r15_L5 fu n)
def f_J7_fill_53178_oX10r15 (fu : Nat) (u_W : S32) (x1 : Int32) : Option (S32) := f_J7_fill_53178_oX10r15_L5 fu fu u_W x1 (0 : Int32) (4 : Int32)
set_option maxHeartbeats 4000000 in
set_option maxRecDepth 100000 in
theorem c_J7_fill_53178_oX10r15 {l : Launch} {g : GG} {A : Nat → Prop} {X : va_W} {fu : Nat} {a_W : Nat → Nat} {p_W_0 p_W_16 : Nat} {u_W : S32} {x1 : Int32} {zu_W : S32} (hf : f_J7_fill_53178_oX10r15 fu  u_W x1 = some zu_W) : MV l yJ7_fill_53178 cJ7_fill_53178 4 none 0 g A (cl_X10 g a_W p_W_0 p_W_16 u_W ++ X) [.ref (a_W 15), .int x1] (cl_X10 g a_W p_W_0 p_W_16 zu_W ++ X) := by
  refine tx_start (av := [.ref (a_W 15), .int x1]) (by decide) (Nat.le_of_ble_eq_true rfl) ?_
  intro p e s m below meth c ls S hr hlk hE hw hl
  have S : CallFix p m c cJ7_fill_53178 4 s (List.toArray [.ref (a_W 15), .int x1]) (Cond.code yJ7_fill_53178 cJ7_fill_53178 4 none :: allW) RJ7 := S
  have hx := S.1
  have hb := S.2.1
  have hown := S.2.2.2.1
  have hts : ∀ w ∈ allW, w.before (List.toArray [.ref (a_W 15), .int x1]) s = true := fun w h => S.2.2.2.2 w (List.mem_cons_of_mem _ h)
  have hl : lv_has ls 4 [(0, .ref (a_W 15)), (1, .int x1)] := hl
  have J5 : ∀ {K5 : S32 → Int32 → Int32 → Int32 → Option (S32)} (hK5 : ∀ {u_W : S32} {w1 : Int32} {w2 : Int32} {w3 : Int32} {H : Heap} {locs : List Loc} {ls : Array Slot}, K5 u_W w1 w2 w3 = some zu_W → WD g A s.heap (cl_X10 g a_W p_W_0 p_W_16 u_W ++ X) H locs → lv_has ls 4 [(0, .ref (a_W 15)), (1, .int w1), (2, .int w2), (3, .int w3)] → W p l e (rmH 0) s m (List.toArray [.ref (a_W 15), .int x1]) below meth c H locs 0 0 (MQ below (va_Qv (fun (_ : Unit) => True) (fun _ t => POST g A (cl_X10 g a_W p_W_0 p_W_16 zu_W ++ X) t) A) (List.toArray [.ref (a_W 15), .int x1]) s 0 0 A) (F0 m 5 ls [])), ∀ {u_W : S32} {w1 : Int32} {w2 : Int32} {w3 : Int32} {H : Heap} {locs : List Loc} {ls : Array Slot}, f_J7_fill_53178_oX10r15_J5 fu K5 u_W w1 w2 w3 = some zu_W → WD g A s.heap (cl_X10 g a_W p_W_0 p_W_16 u_W ++ X) H locs → lv_has ls 4 [(0, .ref (a_W 15)), (1, .int w1), (2, .int w2), (3, .int w3)] → W p l e (rmH 0) s m (List.toArray [.ref (a_W 15), .int x1]) below meth c H locs 0 0 (MQ below (va_Qv (fun (_ : Unit) => True) (fun _ t => POST g A (cl_X10 g a_W p_W_0 p_W_16 zu_W ++ X) t) A) (List.toArray [.ref (a_W 15), .int x1]) s 0 0 A) (F0 m 5 ls []) := by
    intro K5 hK5 u_W w1 w2 w3 H locs ls hf hw hl
    unfold f_J7_fill_53178_oX10r15_J5 at hf
    refine lv_iload_n hx hb dJ7_fill_53178_5 rfl (lv_at hl 2 rfl) ?_
    refine lv_iload_n hx hb dJ7_fill_53178_6 rfl (lv_at hl 3 rfl) ?_
    refine lv_icmp_ge (tgt := 20) hx hb dJ7_fill_53178_7 (by decide) (fun h_1 => ?_) (fun h_1 => ?_)
    · replace hf := tx_pos hf h_1
      obtain e0 := tx_in1 hf
      rw [← e0]
      exact tx_vret S hr hlk hw dJ7_fill_53178_20
    · replace hf := tx_neg hf h_1
      refine lv_aload_n hx hb dJ7_fill_53178_10 rfl (lv_at hl 0 rfl) ?_
      refine lv_iload_n hx hb dJ7_fill_53178_11 rfl (lv_at hl 2 rfl) ?_
      refine lv_iload_n hx hb dJ7_fill_53178_12 rfl (lv_at hl 1 rfl) ?_
      obtain ⟨h_2, hf⟩ := tx_ck_e hf
      obtain ⟨u_W_3, eu_W_3⟩ : ∃ z : S32, z = up2 u_W 15 w2.toNatClampNeg w1 := ⟨_, rfl⟩
      replace hf := tx_let_e hf eu_W_3
      refine tx_iast (ws' := cl_X10 g a_W p_W_0 p_W_16 u_W_3 ++ X) S hE hw 11 rfl h_2 (by rw [eu_W_3]; rfl) dJ7_fill_53178_13 (fun H locs hw => ?_)
      obtain ⟨y_4, ey_4⟩ : ∃ y : Int32, y = w2 + (1 : Int32) := ⟨_, rfl⟩
      replace hf := tx_let_e hf ey_4
      refine lv_iinc (v := y_4) (lv' := [(2, .int y_4), (0, .ref (a_W 15)), (1, .int w1), (3, .int w3)]) hx hb dJ7_fill_53178_14 hl (k := 2) rfl (by rw [ey_4]; rfl) (by decide) rfl (fun ls hl => ?_)
      refine lv_goto (tgt := 5) hx hb dJ7_fill_53178_17 (by decide) ?_
      exact hK5 hf hw (lv_sub hl [1, 2, 0, 3] rfl)
  have L5 : ∀ (n : Nat), ∀ {u_W : S32} {w1 : Int32} {w2 : Int32} {w3 : Int32} {H : Heap} {locs : List Loc} {ls : Array Slot}, f_J7_fill_53178_oX10r15_L5 fu n u_W w1 w2 w3 = some zu_W → WD g A s.heap (cl_X10 g a_W p_W_0 p_W_16 u_W ++ X) H locs → lv_has ls 4 [(0, .ref (a_W 15)), (1, .int w1), (2, .int w2), (3, .int w3)] → W p l e (rmH 0) s m (List.toArray [.ref (a_W 15), .int x1]) below meth c H locs 0 0 (MQ below (va_Qv (fun (_ : Unit) => True) (fun _ t => POST g A (cl_X10 g a_W p_W_0 p_W_16 zu_W ++ X) t) A) (List.toArray [.ref (a_W 15), .int x1]) s 0 0 A) (F0 m 5 ls []) := by
    intro  n
    induction n with
    | zero => intro u_W w1 w2 w3 H locs ls hf; exact absurd hf (by intro q; cases q)
    | succ n ih => exact fun hf hw hl => J5 ih hf hw hl
  unfold f_J7_fill_53178_oX10r15 at hf
  refine lv_iconst (v := 0) hx hb dJ7_fill_53178_0 (by decide) ?_
  refine lv_istore_n (lv' := [(2, .int (0 : Int32)), (0, .ref (a_W 15)), (1, .int x1)]) hx hb dJ7_fill_53178_1 rfl hl (by decide) rfl (fun ls hl => ?_)
  refine lv_aload_n hx hb dJ7_fill_53178_2 rfl (lv_at hl 1 rfl) ?_
  refine tx_alen (v := 4) S hE hw 11 1 rfl rfl rfl dJ7_fill_53178_3 ?_
  refine lv_istore_n (lv' := [(3, .int (4 : Int32)), (2, .int (0 : Int32)), (0, .ref (a_W 15)), (1, .int x1)]) hx hb dJ7_fill_53178_4 rfl hl (by decide) rfl (fun ls hl => ?_)
  exact L5 fu hf hw (lv_sub hl [2, 3, 1, 0] rfl)
def f_J7_fill_53178_oX10r14_J5 (fu : Nat) (K5 : S32 → Int32 → Int32 → Int32 → Option (S32)) (u_W : S32) (w1 : Int32) (w2 : Int32) (w3 : Int32) : Option (S32) := if w3 ≤ w2 then (some u_W) else (tx_ck w2 4 <| tx_let (up2 u_W 14 w2.toNatClampNeg w1) fun (u_W_3 : S32) => tx_let (w2 + (1 : Int32)) fun (y_4 : Int32) => K5 u_W_3 w1 y_4 w3)
def f_J7_fill_53178_oX10r14_L5 (fu : Nat) : Nat → S32 → Int32 → Int32 → Int32 → Option (S32)
  | 0 => fun _ _ _ _ => none
  | n + 1 => f_J7_fill_53178_oX10r14_J5 fu (f_J7_fill_53178_oX10r14_L5 fu n)
def f_J7_fill_53178_oX10r14 (fu : Nat) (u_W : S32) (x1 : Int32) : Option (S32) := f_J7_fill_53178_oX10r14_L5 fu fu u_W x1 (0 : Int32) (4 : Int32)
set_option maxHeartbeats 4000000 in
set_option maxRecDepth 100000 in
theorem c_J7_fill_53178_oX10r14 {l : Launch} {g : GG} {A : Nat → Prop} {X : va_W} {fu : Nat} {a_W : Nat → Nat} {p_W_0 p_W_16 : Nat} {u_W : S32} {x1 : Int32} {zu_W : S32} (hf : f_J7_fill_53178_oX10r14 fu  u_W x1 = some zu_W) : MV l yJ7_fill_53178 cJ7_fill_53178 4 none 0 g A (cl_X10 g a_W p_W_0 p_W_16 u_W ++ X) [.ref (a_W 14), .int x1] (cl_X10 g a_W p_W_0 p_W_16 zu_W ++ X) := by
  refine tx_start (av := [.ref (a_W 14), .int x1]) (by decide) (Nat.le_of_ble_eq_true rfl) ?_
  intro p e s m below meth c ls S hr hlk hE hw hl
  have S : CallFix p m c cJ7_fill_53178 4 s (List.toArray [.ref (a_W 14), .int x1]) (Cond.code yJ7_fill_53178 cJ7_fill_53178 4 none :: allW) RJ7 := S
  have hx := S.1
  have hb := S.2.1
  have hown := S.2.2.2.1
  have hts : ∀ w ∈ allW, w.before (List.toArray [.ref (a_W 14), .int x1]) s = true := fun w h => S.2.2.2.2 w (List.mem_cons_of_mem _ h)
  have hl : lv_has ls 4 [(0, .ref (a_W 14)), (1, .int x1)] := hl
  have J5 : ∀ {K5 : S32 → Int32 → Int32 → Int32 → Option (S32)} (hK5 : ∀ {u_W : S32} {w1 : Int32} {w2 : Int32} {w3 : Int32} {H : Heap} {locs : List Loc} {ls : Array Slot}, K5 u_W w1 w2 w3 = some zu_W → WD g A s.heap (cl_X10 g a_W p_W_0 p_W_16 u_W ++ X) H locs → lv_has ls 4 [(0, .ref (a_W 14)), (1, .int w1), (2, .int w2), (3, .int w3)] → W p l e (rmH 0) s m (List.toArray [.ref (a_W 14), .int x1]) below meth c H locs 0 0 (MQ below (va_Qv (fun (_ : Unit) => True) (fun _ t => POST g A (cl_X10 g a_W p_W_0 p_W_16 zu_W ++ X) t) A) (List.toArray [.ref (a_W 14), .int x1]) s 0 0 A) (F0 m 5 ls [])), ∀ {u_W : S32} {w1 : Int32} {w2 : Int32} {w3 : Int32} {H : Heap} {locs : List Loc} {ls : Array Slot}, f_J7_fill_53178_oX10r14_J5 fu K5 u_W w1 w2 w3 = some zu_W → WD g A s.heap (cl_X10 g a_W p_W_0 p_W_16 u_W ++ X) H locs → lv_has ls 4 [(0, .ref (a_W 14)), (1, .int w1), (2, .int w2), (3, .int w3)] → W p l e (rmH 0) s m (List.toArray [.ref (a_W 14), .int x1]) below meth c H locs 0 0 (MQ below (va_Qv (fun (_ : Unit) => True) (fun _ t => POST g A (cl_X10 g a_W p_W_0 p_W_16 zu_W ++ X) t) A) (List.toArray [.ref (a_W 14), .int x1]) s 0 0 A) (F0 m 5 ls []) := by
    intro K5 hK5 u_W w1 w2 w3 H locs ls hf hw hl
    unfold f_J7_fill_53178_oX10r14_J5 at hf
    refine lv_iload_n hx hb dJ7_fill_53178_5 rfl (lv_at hl 2 rfl) ?_
    refine lv_iload_n hx hb dJ7_fill_53178_6 rfl (lv_at hl 3 rfl) ?_
    refine lv_icmp_ge (tgt := 20) hx hb dJ7_fill_53178_7 (by decide) (fun h_1 => ?_) (fun h_1 => ?_)
    · replace hf := tx_pos hf h_1
      obtain e0 := tx_in1 hf
      rw [← e0]
      exact tx_vret S hr hlk hw dJ7_fill_53178_20
    · replace hf := tx_neg hf h_1
      refine lv_aload_n hx hb dJ7_fill_53178_10 rfl (lv_at hl 0 rfl) ?_
      refine lv_iload_n hx hb dJ7_fill_53178_11 rfl (lv_at hl 2 rfl) ?_
      refine lv_iload_n hx hb dJ7_fill_53178_12 rfl (lv_at hl 1 rfl) ?_
      obtain ⟨h_2, hf⟩ := tx_ck_e hf
      obtain ⟨u_W_3, eu_W_3⟩ : ∃ z : S32, z = up2 u_W 14 w2.toNatClampNeg w1 := ⟨_, rfl⟩
      replace hf := tx_let_e hf eu_W_3
      refine tx_iast (ws' := cl_X10 g a_W p_W_0 p_W_16 u_W_3 ++ X) S hE hw 10 rfl h_2 (by rw [eu_W_3]; rfl) dJ7_fill_53178_13 (fun H locs hw => ?_)
      obtain ⟨y_4, ey_4⟩ : ∃ y : Int32, y = w2 + (1 : Int32) := ⟨_, rfl⟩
      replace hf := tx_let_e hf ey_4
      refine lv_iinc (v := y_4) (lv' := [(2, .int y_4), (0, .ref (a_W 14)), (1, .int w1), (3, .int w3)]) hx hb dJ7_fill_53178_14 hl (k := 2) rfl (by rw [ey_4]; rfl) (by decide) rfl (fun ls hl => ?_)
      refine lv_goto (tgt := 5) hx hb dJ7_fill_53178_17 (by decide) ?_
      exact hK5 hf hw (lv_sub hl [1, 2, 0, 3] rfl)
  have L5 : ∀ (n : Nat), ∀ {u_W : S32} {w1 : Int32} {w2 : Int32} {w3 : Int32} {H : Heap} {locs : List Loc} {ls : Array Slot}, f_J7_fill_53178_oX10r14_L5 fu n u_W w1 w2 w3 = some zu_W → WD g A s.heap (cl_X10 g a_W p_W_0 p_W_16 u_W ++ X) H locs → lv_has ls 4 [(0, .ref (a_W 14)), (1, .int w1), (2, .int w2), (3, .int w3)] → W p l e (rmH 0) s m (List.toArray [.ref (a_W 14), .int x1]) below meth c H locs 0 0 (MQ below (va_Qv (fun (_ : Unit) => True) (fun _ t => POST g A (cl_X10 g a_W p_W_0 p_W_16 zu_W ++ X) t) A) (List.toArray [.ref (a_W 14), .int x1]) s 0 0 A) (F0 m 5 ls []) := by
    intro  n
    induction n with
    | zero => intro u_W w1 w2 w3 H locs ls hf; exact absurd hf (by intro q; cases q)
    | succ n ih => exact fun hf hw hl => J5 ih hf hw hl
  unfold f_J7_fill_53178_oX10r14 at hf
  refine lv_iconst (v := 0) hx hb dJ7_fill_53178_0 (by decide) ?_
  refine lv_istore_n (lv' := [(2, .int (0 : Int32)), (0, .ref (a_W 14)), (1, .int x1)]) hx hb dJ7_fill_53178_1 rfl hl (by decide) rfl (fun ls hl => ?_)
  refine lv_aload_n hx hb dJ7_fill_53178_2 rfl (lv_at hl 1 rfl) ?_
  refine tx_alen (v := 4) S hE hw 10 1 rfl rfl rfl dJ7_fill_53178_3 ?_
  refine lv_istore_n (lv' := [(3, .int (4 : Int32)), (2, .int (0 : Int32)), (0, .ref (a_W 14)), (1, .int x1)]) hx hb dJ7_fill_53178_4 rfl hl (by decide) rfl (fun ls hl => ?_)
  exact L5 fu hf hw (lv_sub hl [2, 3, 1, 0] rfl)
def f_X9_paidIf_J103 (fu : Nat) (u_T : S32) (u_Wa : S32) (u_B : S32) (u_L : S32) (u_W : S32) (v_L : S64) (v_N : S64) (w4 : Int32) : Option (Int32 × S32 × S64 × S64) := tx_b3 (f_X10_goWeeks fu u_B u_L u_W v_L v_N w4 (0 : Int32)) fun (u_W_18 : S32) (v_L_19 : S64) (v_N_20 : S64) => tx_b1 (f_X10_sum_tX10r7 fu u_W_18 u_B) fun (r_22 : Int32) => tx_b1 (f_X10_sum_tX10r7 fu u_Wa u_B) fun (r_24 : Int32) => some (r_22 - r_24, u_W_18, v_L_19, v_N_20)
def f_X9_paidIf (fu : Nat) (u_T : S32) (u_Wa : S32) (u_B : S32) (u_L : S32) (u_W : S32) (v_L : S64) (v_N : S64) (x2 : Int32) (x3 : Int32) (x4 : Int32) : Option (Int32 × S32 × S64 × S64) := tx_b1 (f_X10_copy fu u_Wa u_W) fun (u_W_2 : S32) => if x2 = (0 : Int32) then (tx_b1 (f_J7_fill_53178_oX10r6 fu u_W_2 (0 : Int32)) fun (u_W_5 : S32) => f_X9_paidIf_J103 fu u_T u_Wa u_B u_L u_W_5 v_L v_N x4) else if x2 = (1 : Int32) then (tx_b1 (f_J7_fill_53178_oX10r9 fu u_W_2 (0 : Int32)) fun (u_W_8 : S32) => f_X9_paidIf_J103 fu u_T u_Wa u_B u_L u_W_8 v_L v_N x4) else if x2 = (2 : Int32) then (tx_b1 (f_X9_thinkNothing fu u_T u_B u_W_2 x3) fun (u_W_11 : S32) => f_X9_paidIf_J103 fu u_T u_Wa u_B u_L u_W_11 v_L v_N x4) else if x2 = (3 : Int32) then (tx_b1 (f_J7_fill_53178_oX10r15 fu u_W_2 (15 : Int32)) fun (u_W_14 : S32) => f_X9_paidIf_J103 fu u_T u_Wa u_B u_L u_W_14 v_L v_N x4) else (tx_b1 (f_J7_fill_53178_oX10r14 fu u_W_2 (9 : Int32)) fun (u_W_16 : S32) => f_X9_paidIf_J103 fu u_T u_Wa u_B u_L u_W_16 v_L v_N x4)
set_option maxHeartbeats 4000000 in
set_option maxRecDepth 100000 in
theorem c_X9_paidIf {l : Launch} {g : GG} {A : Nat → Prop} {X : va_W} {fu : Nat} {a_T a_Wa a_W a_B a_L a_N : Nat → Nat} {p_Wa_16 p_W_0 : Nat} {u_T : S32} {u_Wa : S32} {u_W : S32} {u_B : S32} {u_L : S32} {v_L : S64} {v_N : S64} {x2 : Int32} {x3 : Int32} {x4 : Int32} {r : Int32} {zu_W : S32} {zv_L : S64} {zv_N : S64} (hf : f_X9_paidIf fu u_T u_Wa u_B u_L u_W v_L v_N x2 x3 x4 = some (r, zu_W, zv_L, zv_N)) : MI l yX9_paidIf cX9_paidIf 5 (some .int) 6 g A (cl_X9 g a_T (a_W 0) u_T ++ (cl_X10 g a_Wa (a_B 0) p_Wa_16 u_Wa ++ (cl_X10 g a_W p_W_0 (a_N 0) u_W ++ (cl_X0 g a_B (a_L 0) u_B ++ (cl_X5 g a_L u_L v_L ++ (cl_N g a_N v_N ++ X)))))) [.ref (a_T 0), .ref (a_Wa 0), .int x2, .int x3, .int x4] r (cl_X9 g a_T (a_W 0) u_T ++ (cl_X10 g a_Wa (a_B 0) p_Wa_16 u_Wa ++ (cl_X10 g a_W (a_B 0) (a_N 0) zu_W ++ (cl_X0 g a_B (a_L 0) u_B ++ (cl_X5 g a_L u_L zv_L ++ (cl_N g a_N zv_N ++ X)))))) := by
  refine tx_start (av := [.ref (a_T 0), .ref (a_Wa 0), .int x2, .int x3, .int x4]) (by decide) (Nat.le_of_ble_eq_true rfl) ?_
  intro p e s m below meth c ls S hr hlk hE hw hl
  have S : CallFix p m c cX9_paidIf 5 s (List.toArray [.ref (a_T 0), .ref (a_Wa 0), .int x2, .int x3, .int x4]) (Cond.code yX9_paidIf cX9_paidIf 5 (some .int) :: allW) RX9 := S
  have hx := S.1
  have hb := S.2.1
  have hown := S.2.2.2.1
  have hts : ∀ w ∈ allW, w.before (List.toArray [.ref (a_T 0), .ref (a_Wa 0), .int x2, .int x3, .int x4]) s = true := fun w h => S.2.2.2.2 w (List.mem_cons_of_mem _ h)
  have hl : lv_has ls 5 [(0, .ref (a_T 0)), (1, .ref (a_Wa 0)), (2, .int x2), (3, .int x3), (4, .int x4)] := hl
  have J103 : ∀ {u_W : S32} {v_L : S64} {v_N : S64} {w4 : Int32} {H : Heap} {locs : List Loc} {ls : Array Slot}, f_X9_paidIf_J103 fu u_T u_Wa u_B u_L u_W v_L v_N w4 = some (r, zu_W, zv_L, zv_N) → WD g A s.heap (cl_X9 g a_T (a_W 0) u_T ++ (cl_X10 g a_Wa (a_B 0) p_Wa_16 u_Wa ++ (cl_X10 g a_W (a_B 0) (a_N 0) u_W ++ (cl_X0 g a_B (a_L 0) u_B ++ (cl_X5 g a_L u_L v_L ++ (cl_N g a_N v_N ++ X)))))) H locs → lv_has ls 5 [(0, .ref (a_T 0)), (1, .ref (a_Wa 0)), (4, .int w4)] → W p l e (rmH 6) s m (List.toArray [.ref (a_T 0), .ref (a_Wa 0), .int x2, .int x3, .int x4]) below meth c H locs 0 0 (MQ below (va_Qi (fun r2 (_ : Unit) => r2 = r) (fun _ t => POST g A (cl_X9 g a_T (a_W 0) u_T ++ (cl_X10 g a_Wa (a_B 0) p_Wa_16 u_Wa ++ (cl_X10 g a_W (a_B 0) (a_N 0) zu_W ++ (cl_X0 g a_B (a_L 0) u_B ++ (cl_X5 g a_L u_L zv_L ++ (cl_N g a_N zv_N ++ X)))))) t) A) (List.toArray [.ref (a_T 0), .ref (a_Wa 0), .int x2, .int x3, .int x4]) s 0 0 A) (F0 m 103 ls []) := by
    intro u_W v_L v_N w4 H locs ls hf hw hl
    unfold f_X9_paidIf_J103 at hf
    refine lv_aload_n hx hb dX9_paidIf_103 rfl (lv_at hl 0 rfl) ?_
    refine gf_X9_20 S hE hw 0 rfl rfl dX9_paidIf_104 ?_
    refine lv_iload hx hb dX9_paidIf_107 (lv_at hl 2 rfl) ?_
    refine lv_iconst (v := 0) hx hb dX9_paidIf_109 (by decide) ?_
    have hw := hw.u5
    have hw := hw.u5
    have hw := hw.u5
    have hw := hw.u5
    obtain ⟨u_W_18, v_L_19, v_N_20, h_17, hf⟩ := tx_b3_e hf
    refine tx_cv hw (tx_runN S hE hw (c_X10_goWeeks h_17) lk_X9_28 (q0 := 0) rfl rfl rfl hl.1 (rest := []) rfl (Nat.le_of_ble_eq_true rfl) ⟨by decide, by decide⟩ dX9_paidIf_110 ⟨Nat.zero_le _, Nat.zero_le _⟩) (fun H locs hw => ?_)
    refine lv_aload_n hx hb dX9_paidIf_113 rfl (lv_at hl 0 rfl) ?_
    refine gf_X9_20 S hE hw 30 rfl rfl dX9_paidIf_114 ?_
    refine lv_aload_n hx hb dX9_paidIf_117 rfl (lv_at hl 0 rfl) ?_
    refine gf_X9_20 S hE hw 30 rfl rfl dX9_paidIf_118 ?_
    refine gf_X9_32 S hE hw 0 rfl rfl dX9_paidIf_121 ?_
    obtain ⟨r_22, h_21, hf⟩ := tx_b1_e hf
    refine tx_ci hw (tx_runN S hE hw (c_X10_sum_tX10r7 h_21) lk_X9_35 (q0 := 0) rfl rfl rfl hl.1 (rest := []) rfl (Nat.le_of_ble_eq_true rfl) ⟨by decide, by decide⟩ dX9_paidIf_124 ⟨Nat.zero_le _, Nat.zero_le _⟩) (fun H locs hw => ?_)
    refine lv_aload_n hx hb dX9_paidIf_127 rfl (lv_at hl 1 rfl) ?_
    refine lv_aload_n hx hb dX9_paidIf_128 rfl (lv_at hl 1 rfl) ?_
    refine gf_X9_32 S hE hw 32 rfl rfl dX9_paidIf_129 ?_
    have hw := hw.u1
    have hw := hw.u5
    obtain ⟨r_24, h_23, hf⟩ := tx_b1_e hf
    refine tx_ci hw (tx_runN S hE hw (c_X10_sum_tX10r7 h_23) lk_X9_35 (q0 := 0) rfl rfl rfl hl.1 (rest := [.int r_22]) rfl (Nat.le_of_ble_eq_true rfl) ⟨by decide, by decide⟩ dX9_paidIf_132 ⟨Nat.zero_le _, Nat.zero_le _⟩) (fun H locs hw => ?_)
    refine lv_isub hx hb dX9_paidIf_135 ?_
    have hw := hw.u4
    have hw := hw.u4
    have hw := hw.u3
    have hw := hw.u4
    have hw := hw.u4
    have hw := hw.u5
    obtain ⟨e0, e1, e2, e3⟩ := tx_in4 hf
    rw [← e0, ← e1, ← e2, ← e3]
    exact tx_iret S hr hlk hw dX9_paidIf_136
  unfold f_X9_paidIf at hf
  refine lv_aload_n hx hb dX9_paidIf_0 rfl (lv_at hl 0 rfl) ?_
  refine gf_X9_20 S hE hw 0 rfl rfl dX9_paidIf_1 ?_
  refine lv_aload_n hx hb dX9_paidIf_4 rfl (lv_at hl 1 rfl) ?_
  have hw := hw.u1
  have hw := hw.u2
  obtain ⟨u_W_2, h_1, hf⟩ := tx_b1_e hf
  refine tx_cv hw (tx_runN S hE hw (c_X10_copy h_1) lk_X9_24 (q0 := 0) rfl rfl rfl hl.1 (rest := []) rfl (Nat.le_of_ble_eq_true rfl) ⟨by decide, by decide⟩ dX9_paidIf_5 ⟨Nat.zero_le _, Nat.zero_le _⟩) (fun H locs hw => ?_)
  refine lv_iload_n hx hb dX9_paidIf_8 rfl (lv_at hl 2 rfl) ?_
  by_cases h_3 : x2 = (0 : Int32)
  · replace hf := tx_pos hf h_3
    refine lv_tableIn (off := 31) (tgt := 40) hx hb dX9_paidIf_9 (by rw [h_3]; decide) (by rw [h_3]; decide) (by rw [h_3]; rfl) (by decide) ?_
    refine lv_aload_n hx hb dX9_paidIf_40 rfl (lv_at hl 0 rfl) ?_
    refine gf_X9_20 S hE hw 24 rfl rfl dX9_paidIf_41 ?_
    refine gf_X9_151 S hE hw 0 rfl rfl dX9_paidIf_44 ?_
    refine lv_iconst (v := 0) hx hb dX9_paidIf_47 (by decide) ?_
    obtain ⟨u_W_5, h_4, hf⟩ := tx_b1_e hf
    refine tx_cv hw (tx_runS S hE hw (c_J7_fill_53178_oX10r6 h_4) lk_X9_154 rfl hl.1 (rest := []) rfl (Nat.le_of_ble_eq_true rfl) ⟨by decide, by decide⟩ dX9_paidIf_48 ⟨Nat.zero_le _, Nat.zero_le _⟩) (fun H locs hw => ?_)
    refine lv_goto (tgt := 103) hx hb dX9_paidIf_51 (by decide) ?_
    have hw := hw.u5
    have hw := hw.u5
    have hw := hw.u5
    have hw := hw.u3
    have hw := hw.u4
    have hw := hw.u5
    exact J103 hf hw (lv_sub hl [0, 1, 4] rfl)
  replace hf := tx_neg hf h_3
  by_cases h_6 : x2 = (1 : Int32)
  · replace hf := tx_pos hf h_6
    refine lv_tableIn (off := 45) (tgt := 54) hx hb dX9_paidIf_9 (by rw [h_6]; decide) (by rw [h_6]; decide) (by rw [h_6]; rfl) (by decide) ?_
    refine lv_aload_n hx hb dX9_paidIf_54 rfl (lv_at hl 0 rfl) ?_
    refine gf_X9_20 S hE hw 24 rfl rfl dX9_paidIf_55 ?_
    refine gf_X9_108 S hE hw 0 rfl rfl dX9_paidIf_58 ?_
    refine lv_iconst (v := 0) hx hb dX9_paidIf_61 (by decide) ?_
    obtain ⟨u_W_8, h_7, hf⟩ := tx_b1_e hf
    refine tx_cv hw (tx_runS S hE hw (c_J7_fill_53178_oX10r9 h_7) lk_X9_154 rfl hl.1 (rest := []) rfl (Nat.le_of_ble_eq_true rfl) ⟨by decide, by decide⟩ dX9_paidIf_62 ⟨Nat.zero_le _, Nat.zero_le _⟩) (fun H locs hw => ?_)
    refine lv_goto (tgt := 103) hx hb dX9_paidIf_65 (by decide) ?_
    have hw := hw.u5
    have hw := hw.u5
    have hw := hw.u5
    have hw := hw.u3
    have hw := hw.u4
    have hw := hw.u5
    exact J103 hf hw (lv_sub hl [0, 1, 4] rfl)
  replace hf := tx_neg hf h_6
  by_cases h_9 : x2 = (2 : Int32)
  · replace hf := tx_pos hf h_9
    refine lv_tableIn (off := 59) (tgt := 68) hx hb dX9_paidIf_9 (by rw [h_9]; decide) (by rw [h_9]; decide) (by rw [h_9]; rfl) (by decide) ?_
    refine lv_aload_n hx hb dX9_paidIf_68 rfl (lv_at hl 0 rfl) ?_
    refine lv_iload_n hx hb dX9_paidIf_69 rfl (lv_at hl 3 rfl) ?_
    have hw := hw.u3
    have hw := hw.u1
    have hw := hw.u3
    obtain ⟨u_W_11, h_10, hf⟩ := tx_b1_e hf
    refine tx_cv hw (tx_runV S hE hw (c_X9_thinkNothing h_10) lk_X9_160 (q0 := 0) rfl rfl rfl hl.1 (rest := []) rfl (Nat.le_of_ble_eq_true rfl) ⟨by decide, by decide⟩ dX9_paidIf_70 ⟨Nat.zero_le _, Nat.zero_le _⟩) (fun H locs hw => ?_)
    refine lv_goto (tgt := 103) hx hb dX9_paidIf_73 (by decide) ?_
    have hw := hw.u5
    have hw := hw.u5
    have hw := hw.u4
    have hw := hw.u4
    have hw := hw.u5
    have hw := hw.u5
    exact J103 hf hw (lv_sub hl [0, 1, 4] rfl)
  replace hf := tx_neg hf h_9
  by_cases h_12 : x2 = (3 : Int32)
  · replace hf := tx_pos hf h_12
    refine lv_tableIn (off := 67) (tgt := 76) hx hb dX9_paidIf_9 (by rw [h_12]; decide) (by rw [h_12]; decide) (by rw [h_12]; rfl) (by decide) ?_
    refine lv_aload_n hx hb dX9_paidIf_76 rfl (lv_at hl 0 rfl) ?_
    refine gf_X9_20 S hE hw 24 rfl rfl dX9_paidIf_77 ?_
    refine gf_X9_164 S hE hw 0 rfl rfl dX9_paidIf_80 ?_
    refine lv_bipush (v := 15) hx hb dX9_paidIf_83 (by decide) ?_
    obtain ⟨u_W_14, h_13, hf⟩ := tx_b1_e hf
    refine tx_cv hw (tx_runS S hE hw (c_J7_fill_53178_oX10r15 h_13) lk_X9_154 rfl hl.1 (rest := []) rfl (Nat.le_of_ble_eq_true rfl) ⟨by decide, by decide⟩ dX9_paidIf_85 ⟨Nat.zero_le _, Nat.zero_le _⟩) (fun H locs hw => ?_)
    refine lv_goto (tgt := 103) hx hb dX9_paidIf_88 (by decide) ?_
    have hw := hw.u5
    have hw := hw.u5
    have hw := hw.u5
    have hw := hw.u3
    have hw := hw.u4
    have hw := hw.u5
    exact J103 hf hw (lv_sub hl [0, 1, 4] rfl)
  replace hf := tx_neg hf h_12
  have eh_3 : x2.toInt ≠ 0 := tx_ne h_3
  have eh_6 : x2.toInt ≠ 1 := tx_ne h_6
  have eh_9 : x2.toInt ≠ 2 := tx_ne h_9
  have eh_12 : x2.toInt ≠ 3 := tx_ne h_12
  refine lv_tableOut (tgt := 91) hx hb dX9_paidIf_9 (by omega) (by decide) ?_
  refine lv_aload_n hx hb dX9_paidIf_91 rfl (lv_at hl 0 rfl) ?_
  refine gf_X9_20 S hE hw 24 rfl rfl dX9_paidIf_92 ?_
  refine gf_X9_141 S hE hw 0 rfl rfl dX9_paidIf_95 ?_
  refine lv_bipush (v := 9) hx hb dX9_paidIf_98 (by decide) ?_
  obtain ⟨u_W_16, h_15, hf⟩ := tx_b1_e hf
  refine tx_cv hw (tx_runS S hE hw (c_J7_fill_53178_oX10r14 h_15) lk_X9_154 rfl hl.1 (rest := []) rfl (Nat.le_of_ble_eq_true rfl) ⟨by decide, by decide⟩ dX9_paidIf_100 ⟨Nat.zero_le _, Nat.zero_le _⟩) (fun H locs hw => ?_)
  have hw := hw.u5
  have hw := hw.u5
  have hw := hw.u5
  have hw := hw.u3
  have hw := hw.u4
  have hw := hw.u5
  exact J103 hf hw (lv_sub hl [0, 1, 4] rfl)
