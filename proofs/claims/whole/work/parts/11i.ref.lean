def f_X12_taxBy_J37 (fu : Nat) (u_T : S32) (v_T : S64) (K5 : Int32 → Int32 → Int32 → Int32 → Option (Int32)) (w1 : Int32) (w2 : Int32) (w4 : Int32) (t0 : Int32) (t1 : Int32) : Option (Int32) := tx_let (t0 + t1) fun (y_8 : Int32) => tx_let (w4 + (1 : Int32)) fun (y_9 : Int32) => K5 w1 w2 y_8 y_9
def f_X12_taxBy_J75 (fu : Nat) (u_T : S32) (v_T : S64) (t0 : Int32) : Option (Int32) := some ((t0 * (u_T 58 (0 : Int32).toNatClampNeg)) / (100 : Int32))
def f_X12_taxBy_J5 (fu : Nat) (u_T : S32) (v_T : S64) (K5 : Int32 → Int32 → Int32 → Int32 → Option (Int32)) (w1 : Int32) (w2 : Int32) (w3 : Int32) (w4 : Int32) : Option (Int32) := if (u_T 0 13) ≤ w4 then (tx_let ((w1 + (1 : Int32)) - w2) fun (y_2 : Int32) => if y_2 = (2 : Int32) then (f_X12_taxBy_J75 fu u_T v_T w3) else (if y_2 = (1 : Int32) then (f_X12_taxBy_J75 fu u_T v_T (w3 / (2 : Int32))) else (f_X12_taxBy_J75 fu u_T v_T (0 : Int32)))) else (tx_ck w4 24 <| if (u_T 50 w4.toNatClampNeg) = (1 : Int32) then (tx_ck w4 24 <| f_X12_taxBy_J37 fu u_T v_T K5 w1 w2 w4 w3 (u_T 27 w4.toNatClampNeg)) else (f_X12_taxBy_J37 fu u_T v_T K5 w1 w2 w4 w3 (0 : Int32)))
def f_X12_taxBy_L5 (fu : Nat) (u_T : S32) (v_T : S64) : Nat → Int32 → Int32 → Int32 → Int32 → Option (Int32)
  | 0 => fun _ _ _ _ => none
  | n + 1 => f_X12_taxBy_J5 fu u_T v_T (f_X12_taxBy_L5 fu u_T v_T n)
def f_X12_taxBy (fu : Nat) (u_T : S32) (v_T : S64) (x1 : Int32) (x2 : Int32) : Option (Int32) := f_X12_taxBy_L5 fu u_T v_T fu x1 x2 (0 : Int32) (0 : Int32)
set_option maxHeartbeats 4000000 in
set_option maxRecDepth 100000 in
theorem c_X12_taxBy {l : Launch} {g : GG} {A : Nat → Prop} {X : va_W} {fu : Nat} {a_T : Nat → Nat} {u_T : S32} {v_T : S64} {x1 : Int32} {x2 : Int32} {r : Int32} (hf : f_X12_taxBy fu u_T v_T x1 x2 = some r) : MI l yX12_taxBy cX12_taxBy 5 (some .int) 0 g A (cl_X12 g a_T u_T v_T ++ X) [.ref (a_T 0), .int x1, .int x2] r (cl_X12 g a_T u_T v_T ++ X) := by
  refine tx_start (av := [.ref (a_T 0), .int x1, .int x2]) (by decide) (Nat.le_of_ble_eq_true rfl) ?_
  intro p e s m below meth c ls S hr hlk hE hw hl
  have S : CallFix p m c cX12_taxBy 5 s (List.toArray [.ref (a_T 0), .int x1, .int x2]) (Cond.code yX12_taxBy cX12_taxBy 5 (some .int) :: allW) RX12 := S
  have hx := S.1
  have hb := S.2.1
  have hown := S.2.2.2.1
  have hts : ∀ w ∈ allW, w.before (List.toArray [.ref (a_T 0), .int x1, .int x2]) s = true := fun w h => S.2.2.2.2 w (List.mem_cons_of_mem _ h)
  have hl : lv_has ls 5 [(0, .ref (a_T 0)), (1, .int x1), (2, .int x2)] := hl
  have J37 : ∀ {K5 : Int32 → Int32 → Int32 → Int32 → Option (Int32)} (hK5 : ∀ {w1 : Int32} {w2 : Int32} {w3 : Int32} {w4 : Int32} {H : Heap} {locs : List Loc} {ls : Array Slot}, K5 w1 w2 w3 w4 = some r → WD g A s.heap (cl_X12 g a_T u_T v_T ++ X) H locs → lv_has ls 5 [(0, .ref (a_T 0)), (1, .int w1), (2, .int w2), (3, .int w3), (4, .int w4)] → W p l e (rmH 0) s m (List.toArray [.ref (a_T 0), .int x1, .int x2]) below meth c H locs 0 0 (MQ below (va_Qi (fun r2 (_ : Unit) => r2 = r) (fun _ t => POST g A (cl_X12 g a_T u_T v_T ++ X) t) A) (List.toArray [.ref (a_T 0), .int x1, .int x2]) s 0 0 A) (F0 m 5 ls [])), ∀ {w1 : Int32} {w2 : Int32} {w4 : Int32} {t0 : Int32} {t1 : Int32} {H : Heap} {locs : List Loc} {ls : Array Slot}, f_X12_taxBy_J37 fu u_T v_T K5 w1 w2 w4 t0 t1 = some r → WD g A s.heap (cl_X12 g a_T u_T v_T ++ X) H locs → lv_has ls 5 [(0, .ref (a_T 0)), (1, .int w1), (2, .int w2), (4, .int w4)] → W p l e (rmH 0) s m (List.toArray [.ref (a_T 0), .int x1, .int x2]) below meth c H locs 0 0 (MQ below (va_Qi (fun r2 (_ : Unit) => r2 = r) (fun _ t => POST g A (cl_X12 g a_T u_T v_T ++ X) t) A) (List.toArray [.ref (a_T 0), .int x1, .int x2]) s 0 0 A) (F0 m 37 ls [.int t1, .int t0]) := by
    intro K5 hK5 w1 w2 w4 t0 t1 H locs ls hf hw hl
    unfold f_X12_taxBy_J37 at hf
    refine lv_iadd hx hb dX12_taxBy_37 ?_
    refine lv_topi (fun y_8 ey_8 => ?_)
    replace hf := tx_let_e hf ey_8
    refine lv_istore_n (lv' := [(3, .int y_8), (0, .ref (a_T 0)), (1, .int w1), (2, .int w2), (4, .int w4)]) hx hb dX12_taxBy_38 rfl hl (by decide) rfl (fun ls hl => ?_)
    obtain ⟨y_9, ey_9⟩ : ∃ y : Int32, y = w4 + (1 : Int32) := ⟨_, rfl⟩
    replace hf := tx_let_e hf ey_9
    refine lv_iinc (v := y_9) (lv' := [(4, .int y_9), (3, .int y_8), (0, .ref (a_T 0)), (1, .int w1), (2, .int w2)]) hx hb dX12_taxBy_39 hl (k := 4) rfl (by rw [ey_9]; rfl) (by decide) rfl (fun ls hl => ?_)
    refine lv_goto (tgt := 5) hx hb dX12_taxBy_42 (by decide) ?_
    exact hK5 hf hw (lv_sub hl [2, 3, 4, 1, 0] rfl)
  have J75 : ∀ {t0 : Int32} {H : Heap} {locs : List Loc} {ls : Array Slot}, f_X12_taxBy_J75 fu u_T v_T t0 = some r → WD g A s.heap (cl_X12 g a_T u_T v_T ++ X) H locs → lv_has ls 5 [(0, .ref (a_T 0))] → W p l e (rmH 0) s m (List.toArray [.ref (a_T 0), .int x1, .int x2]) below meth c H locs 0 0 (MQ below (va_Qi (fun r2 (_ : Unit) => r2 = r) (fun _ t => POST g A (cl_X12 g a_T u_T v_T ++ X) t) A) (List.toArray [.ref (a_T 0), .int x1, .int x2]) s 0 0 A) (F0 m 75 ls [.int t0]) := by
    intro t0 H locs ls hf hw hl
    unfold f_X12_taxBy_J75 at hf
    refine lv_aload_n hx hb dX12_taxBy_75 rfl (lv_at hl 0 rfl) ?_
    refine gf_X12_112 S hE hw 0 rfl rfl dX12_taxBy_76 ?_
    refine lv_iconst (v := 0) hx hb dX12_taxBy_79 (by decide) ?_
    refine tx_iald S hE hw 33 rfl (by unfold vp_in; decide) dX12_taxBy_80 ?_
    refine lv_imul hx hb dX12_taxBy_81 ?_
    refine lv_bipush (v := 100) hx hb dX12_taxBy_82 (by decide) ?_
    refine lv_idiv hx hb dX12_taxBy_84 (by decide) ?_
    obtain e0 := tx_in1 hf
    rw [← e0]
    exact tx_iret S hr hlk hw dX12_taxBy_85
  have J5 : ∀ {K5 : Int32 → Int32 → Int32 → Int32 → Option (Int32)} (hK5 : ∀ {w1 : Int32} {w2 : Int32} {w3 : Int32} {w4 : Int32} {H : Heap} {locs : List Loc} {ls : Array Slot}, K5 w1 w2 w3 w4 = some r → WD g A s.heap (cl_X12 g a_T u_T v_T ++ X) H locs → lv_has ls 5 [(0, .ref (a_T 0)), (1, .int w1), (2, .int w2), (3, .int w3), (4, .int w4)] → W p l e (rmH 0) s m (List.toArray [.ref (a_T 0), .int x1, .int x2]) below meth c H locs 0 0 (MQ below (va_Qi (fun r2 (_ : Unit) => r2 = r) (fun _ t => POST g A (cl_X12 g a_T u_T v_T ++ X) t) A) (List.toArray [.ref (a_T 0), .int x1, .int x2]) s 0 0 A) (F0 m 5 ls [])), ∀ {w1 : Int32} {w2 : Int32} {w3 : Int32} {w4 : Int32} {H : Heap} {locs : List Loc} {ls : Array Slot}, f_X12_taxBy_J5 fu u_T v_T K5 w1 w2 w3 w4 = some r → WD g A s.heap (cl_X12 g a_T u_T v_T ++ X) H locs → lv_has ls 5 [(0, .ref (a_T 0)), (1, .int w1), (2, .int w2), (3, .int w3), (4, .int w4)] → W p l e (rmH 0) s m (List.toArray [.ref (a_T 0), .int x1, .int x2]) below meth c H locs 0 0 (MQ below (va_Qi (fun r2 (_ : Unit) => r2 = r) (fun _ t => POST g A (cl_X12 g a_T u_T v_T ++ X) t) A) (List.toArray [.ref (a_T 0), .int x1, .int x2]) s 0 0 A) (F0 m 5 ls []) := by
    intro K5 hK5 w1 w2 w3 w4 H locs ls hf hw hl
    unfold f_X12_taxBy_J5 at hf
    refine lv_iload hx hb dX12_taxBy_5 (lv_at hl 4 rfl) ?_
    refine lv_aload_n hx hb dX12_taxBy_7 rfl (lv_at hl 0 rfl) ?_
    refine gf_X12_225 S hE hw 0 rfl rfl dX12_taxBy_8 ?_
    refine lv_icmp_ge (tgt := 45) hx hb dX12_taxBy_11 (by decide) (fun h_1 => ?_) (fun h_1 => ?_)
    · replace hf := tx_pos hf h_1
      refine lv_iload_n hx hb dX12_taxBy_45 rfl (lv_at hl 1 rfl) ?_
      refine lv_iconst (v := 1) hx hb dX12_taxBy_46 (by decide) ?_
      refine lv_iadd hx hb dX12_taxBy_47 ?_
      refine lv_iload_n hx hb dX12_taxBy_48 rfl (lv_at hl 2 rfl) ?_
      refine lv_isub hx hb dX12_taxBy_49 ?_
      refine lv_topi (fun y_2 ey_2 => ?_)
      replace hf := tx_let_e hf ey_2
      refine lv_istore (lv' := [(4, .int y_2), (0, .ref (a_T 0)), (1, .int w1), (2, .int w2), (3, .int w3)]) hx hb dX12_taxBy_50 hl (by decide) rfl (fun ls hl => ?_)
      refine lv_iload hx hb dX12_taxBy_52 (lv_at hl 0 rfl) ?_
      refine lv_iconst (v := 2) hx hb dX12_taxBy_54 (by decide) ?_
      refine lv_icmp_ne (tgt := 62) hx hb dX12_taxBy_55 (by decide) (fun h_3 => ?_) (fun h_3 => ?_)
      · replace hf := tx_neg hf h_3
        refine lv_iload hx hb dX12_taxBy_62 (lv_at hl 0 rfl) ?_
        refine lv_iconst (v := 1) hx hb dX12_taxBy_64 (by decide) ?_
        refine lv_icmp_ne (tgt := 74) hx hb dX12_taxBy_65 (by decide) (fun h_4 => ?_) (fun h_4 => ?_)
        · replace hf := tx_neg hf h_4
          refine lv_iconst (v := 0) hx hb dX12_taxBy_74 (by decide) ?_
          exact J75 hf hw (lv_sub hl [1] rfl)
        · replace hf := tx_pos hf h_4
          refine lv_iload_n hx hb dX12_taxBy_68 rfl (lv_at hl 4 rfl) ?_
          refine lv_iconst (v := 2) hx hb dX12_taxBy_69 (by decide) ?_
          refine lv_idiv hx hb dX12_taxBy_70 (by decide) ?_
          refine lv_goto (tgt := 75) hx hb dX12_taxBy_71 (by decide) ?_
          exact J75 hf hw (lv_sub hl [1] rfl)
      · replace hf := tx_pos hf h_3
        refine lv_iload_n hx hb dX12_taxBy_58 rfl (lv_at hl 4 rfl) ?_
        refine lv_goto (tgt := 75) hx hb dX12_taxBy_59 (by decide) ?_
        exact J75 hf hw (lv_sub hl [1] rfl)
    · replace hf := tx_neg hf h_1
      refine lv_iload_n hx hb dX12_taxBy_14 rfl (lv_at hl 3 rfl) ?_
      refine lv_aload_n hx hb dX12_taxBy_15 rfl (lv_at hl 0 rfl) ?_
      refine gf_X12_88 S hE hw 0 rfl rfl dX12_taxBy_16 ?_
      refine lv_iload hx hb dX12_taxBy_19 (lv_at hl 4 rfl) ?_
      obtain ⟨h_5, hf⟩ := tx_ck_e hf
      refine tx_iald S hE hw 25 rfl h_5 dX12_taxBy_21 ?_
      refine lv_iconst (v := 1) hx hb dX12_taxBy_22 (by decide) ?_
      refine lv_icmp_ne (tgt := 36) hx hb dX12_taxBy_23 (by decide) (fun h_6 => ?_) (fun h_6 => ?_)
      · replace hf := tx_neg hf h_6
        refine lv_iconst (v := 0) hx hb dX12_taxBy_36 (by decide) ?_
        exact J37 hK5 hf hw (lv_sub hl [0, 1, 2, 4] rfl)
      · replace hf := tx_pos hf h_6
        refine lv_aload_n hx hb dX12_taxBy_26 rfl (lv_at hl 0 rfl) ?_
        refine gf_X12_39 S hE hw 0 rfl rfl dX12_taxBy_27 ?_
        refine lv_iload hx hb dX12_taxBy_30 (lv_at hl 4 rfl) ?_
        obtain ⟨h_7, hf⟩ := tx_ck_e hf
        refine tx_iald S hE hw 9 rfl h_7 dX12_taxBy_32 ?_
        refine lv_goto (tgt := 37) hx hb dX12_taxBy_33 (by decide) ?_
        exact J37 hK5 hf hw (lv_sub hl [0, 1, 2, 4] rfl)
  have L5 : ∀ (n : Nat), ∀ {w1 : Int32} {w2 : Int32} {w3 : Int32} {w4 : Int32} {H : Heap} {locs : List Loc} {ls : Array Slot}, f_X12_taxBy_L5 fu u_T v_T n w1 w2 w3 w4 = some r → WD g A s.heap (cl_X12 g a_T u_T v_T ++ X) H locs → lv_has ls 5 [(0, .ref (a_T 0)), (1, .int w1), (2, .int w2), (3, .int w3), (4, .int w4)] → W p l e (rmH 0) s m (List.toArray [.ref (a_T 0), .int x1, .int x2]) below meth c H locs 0 0 (MQ below (va_Qi (fun r2 (_ : Unit) => r2 = r) (fun _ t => POST g A (cl_X12 g a_T u_T v_T ++ X) t) A) (List.toArray [.ref (a_T 0), .int x1, .int x2]) s 0 0 A) (F0 m 5 ls []) := by
    intro  n
    induction n with
    | zero => intro w1 w2 w3 w4 H locs ls hf; exact absurd hf (by intro q; cases q)
    | succ n ih => exact fun hf hw hl => J5 ih hf hw hl
  unfold f_X12_taxBy at hf
  refine lv_iconst (v := 0) hx hb dX12_taxBy_0 (by decide) ?_
  refine lv_istore_n (lv' := [(3, .int (0 : Int32)), (0, .ref (a_T 0)), (1, .int x1), (2, .int x2)]) hx hb dX12_taxBy_1 rfl hl (by decide) rfl (fun ls hl => ?_)
  refine lv_iconst (v := 0) hx hb dX12_taxBy_2 (by decide) ?_
  refine lv_istore (lv' := [(4, .int (0 : Int32)), (3, .int (0 : Int32)), (0, .ref (a_T 0)), (1, .int x1), (2, .int x2)]) hx hb dX12_taxBy_3 hl (by decide) rfl (fun ls hl => ?_)
  exact L5 fu hf hw (lv_sub hl [2, 3, 4, 1, 0] rfl)
def f_X12_streetHas (fu : Nat) (u_T : S32) (v_T : S64) (x1 : Int32) (x2 : Int32) : Option (Int32) := tx_b1 (f_X12_taxBy fu u_T v_T x1 x2) fun (r_2 : Int32) => if x1 = (0 : Int32) then (some ((-r_2) - (5 : Int32))) else (some ((-r_2) - (0 : Int32)))
set_option maxHeartbeats 4000000 in
set_option maxRecDepth 100000 in
theorem c_X12_streetHas {l : Launch} {g : GG} {A : Nat → Prop} {X : va_W} {fu : Nat} {a_T : Nat → Nat} {u_T : S32} {v_T : S64} {x1 : Int32} {x2 : Int32} {r : Int32} (hf : f_X12_streetHas fu u_T v_T x1 x2 = some r) : MI l yX12_streetHas cX12_streetHas 3 (some .int) 1 g A (cl_X12 g a_T u_T v_T ++ X) [.ref (a_T 0), .int x1, .int x2] r (cl_X12 g a_T u_T v_T ++ X) := by
  refine tx_start (av := [.ref (a_T 0), .int x1, .int x2]) (by decide) (Nat.le_of_ble_eq_true rfl) ?_
  intro p e s m below meth c ls S hr hlk hE hw hl
  have S : CallFix p m c cX12_streetHas 3 s (List.toArray [.ref (a_T 0), .int x1, .int x2]) (Cond.code yX12_streetHas cX12_streetHas 3 (some .int) :: allW) RX12 := S
  have hx := S.1
  have hb := S.2.1
  have hown := S.2.2.2.1
  have hts : ∀ w ∈ allW, w.before (List.toArray [.ref (a_T 0), .int x1, .int x2]) s = true := fun w h => S.2.2.2.2 w (List.mem_cons_of_mem _ h)
  have hl : lv_has ls 3 [(0, .ref (a_T 0)), (1, .int x1), (2, .int x2)] := hl
  unfold f_X12_streetHas at hf
  refine lv_aload_n hx hb dX12_streetHas_0 rfl (lv_at hl 0 rfl) ?_
  refine lv_iload_n hx hb dX12_streetHas_1 rfl (lv_at hl 1 rfl) ?_
  refine lv_iload_n hx hb dX12_streetHas_2 rfl (lv_at hl 2 rfl) ?_
  obtain ⟨r_2, h_1, hf⟩ := tx_b1_e hf
  refine tx_ci hw (tx_runV S hE hw (c_X12_taxBy h_1) lk_X12_492 (q0 := 0) rfl rfl rfl hl.1 (rest := []) rfl (Nat.le_of_ble_eq_true rfl) ⟨by decide, by decide⟩ dX12_streetHas_3 ⟨Nat.zero_le _, Nat.zero_le _⟩) (fun H locs hw => ?_)
  refine lv_ineg hx hb dX12_streetHas_6 ?_
  refine lv_iload_n hx hb dX12_streetHas_7 rfl (lv_at hl 1 rfl) ?_
  refine lv_if_ne (tgt := 15) hx hb dX12_streetHas_8 (by decide) (fun h_3 => ?_) (fun h_3 => ?_)
  · replace hf := tx_neg hf h_3
    refine lv_iconst (v := 0) hx hb dX12_streetHas_15 (by decide) ?_
    refine lv_isub hx hb dX12_streetHas_16 ?_
    obtain e0 := tx_in1 hf
    rw [← e0]
    exact tx_iret S hr hlk hw dX12_streetHas_17
  · replace hf := tx_pos hf h_3
    refine lv_iconst (v := 5) hx hb dX12_streetHas_11 (by decide) ?_
    refine lv_goto (tgt := 16) hx hb dX12_streetHas_12 (by decide) ?_
    refine lv_isub hx hb dX12_streetHas_16 ?_
    obtain e0 := tx_in1 hf
    rw [← e0]
    exact tx_iret S hr hlk hw dX12_streetHas_17
def f_X12_readerHas (fu : Nat) (u_T : S32) (v_T : S64) (x1 : Int32) (x2 : Int32) : Option (Int32) := tx_b1 (f_X12_taxBy fu u_T v_T x1 x2) fun (r_2 : Int32) => if x2 = (0 : Int32) then (some (r_2 - (3 : Int32))) else (some (r_2 - (0 : Int32)))
set_option maxHeartbeats 4000000 in
set_option maxRecDepth 100000 in
theorem c_X12_readerHas {l : Launch} {g : GG} {A : Nat → Prop} {X : va_W} {fu : Nat} {a_T : Nat → Nat} {u_T : S32} {v_T : S64} {x1 : Int32} {x2 : Int32} {r : Int32} (hf : f_X12_readerHas fu u_T v_T x1 x2 = some r) : MI l yX12_readerHas cX12_readerHas 3 (some .int) 1 g A (cl_X12 g a_T u_T v_T ++ X) [.ref (a_T 0), .int x1, .int x2] r (cl_X12 g a_T u_T v_T ++ X) := by
  refine tx_start (av := [.ref (a_T 0), .int x1, .int x2]) (by decide) (Nat.le_of_ble_eq_true rfl) ?_
  intro p e s m below meth c ls S hr hlk hE hw hl
  have S : CallFix p m c cX12_readerHas 3 s (List.toArray [.ref (a_T 0), .int x1, .int x2]) (Cond.code yX12_readerHas cX12_readerHas 3 (some .int) :: allW) RX12 := S
  have hx := S.1
  have hb := S.2.1
  have hown := S.2.2.2.1
  have hts : ∀ w ∈ allW, w.before (List.toArray [.ref (a_T 0), .int x1, .int x2]) s = true := fun w h => S.2.2.2.2 w (List.mem_cons_of_mem _ h)
  have hl : lv_has ls 3 [(0, .ref (a_T 0)), (1, .int x1), (2, .int x2)] := hl
  unfold f_X12_readerHas at hf
  refine lv_aload_n hx hb dX12_readerHas_0 rfl (lv_at hl 0 rfl) ?_
  refine lv_iload_n hx hb dX12_readerHas_1 rfl (lv_at hl 1 rfl) ?_
  refine lv_iload_n hx hb dX12_readerHas_2 rfl (lv_at hl 2 rfl) ?_
  obtain ⟨r_2, h_1, hf⟩ := tx_b1_e hf
  refine tx_ci hw (tx_runV S hE hw (c_X12_taxBy h_1) lk_X12_492 (q0 := 0) rfl rfl rfl hl.1 (rest := []) rfl (Nat.le_of_ble_eq_true rfl) ⟨by decide, by decide⟩ dX12_readerHas_3 ⟨Nat.zero_le _, Nat.zero_le _⟩) (fun H locs hw => ?_)
  refine lv_iload_n hx hb dX12_readerHas_6 rfl (lv_at hl 2 rfl) ?_
  refine lv_if_ne (tgt := 14) hx hb dX12_readerHas_7 (by decide) (fun h_3 => ?_) (fun h_3 => ?_)
  · replace hf := tx_neg hf h_3
    refine lv_iconst (v := 0) hx hb dX12_readerHas_14 (by decide) ?_
    refine lv_isub hx hb dX12_readerHas_15 ?_
    obtain e0 := tx_in1 hf
    rw [← e0]
    exact tx_iret S hr hlk hw dX12_readerHas_16
  · replace hf := tx_pos hf h_3
    refine lv_iconst (v := 3) hx hb dX12_readerHas_10 (by decide) ?_
    refine lv_goto (tgt := 15) hx hb dX12_readerHas_11 (by decide) ?_
    refine lv_isub hx hb dX12_readerHas_15 ?_
    obtain e0 := tx_in1 hf
    rw [← e0]
    exact tx_iret S hr hlk hw dX12_readerHas_16
def f_X12_restAt_J81 (fu : Nat) (u_T : S32) (v_T : S64) (K4 : Int32 → Int32 → Int32 → Option (Int32)) (w1 : Int32) (w2 : Int32) (w3 : Int32) : Option (Int32) := tx_let (w3 + (1 : Int32)) fun (y_17 : Int32) => K4 w1 w2 y_17
def f_X12_restAt_J4 (fu : Nat) (u_T : S32) (v_T : S64) (K4 : Int32 → Int32 → Int32 → Option (Int32)) (w1 : Int32) (w2 : Int32) (w3 : Int32) : Option (Int32) := if (4 : Int32) ≤ w3 then (if (0 : Int32) ≤ w1 then (some (-2 : Int32)) else (some w2)) else (tx_let (w3 / (2 : Int32)) fun (y_3 : Int32) => tx_let (w3 - w3 / (2 : Int32) * (2 : Int32)) fun (y_4 : Int32) => tx_b1 (f_X12_streetHas fu u_T v_T ((1 : Int32) - y_3) y_4) fun (r_6 : Int32) => tx_b1 (f_X12_streetHas fu u_T v_T y_3 y_4) fun (r_8 : Int32) => if r_8 < r_6 then (f_X12_restAt_J81 fu u_T v_T K4 w1 w2 w3) else (tx_b1 (f_X12_readerHas fu u_T v_T y_3 ((1 : Int32) - y_4)) fun (r_11 : Int32) => tx_b1 (f_X12_readerHas fu u_T v_T y_3 y_4) fun (r_13 : Int32) => if r_11 ≤ r_13 then (if w2 = w1 then (some (((10 : Int32) * y_3) + y_4)) else (tx_let (w2 + (1 : Int32)) fun (y_16 : Int32) => f_X12_restAt_J81 fu u_T v_T K4 w1 y_16 w3)) else (f_X12_restAt_J81 fu u_T v_T K4 w1 w2 w3)))
def f_X12_restAt_L4 (fu : Nat) (u_T : S32) (v_T : S64) : Nat → Int32 → Int32 → Int32 → Option (Int32)
  | 0 => fun _ _ _ => none
  | n + 1 => f_X12_restAt_J4 fu u_T v_T (f_X12_restAt_L4 fu u_T v_T n)
def f_X12_restAt (fu : Nat) (u_T : S32) (v_T : S64) (x1 : Int32) : Option (Int32) := f_X12_restAt_L4 fu u_T v_T fu x1 (0 : Int32) (0 : Int32)
set_option maxHeartbeats 4000000 in
set_option maxRecDepth 100000 in
theorem c_X12_restAt {l : Launch} {g : GG} {A : Nat → Prop} {X : va_W} {fu : Nat} {a_T : Nat → Nat} {u_T : S32} {v_T : S64} {x1 : Int32} {r : Int32} (hf : f_X12_restAt fu u_T v_T x1 = some r) : MI l yX12_restAt cX12_restAt 6 (some .int) 2 g A (cl_X12 g a_T u_T v_T ++ X) [.ref (a_T 0), .int x1] r (cl_X12 g a_T u_T v_T ++ X) := by
  refine tx_start (av := [.ref (a_T 0), .int x1]) (by decide) (Nat.le_of_ble_eq_true rfl) ?_
  intro p e s m below meth c ls S hr hlk hE hw hl
  have S : CallFix p m c cX12_restAt 6 s (List.toArray [.ref (a_T 0), .int x1]) (Cond.code yX12_restAt cX12_restAt 6 (some .int) :: allW) RX12 := S
  have hx := S.1
  have hb := S.2.1
  have hown := S.2.2.2.1
  have hts : ∀ w ∈ allW, w.before (List.toArray [.ref (a_T 0), .int x1]) s = true := fun w h => S.2.2.2.2 w (List.mem_cons_of_mem _ h)
  have hl : lv_has ls 6 [(0, .ref (a_T 0)), (1, .int x1)] := hl
  have J81 : ∀ {K4 : Int32 → Int32 → Int32 → Option (Int32)} (hK4 : ∀ {w1 : Int32} {w2 : Int32} {w3 : Int32} {H : Heap} {locs : List Loc} {ls : Array Slot}, K4 w1 w2 w3 = some r → WD g A s.heap (cl_X12 g a_T u_T v_T ++ X) H locs → lv_has ls 6 [(0, .ref (a_T 0)), (1, .int w1), (2, .int w2), (3, .int w3)] → W p l e (rmH 2) s m (List.toArray [.ref (a_T 0), .int x1]) below meth c H locs 0 0 (MQ below (va_Qi (fun r2 (_ : Unit) => r2 = r) (fun _ t => POST g A (cl_X12 g a_T u_T v_T ++ X) t) A) (List.toArray [.ref (a_T 0), .int x1]) s 0 0 A) (F0 m 4 ls [])), ∀ {w1 : Int32} {w2 : Int32} {w3 : Int32} {H : Heap} {locs : List Loc} {ls : Array Slot}, f_X12_restAt_J81 fu u_T v_T K4 w1 w2 w3 = some r → WD g A s.heap (cl_X12 g a_T u_T v_T ++ X) H locs → lv_has ls 6 [(0, .ref (a_T 0)), (1, .int w1), (2, .int w2), (3, .int w3)] → W p l e (rmH 2) s m (List.toArray [.ref (a_T 0), .int x1]) below meth c H locs 0 0 (MQ below (va_Qi (fun r2 (_ : Unit) => r2 = r) (fun _ t => POST g A (cl_X12 g a_T u_T v_T ++ X) t) A) (List.toArray [.ref (a_T 0), .int x1]) s 0 0 A) (F0 m 81 ls []) := by
    intro K4 hK4 w1 w2 w3 H locs ls hf hw hl
    unfold f_X12_restAt_J81 at hf
    obtain ⟨y_17, ey_17⟩ : ∃ y : Int32, y = w3 + (1 : Int32) := ⟨_, rfl⟩
    replace hf := tx_let_e hf ey_17
    refine lv_iinc (v := y_17) (lv' := [(3, .int y_17), (0, .ref (a_T 0)), (1, .int w1), (2, .int w2)]) hx hb dX12_restAt_81 hl (k := 3) rfl (by rw [ey_17]; rfl) (by decide) rfl (fun ls hl => ?_)
    refine lv_goto (tgt := 4) hx hb dX12_restAt_84 (by decide) ?_
    exact hK4 hf hw (lv_sub hl [1, 2, 3, 0] rfl)
  have J4 : ∀ {K4 : Int32 → Int32 → Int32 → Option (Int32)} (hK4 : ∀ {w1 : Int32} {w2 : Int32} {w3 : Int32} {H : Heap} {locs : List Loc} {ls : Array Slot}, K4 w1 w2 w3 = some r → WD g A s.heap (cl_X12 g a_T u_T v_T ++ X) H locs → lv_has ls 6 [(0, .ref (a_T 0)), (1, .int w1), (2, .int w2), (3, .int w3)] → W p l e (rmH 2) s m (List.toArray [.ref (a_T 0), .int x1]) below meth c H locs 0 0 (MQ below (va_Qi (fun r2 (_ : Unit) => r2 = r) (fun _ t => POST g A (cl_X12 g a_T u_T v_T ++ X) t) A) (List.toArray [.ref (a_T 0), .int x1]) s 0 0 A) (F0 m 4 ls [])), ∀ {w1 : Int32} {w2 : Int32} {w3 : Int32} {H : Heap} {locs : List Loc} {ls : Array Slot}, f_X12_restAt_J4 fu u_T v_T K4 w1 w2 w3 = some r → WD g A s.heap (cl_X12 g a_T u_T v_T ++ X) H locs → lv_has ls 6 [(0, .ref (a_T 0)), (1, .int w1), (2, .int w2), (3, .int w3)] → W p l e (rmH 2) s m (List.toArray [.ref (a_T 0), .int x1]) below meth c H locs 0 0 (MQ below (va_Qi (fun r2 (_ : Unit) => r2 = r) (fun _ t => POST g A (cl_X12 g a_T u_T v_T ++ X) t) A) (List.toArray [.ref (a_T 0), .int x1]) s 0 0 A) (F0 m 4 ls []) := by
    intro K4 hK4 w1 w2 w3 H locs ls hf hw hl
    unfold f_X12_restAt_J4 at hf
    refine lv_iload_n hx hb dX12_restAt_4 rfl (lv_at hl 3 rfl) ?_
    refine lv_iconst (v := 4) hx hb dX12_restAt_5 (by decide) ?_
    refine lv_icmp_ge (tgt := 87) hx hb dX12_restAt_6 (by decide) (fun h_1 => ?_) (fun h_1 => ?_)
    · replace hf := tx_pos hf h_1
      refine lv_iload_n hx hb dX12_restAt_87 rfl (lv_at hl 1 rfl) ?_
      refine lv_if_ge (tgt := 95) hx hb dX12_restAt_88 (by decide) (fun h_2 => ?_) (fun h_2 => ?_)
      · replace hf := tx_pos hf h_2
        refine lv_bipush (v := -2) hx hb dX12_restAt_95 (by decide) ?_
        obtain e0 := tx_in1 hf
        rw [← e0]
        exact tx_iret S hr hlk hw dX12_restAt_97
      · replace hf := tx_neg hf h_2
        refine lv_iload_n hx hb dX12_restAt_91 rfl (lv_at hl 2 rfl) ?_
        refine lv_goto (tgt := 97) hx hb dX12_restAt_92 (by decide) ?_
        obtain e0 := tx_in1 hf
        rw [← e0]
        exact tx_iret S hr hlk hw dX12_restAt_97
    · replace hf := tx_neg hf h_1
      refine lv_iload_n hx hb dX12_restAt_9 rfl (lv_at hl 3 rfl) ?_
      refine lv_iconst (v := 2) hx hb dX12_restAt_10 (by decide) ?_
      refine lv_idiv hx hb dX12_restAt_11 (by decide) ?_
      refine lv_topi (fun y_3 ey_3 => ?_)
      replace hf := tx_let_e hf ey_3
      refine lv_istore (lv' := [(4, .int y_3), (0, .ref (a_T 0)), (1, .int w1), (2, .int w2), (3, .int w3)]) hx hb dX12_restAt_12 hl (by decide) rfl (fun ls hl => ?_)
      refine lv_iload_n hx hb dX12_restAt_14 rfl (lv_at hl 4 rfl) ?_
      refine lv_iconst (v := 2) hx hb dX12_restAt_15 (by decide) ?_
      refine lv_irem hx hb dX12_restAt_16 (by decide) ?_
      refine lv_topi (fun y_4 ey_4 => ?_)
      replace hf := tx_let_e hf ey_4
      refine lv_istore (lv' := [(5, .int y_4), (4, .int y_3), (0, .ref (a_T 0)), (1, .int w1), (2, .int w2), (3, .int w3)]) hx hb dX12_restAt_17 hl (by decide) rfl (fun ls hl => ?_)
      refine lv_aload_n hx hb dX12_restAt_19 rfl (lv_at hl 2 rfl) ?_
      refine lv_iconst (v := 1) hx hb dX12_restAt_20 (by decide) ?_
      refine lv_iload hx hb dX12_restAt_21 (lv_at hl 1 rfl) ?_
      refine lv_isub hx hb dX12_restAt_23 ?_
      refine lv_iload hx hb dX12_restAt_24 (lv_at hl 0 rfl) ?_
      obtain ⟨r_6, h_5, hf⟩ := tx_b1_e hf
      refine tx_ci hw (tx_runV S hE hw (c_X12_streetHas h_5) lk_X12_495 (q0 := 0) rfl rfl rfl hl.1 (rest := []) rfl (Nat.le_of_ble_eq_true rfl) ⟨by decide, by decide⟩ dX12_restAt_26 ⟨Nat.zero_le _, Nat.zero_le _⟩) (fun H locs hw => ?_)
      refine lv_aload_n hx hb dX12_restAt_29 rfl (lv_at hl 2 rfl) ?_
      refine lv_iload hx hb dX12_restAt_30 (lv_at hl 1 rfl) ?_
      refine lv_iload hx hb dX12_restAt_32 (lv_at hl 0 rfl) ?_
      obtain ⟨r_8, h_7, hf⟩ := tx_b1_e hf
      refine tx_ci hw (tx_runV S hE hw (c_X12_streetHas h_7) lk_X12_495 (q0 := 0) rfl rfl rfl hl.1 (rest := [.int r_6]) rfl (Nat.le_of_ble_eq_true rfl) ⟨by decide, by decide⟩ dX12_restAt_34 ⟨Nat.zero_le _, Nat.zero_le _⟩) (fun H locs hw => ?_)
      refine lv_icmp_gt (tgt := 81) hx hb dX12_restAt_37 (by decide) (fun h_9 => ?_) (fun h_9 => ?_)
      · replace hf := tx_pos hf h_9
        exact J81 hK4 hf hw (lv_sub hl [2, 3, 4, 5] rfl)
      · replace hf := tx_neg hf h_9
        refine lv_aload_n hx hb dX12_restAt_40 rfl (lv_at hl 2 rfl) ?_
        refine lv_iload hx hb dX12_restAt_41 (lv_at hl 1 rfl) ?_
        refine lv_iconst (v := 1) hx hb dX12_restAt_43 (by decide) ?_
        refine lv_iload hx hb dX12_restAt_44 (lv_at hl 0 rfl) ?_
        refine lv_isub hx hb dX12_restAt_46 ?_
        obtain ⟨r_11, h_10, hf⟩ := tx_b1_e hf
        refine tx_ci hw (tx_runV S hE hw (c_X12_readerHas h_10) lk_X12_498 (q0 := 0) rfl rfl rfl hl.1 (rest := []) rfl (Nat.le_of_ble_eq_true rfl) ⟨by decide, by decide⟩ dX12_restAt_47 ⟨Nat.zero_le _, Nat.zero_le _⟩) (fun H locs hw => ?_)
        refine lv_aload_n hx hb dX12_restAt_50 rfl (lv_at hl 2 rfl) ?_
        refine lv_iload hx hb dX12_restAt_51 (lv_at hl 1 rfl) ?_
        refine lv_iload hx hb dX12_restAt_53 (lv_at hl 0 rfl) ?_
        obtain ⟨r_13, h_12, hf⟩ := tx_b1_e hf
        refine tx_ci hw (tx_runV S hE hw (c_X12_readerHas h_12) lk_X12_498 (q0 := 0) rfl rfl rfl hl.1 (rest := [.int r_11]) rfl (Nat.le_of_ble_eq_true rfl) ⟨by decide, by decide⟩ dX12_restAt_55 ⟨Nat.zero_le _, Nat.zero_le _⟩) (fun H locs hw => ?_)
        refine lv_icmp_le (tgt := 64) hx hb dX12_restAt_58 (by decide) (fun h_14 => ?_) (fun h_14 => ?_)
        · replace hf := tx_pos hf h_14
          refine lv_iload_n hx hb dX12_restAt_64 rfl (lv_at hl 4 rfl) ?_
          refine lv_iload_n hx hb dX12_restAt_65 rfl (lv_at hl 3 rfl) ?_
          refine lv_icmp_ne (tgt := 78) hx hb dX12_restAt_66 (by decide) (fun h_15 => ?_) (fun h_15 => ?_)
          · replace hf := tx_neg hf h_15
            obtain ⟨y_16, ey_16⟩ : ∃ y : Int32, y = w2 + (1 : Int32) := ⟨_, rfl⟩
            replace hf := tx_let_e hf ey_16
            refine lv_iinc (v := y_16) (lv' := [(2, .int y_16), (5, .int y_4), (4, .int y_3), (0, .ref (a_T 0)), (1, .int w1), (3, .int w3)]) hx hb dX12_restAt_78 hl (k := 4) rfl (by rw [ey_16]; rfl) (by decide) rfl (fun ls hl => ?_)
            exact J81 hK4 hf hw (lv_sub hl [3, 4, 0, 5] rfl)
          · replace hf := tx_pos hf h_15
            refine lv_bipush (v := 10) hx hb dX12_restAt_69 (by decide) ?_
            refine lv_iload hx hb dX12_restAt_71 (lv_at hl 1 rfl) ?_
            refine lv_imul hx hb dX12_restAt_73 ?_
            refine lv_iload hx hb dX12_restAt_74 (lv_at hl 0 rfl) ?_
            refine lv_iadd hx hb dX12_restAt_76 ?_
            obtain e0 := tx_in1 hf
            rw [← e0]
            exact tx_iret S hr hlk hw dX12_restAt_77
        · replace hf := tx_neg hf h_14
          refine lv_goto (tgt := 81) hx hb dX12_restAt_61 (by decide) ?_
          exact J81 hK4 hf hw (lv_sub hl [2, 3, 4, 5] rfl)
  have L4 : ∀ (n : Nat), ∀ {w1 : Int32} {w2 : Int32} {w3 : Int32} {H : Heap} {locs : List Loc} {ls : Array Slot}, f_X12_restAt_L4 fu u_T v_T n w1 w2 w3 = some r → WD g A s.heap (cl_X12 g a_T u_T v_T ++ X) H locs → lv_has ls 6 [(0, .ref (a_T 0)), (1, .int w1), (2, .int w2), (3, .int w3)] → W p l e (rmH 2) s m (List.toArray [.ref (a_T 0), .int x1]) below meth c H locs 0 0 (MQ below (va_Qi (fun r2 (_ : Unit) => r2 = r) (fun _ t => POST g A (cl_X12 g a_T u_T v_T ++ X) t) A) (List.toArray [.ref (a_T 0), .int x1]) s 0 0 A) (F0 m 4 ls []) := by
    intro  n
    induction n with
    | zero => intro w1 w2 w3 H locs ls hf; exact absurd hf (by intro q; cases q)
    | succ n ih => exact fun hf hw hl => J4 ih hf hw hl
  unfold f_X12_restAt at hf
  refine lv_iconst (v := 0) hx hb dX12_restAt_0 (by decide) ?_
  refine lv_istore_n (lv' := [(2, .int (0 : Int32)), (0, .ref (a_T 0)), (1, .int x1)]) hx hb dX12_restAt_1 rfl hl (by decide) rfl (fun ls hl => ?_)
  refine lv_iconst (v := 0) hx hb dX12_restAt_2 (by decide) ?_
  refine lv_istore_n (lv' := [(3, .int (0 : Int32)), (2, .int (0 : Int32)), (0, .ref (a_T 0)), (1, .int x1)]) hx hb dX12_restAt_3 rfl hl (by decide) rfl (fun ls hl => ?_)
  exact L4 fu hf hw (lv_sub hl [2, 3, 1, 0] rfl)
def f_X12_rests (fu : Nat) (v_T : S64) (u_T : S32) : Option (Int32 × S32) := tx_let (up2 u_T 0 2 (0 : Int32)) fun (u_T_1 : S32) => tx_b1 (f_X12_restAt fu u_T_1 v_T (-1 : Int32)) fun (r_3 : Int32) => some (r_3, u_T_1)
set_option maxHeartbeats 4000000 in
set_option maxRecDepth 100000 in
theorem c_X12_rests {l : Launch} {g : GG} {A : Nat → Prop} {X : va_W} {fu : Nat} {a_T : Nat → Nat} {u_T : S32} {v_T : S64} {r : Int32} {zu_T : S32} (hf : f_X12_rests fu v_T u_T = some (r, zu_T)) : MI l yX12_rests cX12_rests 1 (some .int) 3 g A (cl_X12 g a_T u_T v_T ++ X) [.ref (a_T 0)] r (cl_X12 g a_T zu_T v_T ++ X) := by
  refine tx_start (av := [.ref (a_T 0)]) (by decide) (Nat.le_of_ble_eq_true rfl) ?_
  intro p e s m below meth c ls S hr hlk hE hw hl
  have S : CallFix p m c cX12_rests 1 s (List.toArray [.ref (a_T 0)]) (Cond.code yX12_rests cX12_rests 1 (some .int) :: allW) RX12 := S
  have hx := S.1
  have hb := S.2.1
  have hown := S.2.2.2.1
  have hts : ∀ w ∈ allW, w.before (List.toArray [.ref (a_T 0)]) s = true := fun w h => S.2.2.2.2 w (List.mem_cons_of_mem _ h)
  have hl : lv_has ls 1 [(0, .ref (a_T 0))] := hl
  unfold f_X12_rests at hf
  refine lv_aload_n hx hb dX12_rests_0 rfl (lv_at hl 0 rfl) ?_
  refine lv_iconst (v := 0) hx hb dX12_rests_1 (by decide) ?_
  obtain ⟨u_T_1, eu_T_1⟩ : ∃ z : S32, z = up2 u_T 0 2 (0 : Int32) := ⟨_, rfl⟩
  replace hf := tx_let_e hf eu_T_1
  refine pf_X12_145 (ws' := cl_X12 g a_T u_T_1 v_T ++ X) S hE hw rfl rfl 0 rfl (Nat.le_of_ble_eq_true rfl) (by rw [eu_T_1]; rfl) dX12_rests_2 (fun H locs hw => ?_)
  refine lv_aload_n hx hb dX12_rests_5 rfl (lv_at hl 0 rfl) ?_
  refine lv_iconst (v := -1) hx hb dX12_rests_6 (by decide) ?_
  obtain ⟨r_3, h_2, hf⟩ := tx_b1_e hf
  refine tx_ci hw (tx_runV S hE hw (c_X12_restAt h_2) lk_X12_501 (q0 := 0) rfl rfl rfl hl.1 (rest := []) rfl (Nat.le_of_ble_eq_true rfl) ⟨by decide, by decide⟩ dX12_rests_7 ⟨Nat.zero_le _, Nat.zero_le _⟩) (fun H locs hw => ?_)
  obtain ⟨e0, e1⟩ := tx_in2 hf
  rw [← e0, ← e1]
  exact tx_iret S hr hlk hw dX12_rests_10
def f_X12_rest (fu : Nat) (v_T : S64) (u_T : S32) (x1 : Int32) : Option (Int32 × S32) := tx_let (up2 u_T 0 2 (0 : Int32)) fun (u_T_1 : S32) => if (0 : Int32) ≤ x1 then (tx_b1 (f_X12_restAt fu u_T_1 v_T x1) fun (r_4 : Int32) => some (r_4, u_T_1)) else (some ((-1 : Int32), u_T_1))
set_option maxHeartbeats 4000000 in
set_option maxRecDepth 100000 in
theorem c_X12_rest {l : Launch} {g : GG} {A : Nat → Prop} {X : va_W} {fu : Nat} {a_T : Nat → Nat} {u_T : S32} {v_T : S64} {x1 : Int32} {r : Int32} {zu_T : S32} (hf : f_X12_rest fu v_T u_T x1 = some (r, zu_T)) : MI l yX12_rest cX12_rest 2 (some .int) 3 g A (cl_X12 g a_T u_T v_T ++ X) [.ref (a_T 0), .int x1] r (cl_X12 g a_T zu_T v_T ++ X) := by
  refine tx_start (av := [.ref (a_T 0), .int x1]) (by decide) (Nat.le_of_ble_eq_true rfl) ?_
  intro p e s m below meth c ls S hr hlk hE hw hl
  have S : CallFix p m c cX12_rest 2 s (List.toArray [.ref (a_T 0), .int x1]) (Cond.code yX12_rest cX12_rest 2 (some .int) :: allW) RX12 := S
  have hx := S.1
  have hb := S.2.1
  have hown := S.2.2.2.1
  have hts : ∀ w ∈ allW, w.before (List.toArray [.ref (a_T 0), .int x1]) s = true := fun w h => S.2.2.2.2 w (List.mem_cons_of_mem _ h)
  have hl : lv_has ls 2 [(0, .ref (a_T 0)), (1, .int x1)] := hl
  unfold f_X12_rest at hf
  refine lv_aload_n hx hb dX12_rest_0 rfl (lv_at hl 0 rfl) ?_
  refine lv_iconst (v := 0) hx hb dX12_rest_1 (by decide) ?_
  obtain ⟨u_T_1, eu_T_1⟩ : ∃ z : S32, z = up2 u_T 0 2 (0 : Int32) := ⟨_, rfl⟩
  replace hf := tx_let_e hf eu_T_1
  refine pf_X12_145 (ws' := cl_X12 g a_T u_T_1 v_T ++ X) S hE hw rfl rfl 0 rfl (Nat.le_of_ble_eq_true rfl) (by rw [eu_T_1]; rfl) dX12_rest_2 (fun H locs hw => ?_)
  refine lv_iload_n hx hb dX12_rest_5 rfl (lv_at hl 1 rfl) ?_
  refine lv_if_ge (tgt := 13) hx hb dX12_rest_6 (by decide) (fun h_2 => ?_) (fun h_2 => ?_)
  · replace hf := tx_pos hf h_2
    refine lv_aload_n hx hb dX12_rest_13 rfl (lv_at hl 0 rfl) ?_
    refine lv_iload_n hx hb dX12_rest_14 rfl (lv_at hl 1 rfl) ?_
    obtain ⟨r_4, h_3, hf⟩ := tx_b1_e hf
    refine tx_ci hw (tx_runV S hE hw (c_X12_restAt h_3) lk_X12_501 (q0 := 0) rfl rfl rfl hl.1 (rest := []) rfl (Nat.le_of_ble_eq_true rfl) ⟨by decide, by decide⟩ dX12_rest_15 ⟨Nat.zero_le _, Nat.zero_le _⟩) (fun H locs hw => ?_)
    obtain ⟨e0, e1⟩ := tx_in2 hf
    rw [← e0, ← e1]
    exact tx_iret S hr hlk hw dX12_rest_18
  · replace hf := tx_neg hf h_2
    refine lv_iconst (v := -1) hx hb dX12_rest_9 (by decide) ?_
    refine lv_goto (tgt := 18) hx hb dX12_rest_10 (by decide) ?_
    obtain ⟨e0, e1⟩ := tx_in2 hf
    rw [← e0, ← e1]
    exact tx_iret S hr hlk hw dX12_rest_18
def f_X12_enough_J121 (fu : Nat) (K17 : S32 → S64 → Int32 → Int32 → Option (Int32 × S32 × S64)) (K64 : S32 → S64 → Int32 → Int32 → Int32 → Int32 → Int32 → Option (Int32 × S32 × S64)) (u_T : S32) (v_T : S64) (w1 : Int32) (w2 : Int32) (w3 : Int32) (w5 : Int32) (t0 : Int32) : Option (Int32 × S32 × S64) := tx_let (w5 + (1 : Int32)) fun (y_28 : Int32) => K64 u_T v_T w1 w2 w3 t0 y_28
def f_X12_enough_J116 (fu : Nat) (K17 : S32 → S64 → Int32 → Int32 → Option (Int32 × S32 × S64)) (K64 : S32 → S64 → Int32 → Int32 → Int32 → Int32 → Int32 → Option (Int32 × S32 × S64)) (u_T : S32) (v_T : S64) (w1 : Int32) (w2 : Int32) (w3 : Int32) (w5 : Int32) : Option (Int32 × S32 × S64) := f_X12_enough_J121 fu K17 K64 u_T v_T w1 w2 w3 w5 (1 : Int32)
def f_X12_enough_J120 (fu : Nat) (K17 : S32 → S64 → Int32 → Int32 → Option (Int32 × S32 × S64)) (K64 : S32 → S64 → Int32 → Int32 → Int32 → Int32 → Int32 → Option (Int32 × S32 × S64)) (u_T : S32) (v_T : S64) (w1 : Int32) (w2 : Int32) (w3 : Int32) (w5 : Int32) : Option (Int32 × S32 × S64) := f_X12_enough_J121 fu K17 K64 u_T v_T w1 w2 w3 w5 (0 : Int32)
def f_X12_enough_J64 (fu : Nat) (K17 : S32 → S64 → Int32 → Int32 → Option (Int32 × S32 × S64)) (K64 : S32 → S64 → Int32 → Int32 → Int32 → Int32 → Int32 → Option (Int32 × S32 × S64)) (u_T : S32) (v_T : S64) (w1 : Int32) (w2 : Int32) (w3 : Int32) (w4 : Int32) (w5 : Int32) : Option (Int32 × S32 × S64) := if (u_T 0 13) ≤ w5 then (if w4 = (0 : Int32) then (some (w2, u_T, v_T)) else (tx_let (w2 + (1 : Int32)) fun (y_16 : Int32) => K17 u_T v_T w1 y_16)) else (if w4 = (0 : Int32) then (if w3 < (0 : Int32) then (f_X12_enough_J120 fu K17 K64 u_T v_T w1 w2 w3 w5) else (tx_ck w5 24 <| if (u_T 50 w5.toNatClampNeg) = (1 : Int32) then (tx_ck w5 24 <| if (u_T 51 w5.toNatClampNeg) = w1 then (tx_b3 (f_X12_isReadAt fu u_T v_T (1 : Int32) w5 w1 w3) fun (r_24 : Int32) (u_T_25 : S32) (v_T_26 : S64) => if r_24 = (0 : Int32) then (f_X12_enough_J120 fu K17 K64 u_T_25 v_T_26 w1 w2 w3 w5) else (f_X12_enough_J116 fu K17 K64 u_T_25 v_T_26 w1 w2 w3 w5)) else (f_X12_enough_J120 fu K17 K64 u_T v_T w1 w2 w3 w5)) else (f_X12_enough_J120 fu K17 K64 u_T v_T w1 w2 w3 w5))) else (f_X12_enough_J116 fu K17 K64 u_T v_T w1 w2 w3 w5))
def f_X12_enough_L64 (fu : Nat) (K17 : S32 → S64 → Int32 → Int32 → Option (Int32 × S32 × S64)) : Nat → S32 → S64 → Int32 → Int32 → Int32 → Int32 → Int32 → Option (Int32 × S32 × S64)
  | 0 => fun _ _ _ _ _ _ _ => none
  | n + 1 => f_X12_enough_J64 fu K17 (f_X12_enough_L64 fu K17 n)
def f_X12_enough_J17 (fu : Nat) (K17 : S32 → S64 → Int32 → Int32 → Option (Int32 × S32 × S64)) (u_T : S32) (v_T : S64) (w1 : Int32) (w2 : Int32) : Option (Int32 × S32 × S64) := tx_ck w1 12 <| if (9 : Int32) < ((u_T 56 w1.toNatClampNeg) + w2) then (some ((-2 : Int32), u_T, v_T)) else (tx_b1 (f_X12_layTried fu v_T u_T) fun (u_T_8 : S32) => tx_ck w1 12 <| tx_ck ((6 : Int32) + w1) 12 <| tx_let (up2 u_T_8 56 ((6 : Int32) + w1).toNatClampNeg ((u_T_8 56 w1.toNatClampNeg) + w2)) fun (u_T_11 : S32) => tx_ck w1 12 <| tx_let (u_T_11 57 w1.toNatClampNeg) fun (y_13 : Int32) => f_X12_enough_L64 fu K17 fu u_T_11 v_T w1 w2 y_13 (0 : Int32) (0 : Int32))
def f_X12_enough_L17 (fu : Nat) : Nat → S32 → S64 → Int32 → Int32 → Option (Int32 × S32 × S64)
  | 0 => fun _ _ _ _ => none
  | n + 1 => f_X12_enough_J17 fu (f_X12_enough_L17 fu n)
def f_X12_enough (fu : Nat) (u_T : S32) (v_T : S64) (x1 : Int32) : Option (Int32 × S32 × S64) := tx_let (up2 u_T 0 2 (0 : Int32)) fun (u_T_1 : S32) => tx_b1 (f_X12_isMan fu u_T_1 v_T x1) fun (r_3 : Int32) => if r_3 = (0 : Int32) then (some ((-1 : Int32), u_T_1, v_T)) else (f_X12_enough_L17 fu fu u_T_1 v_T x1 (0 : Int32))
set_option maxHeartbeats 4000000 in
set_option maxRecDepth 100000 in
theorem c_X12_enough {l : Launch} {g : GG} {A : Nat → Prop} {X : va_W} {fu : Nat} {a_T : Nat → Nat} {u_T : S32} {v_T : S64} {x1 : Int32} {r : Int32} {zu_T : S32} {zv_T : S64} (hf : f_X12_enough fu  u_T v_T x1 = some (r, zu_T, zv_T)) : MI l yX12_enough cX12_enough 6 (some .int) 6 g A (cl_X12 g a_T u_T v_T ++ X) [.ref (a_T 0), .int x1] r (cl_X12 g a_T zu_T zv_T ++ X) := by
  refine tx_start (av := [.ref (a_T 0), .int x1]) (by decide) (Nat.le_of_ble_eq_true rfl) ?_
  intro p e s m below meth c ls S hr hlk hE hw hl
  have S : CallFix p m c cX12_enough 6 s (List.toArray [.ref (a_T 0), .int x1]) (Cond.code yX12_enough cX12_enough 6 (some .int) :: allW) RX12 := S
  have hx := S.1
  have hb := S.2.1
  have hown := S.2.2.2.1
  have hts : ∀ w ∈ allW, w.before (List.toArray [.ref (a_T 0), .int x1]) s = true := fun w h => S.2.2.2.2 w (List.mem_cons_of_mem _ h)
  have hl : lv_has ls 6 [(0, .ref (a_T 0)), (1, .int x1)] := hl
  have J121 : ∀ {K17 : S32 → S64 → Int32 → Int32 → Option (Int32 × S32 × S64)} (hK17 : ∀ {u_T : S32} {v_T : S64} {w1 : Int32} {w2 : Int32} {H : Heap} {locs : List Loc} {ls : Array Slot}, K17 u_T v_T w1 w2 = some (r, zu_T, zv_T) → WD g A s.heap (cl_X12 g a_T u_T v_T ++ X) H locs → lv_has ls 6 [(0, .ref (a_T 0)), (1, .int w1), (2, .int w2)] → W p l e (rmH 6) s m (List.toArray [.ref (a_T 0), .int x1]) below meth c H locs 0 0 (MQ below (va_Qi (fun r2 (_ : Unit) => r2 = r) (fun _ t => POST g A (cl_X12 g a_T zu_T zv_T ++ X) t) A) (List.toArray [.ref (a_T 0), .int x1]) s 0 0 A) (F0 m 17 ls [])) {K64 : S32 → S64 → Int32 → Int32 → Int32 → Int32 → Int32 → Option (Int32 × S32 × S64)} (hK64 : ∀ {u_T : S32} {v_T : S64} {w1 : Int32} {w2 : Int32} {w3 : Int32} {w4 : Int32} {w5 : Int32} {H : Heap} {locs : List Loc} {ls : Array Slot}, K64 u_T v_T w1 w2 w3 w4 w5 = some (r, zu_T, zv_T) → WD g A s.heap (cl_X12 g a_T u_T v_T ++ X) H locs → lv_has ls 6 [(0, .ref (a_T 0)), (1, .int w1), (2, .int w2), (3, .int w3), (4, .int w4), (5, .int w5)] → W p l e (rmH 6) s m (List.toArray [.ref (a_T 0), .int x1]) below meth c H locs 0 0 (MQ below (va_Qi (fun r2 (_ : Unit) => r2 = r) (fun _ t => POST g A (cl_X12 g a_T zu_T zv_T ++ X) t) A) (List.toArray [.ref (a_T 0), .int x1]) s 0 0 A) (F0 m 64 ls [])), ∀ {u_T : S32} {v_T : S64} {w1 : Int32} {w2 : Int32} {w3 : Int32} {w5 : Int32} {t0 : Int32} {H : Heap} {locs : List Loc} {ls : Array Slot}, f_X12_enough_J121 fu K17 K64 u_T v_T w1 w2 w3 w5 t0 = some (r, zu_T, zv_T) → WD g A s.heap (cl_X12 g a_T u_T v_T ++ X) H locs → lv_has ls 6 [(0, .ref (a_T 0)), (1, .int w1), (2, .int w2), (3, .int w3), (5, .int w5)] → W p l e (rmH 6) s m (List.toArray [.ref (a_T 0), .int x1]) below meth c H locs 0 0 (MQ below (va_Qi (fun r2 (_ : Unit) => r2 = r) (fun _ t => POST g A (cl_X12 g a_T zu_T zv_T ++ X) t) A) (List.toArray [.ref (a_T 0), .int x1]) s 0 0 A) (F0 m 121 ls [.int t0]) := by
    intro K17 hK17 K64 hK64 u_T v_T w1 w2 w3 w5 t0 H locs ls hf hw hl
    unfold f_X12_enough_J121 at hf
    refine lv_istore (lv' := [(4, .int t0), (0, .ref (a_T 0)), (1, .int w1), (2, .int w2), (3, .int w3), (5, .int w5)]) hx hb dX12_enough_121 hl (by decide) rfl (fun ls hl => ?_)
    obtain ⟨y_28, ey_28⟩ : ∃ y : Int32, y = w5 + (1 : Int32) := ⟨_, rfl⟩
    replace hf := tx_let_e hf ey_28
    refine lv_iinc (v := y_28) (lv' := [(5, .int y_28), (4, .int t0), (0, .ref (a_T 0)), (1, .int w1), (2, .int w2), (3, .int w3)]) hx hb dX12_enough_123 hl (k := 5) rfl (by rw [ey_28]; rfl) (by decide) rfl (fun ls hl => ?_)
    refine lv_goto (tgt := 64) hx hb dX12_enough_126 (by decide) ?_
    exact hK64 hf hw (lv_sub hl [2, 3, 4, 5, 1, 0] rfl)
  have J116 : ∀ {K17 : S32 → S64 → Int32 → Int32 → Option (Int32 × S32 × S64)} (hK17 : ∀ {u_T : S32} {v_T : S64} {w1 : Int32} {w2 : Int32} {H : Heap} {locs : List Loc} {ls : Array Slot}, K17 u_T v_T w1 w2 = some (r, zu_T, zv_T) → WD g A s.heap (cl_X12 g a_T u_T v_T ++ X) H locs → lv_has ls 6 [(0, .ref (a_T 0)), (1, .int w1), (2, .int w2)] → W p l e (rmH 6) s m (List.toArray [.ref (a_T 0), .int x1]) below meth c H locs 0 0 (MQ below (va_Qi (fun r2 (_ : Unit) => r2 = r) (fun _ t => POST g A (cl_X12 g a_T zu_T zv_T ++ X) t) A) (List.toArray [.ref (a_T 0), .int x1]) s 0 0 A) (F0 m 17 ls [])) {K64 : S32 → S64 → Int32 → Int32 → Int32 → Int32 → Int32 → Option (Int32 × S32 × S64)} (hK64 : ∀ {u_T : S32} {v_T : S64} {w1 : Int32} {w2 : Int32} {w3 : Int32} {w4 : Int32} {w5 : Int32} {H : Heap} {locs : List Loc} {ls : Array Slot}, K64 u_T v_T w1 w2 w3 w4 w5 = some (r, zu_T, zv_T) → WD g A s.heap (cl_X12 g a_T u_T v_T ++ X) H locs → lv_has ls 6 [(0, .ref (a_T 0)), (1, .int w1), (2, .int w2), (3, .int w3), (4, .int w4), (5, .int w5)] → W p l e (rmH 6) s m (List.toArray [.ref (a_T 0), .int x1]) below meth c H locs 0 0 (MQ below (va_Qi (fun r2 (_ : Unit) => r2 = r) (fun _ t => POST g A (cl_X12 g a_T zu_T zv_T ++ X) t) A) (List.toArray [.ref (a_T 0), .int x1]) s 0 0 A) (F0 m 64 ls [])), ∀ {u_T : S32} {v_T : S64} {w1 : Int32} {w2 : Int32} {w3 : Int32} {w5 : Int32} {H : Heap} {locs : List Loc} {ls : Array Slot}, f_X12_enough_J116 fu K17 K64 u_T v_T w1 w2 w3 w5 = some (r, zu_T, zv_T) → WD g A s.heap (cl_X12 g a_T u_T v_T ++ X) H locs → lv_has ls 6 [(0, .ref (a_T 0)), (1, .int w1), (2, .int w2), (3, .int w3), (5, .int w5)] → W p l e (rmH 6) s m (List.toArray [.ref (a_T 0), .int x1]) below meth c H locs 0 0 (MQ below (va_Qi (fun r2 (_ : Unit) => r2 = r) (fun _ t => POST g A (cl_X12 g a_T zu_T zv_T ++ X) t) A) (List.toArray [.ref (a_T 0), .int x1]) s 0 0 A) (F0 m 116 ls []) := by
    intro K17 hK17 K64 hK64 u_T v_T w1 w2 w3 w5 H locs ls hf hw hl
    unfold f_X12_enough_J116 at hf
    refine lv_iconst (v := 1) hx hb dX12_enough_116 (by decide) ?_
    refine lv_goto (tgt := 121) hx hb dX12_enough_117 (by decide) ?_
    exact J121 hK17 hK64 hf hw (lv_sub hl [0, 1, 2, 3, 4] rfl)
  have J120 : ∀ {K17 : S32 → S64 → Int32 → Int32 → Option (Int32 × S32 × S64)} (hK17 : ∀ {u_T : S32} {v_T : S64} {w1 : Int32} {w2 : Int32} {H : Heap} {locs : List Loc} {ls : Array Slot}, K17 u_T v_T w1 w2 = some (r, zu_T, zv_T) → WD g A s.heap (cl_X12 g a_T u_T v_T ++ X) H locs → lv_has ls 6 [(0, .ref (a_T 0)), (1, .int w1), (2, .int w2)] → W p l e (rmH 6) s m (List.toArray [.ref (a_T 0), .int x1]) below meth c H locs 0 0 (MQ below (va_Qi (fun r2 (_ : Unit) => r2 = r) (fun _ t => POST g A (cl_X12 g a_T zu_T zv_T ++ X) t) A) (List.toArray [.ref (a_T 0), .int x1]) s 0 0 A) (F0 m 17 ls [])) {K64 : S32 → S64 → Int32 → Int32 → Int32 → Int32 → Int32 → Option (Int32 × S32 × S64)} (hK64 : ∀ {u_T : S32} {v_T : S64} {w1 : Int32} {w2 : Int32} {w3 : Int32} {w4 : Int32} {w5 : Int32} {H : Heap} {locs : List Loc} {ls : Array Slot}, K64 u_T v_T w1 w2 w3 w4 w5 = some (r, zu_T, zv_T) → WD g A s.heap (cl_X12 g a_T u_T v_T ++ X) H locs → lv_has ls 6 [(0, .ref (a_T 0)), (1, .int w1), (2, .int w2), (3, .int w3), (4, .int w4), (5, .int w5)] → W p l e (rmH 6) s m (List.toArray [.ref (a_T 0), .int x1]) below meth c H locs 0 0 (MQ below (va_Qi (fun r2 (_ : Unit) => r2 = r) (fun _ t => POST g A (cl_X12 g a_T zu_T zv_T ++ X) t) A) (List.toArray [.ref (a_T 0), .int x1]) s 0 0 A) (F0 m 64 ls [])), ∀ {u_T : S32} {v_T : S64} {w1 : Int32} {w2 : Int32} {w3 : Int32} {w5 : Int32} {H : Heap} {locs : List Loc} {ls : Array Slot}, f_X12_enough_J120 fu K17 K64 u_T v_T w1 w2 w3 w5 = some (r, zu_T, zv_T) → WD g A s.heap (cl_X12 g a_T u_T v_T ++ X) H locs → lv_has ls 6 [(0, .ref (a_T 0)), (1, .int w1), (2, .int w2), (3, .int w3), (5, .int w5)] → W p l e (rmH 6) s m (List.toArray [.ref (a_T 0), .int x1]) below meth c H locs 0 0 (MQ below (va_Qi (fun r2 (_ : Unit) => r2 = r) (fun _ t => POST g A (cl_X12 g a_T zu_T zv_T ++ X) t) A) (List.toArray [.ref (a_T 0), .int x1]) s 0 0 A) (F0 m 120 ls []) := by
    intro K17 hK17 K64 hK64 u_T v_T w1 w2 w3 w5 H locs ls hf hw hl
    unfold f_X12_enough_J120 at hf
    refine lv_iconst (v := 0) hx hb dX12_enough_120 (by decide) ?_
    exact J121 hK17 hK64 hf hw (lv_sub hl [0, 1, 2, 3, 4] rfl)
  have J64 : ∀ {K17 : S32 → S64 → Int32 → Int32 → Option (Int32 × S32 × S64)} (hK17 : ∀ {u_T : S32} {v_T : S64} {w1 : Int32} {w2 : Int32} {H : Heap} {locs : List Loc} {ls : Array Slot}, K17 u_T v_T w1 w2 = some (r, zu_T, zv_T) → WD g A s.heap (cl_X12 g a_T u_T v_T ++ X) H locs → lv_has ls 6 [(0, .ref (a_T 0)), (1, .int w1), (2, .int w2)] → W p l e (rmH 6) s m (List.toArray [.ref (a_T 0), .int x1]) below meth c H locs 0 0 (MQ below (va_Qi (fun r2 (_ : Unit) => r2 = r) (fun _ t => POST g A (cl_X12 g a_T zu_T zv_T ++ X) t) A) (List.toArray [.ref (a_T 0), .int x1]) s 0 0 A) (F0 m 17 ls [])) {K64 : S32 → S64 → Int32 → Int32 → Int32 → Int32 → Int32 → Option (Int32 × S32 × S64)} (hK64 : ∀ {u_T : S32} {v_T : S64} {w1 : Int32} {w2 : Int32} {w3 : Int32} {w4 : Int32} {w5 : Int32} {H : Heap} {locs : List Loc} {ls : Array Slot}, K64 u_T v_T w1 w2 w3 w4 w5 = some (r, zu_T, zv_T) → WD g A s.heap (cl_X12 g a_T u_T v_T ++ X) H locs → lv_has ls 6 [(0, .ref (a_T 0)), (1, .int w1), (2, .int w2), (3, .int w3), (4, .int w4), (5, .int w5)] → W p l e (rmH 6) s m (List.toArray [.ref (a_T 0), .int x1]) below meth c H locs 0 0 (MQ below (va_Qi (fun r2 (_ : Unit) => r2 = r) (fun _ t => POST g A (cl_X12 g a_T zu_T zv_T ++ X) t) A) (List.toArray [.ref (a_T 0), .int x1]) s 0 0 A) (F0 m 64 ls [])), ∀ {u_T : S32} {v_T : S64} {w1 : Int32} {w2 : Int32} {w3 : Int32} {w4 : Int32} {w5 : Int32} {H : Heap} {locs : List Loc} {ls : Array Slot}, f_X12_enough_J64 fu K17 K64 u_T v_T w1 w2 w3 w4 w5 = some (r, zu_T, zv_T) → WD g A s.heap (cl_X12 g a_T u_T v_T ++ X) H locs → lv_has ls 6 [(0, .ref (a_T 0)), (1, .int w1), (2, .int w2), (3, .int w3), (4, .int w4), (5, .int w5)] → W p l e (rmH 6) s m (List.toArray [.ref (a_T 0), .int x1]) below meth c H locs 0 0 (MQ below (va_Qi (fun r2 (_ : Unit) => r2 = r) (fun _ t => POST g A (cl_X12 g a_T zu_T zv_T ++ X) t) A) (List.toArray [.ref (a_T 0), .int x1]) s 0 0 A) (F0 m 64 ls []) := by
    intro K17 hK17 K64 hK64 u_T v_T w1 w2 w3 w4 w5 H locs ls hf hw hl
    unfold f_X12_enough_J64 at hf
    refine lv_iload hx hb dX12_enough_64 (lv_at hl 5 rfl) ?_
    refine lv_aload_n hx hb dX12_enough_66 rfl (lv_at hl 0 rfl) ?_
    refine gf_X12_225 S hE hw 0 rfl rfl dX12_enough_67 ?_
    refine lv_icmp_ge (tgt := 129) hx hb dX12_enough_70 (by decide) (fun h_14 => ?_) (fun h_14 => ?_)
    · replace hf := tx_pos hf h_14
      refine lv_iload hx hb dX12_enough_129 (lv_at hl 4 rfl) ?_
      refine lv_if_ne (tgt := 136) hx hb dX12_enough_131 (by decide) (fun h_15 => ?_) (fun h_15 => ?_)
      · replace hf := tx_neg hf h_15
        obtain ⟨y_16, ey_16⟩ : ∃ y : Int32, y = w2 + (1 : Int32) := ⟨_, rfl⟩
        replace hf := tx_let_e hf ey_16
        refine lv_iinc (v := y_16) (lv' := [(2, .int y_16), (0, .ref (a_T 0)), (1, .int w1), (3, .int w3), (4, .int w4), (5, .int w5)]) hx hb dX12_enough_136 hl (k := 2) rfl (by rw [ey_16]; rfl) (by decide) rfl (fun ls hl => ?_)
        refine lv_goto (tgt := 17) hx hb dX12_enough_139 (by decide) ?_
        exact hK17 hf hw (lv_sub hl [1, 2, 0] rfl)
      · replace hf := tx_pos hf h_15
        refine lv_iload_n hx hb dX12_enough_134 rfl (lv_at hl 2 rfl) ?_
        obtain ⟨e0, e1, e2⟩ := tx_in3 hf
        rw [← e0, ← e1, ← e2]
        exact tx_iret S hr hlk hw dX12_enough_135
    · replace hf := tx_neg hf h_14
      refine lv_iload hx hb dX12_enough_73 (lv_at hl 4 rfl) ?_
      refine lv_if_ne (tgt := 116) hx hb dX12_enough_75 (by decide) (fun h_17 => ?_) (fun h_17 => ?_)
      · replace hf := tx_neg hf h_17
        exact J116 hK17 hK64 hf hw (lv_sub hl [0, 1, 2, 3, 5] rfl)
      · replace hf := tx_pos hf h_17
        refine lv_iload_n hx hb dX12_enough_78 rfl (lv_at hl 3 rfl) ?_
        refine lv_if_lt (tgt := 120) hx hb dX12_enough_79 (by decide) (fun h_18 => ?_) (fun h_18 => ?_)
        · replace hf := tx_pos hf h_18
          exact J120 hK17 hK64 hf hw (lv_sub hl [0, 1, 2, 3, 5] rfl)
        · replace hf := tx_neg hf h_18
          refine lv_aload_n hx hb dX12_enough_82 rfl (lv_at hl 0 rfl) ?_
          refine gf_X12_88 S hE hw 0 rfl rfl dX12_enough_83 ?_
          refine lv_iload hx hb dX12_enough_86 (lv_at hl 5 rfl) ?_
          obtain ⟨h_19, hf⟩ := tx_ck_e hf
          refine tx_iald S hE hw 25 rfl h_19 dX12_enough_88 ?_
          refine lv_iconst (v := 1) hx hb dX12_enough_89 (by decide) ?_
          refine lv_icmp_ne (tgt := 120) hx hb dX12_enough_90 (by decide) (fun h_20 => ?_) (fun h_20 => ?_)
          · replace hf := tx_neg hf h_20
            exact J120 hK17 hK64 hf hw (lv_sub hl [0, 1, 2, 3, 5] rfl)
          · replace hf := tx_pos hf h_20
            refine lv_aload_n hx hb dX12_enough_93 rfl (lv_at hl 0 rfl) ?_
            refine gf_X12_91 S hE hw 0 rfl rfl dX12_enough_94 ?_
            refine lv_iload hx hb dX12_enough_97 (lv_at hl 5 rfl) ?_
            obtain ⟨h_21, hf⟩ := tx_ck_e hf
            refine tx_iald S hE hw 26 rfl h_21 dX12_enough_99 ?_
            refine lv_iload_n hx hb dX12_enough_100 rfl (lv_at hl 1 rfl) ?_
            refine lv_icmp_ne (tgt := 120) hx hb dX12_enough_101 (by decide) (fun h_22 => ?_) (fun h_22 => ?_)
            · replace hf := tx_neg hf h_22
              exact J120 hK17 hK64 hf hw (lv_sub hl [0, 1, 2, 3, 5] rfl)
            · replace hf := tx_pos hf h_22
              refine lv_aload_n hx hb dX12_enough_104 rfl (lv_at hl 0 rfl) ?_
              refine lv_iconst (v := 1) hx hb dX12_enough_105 (by decide) ?_
              refine lv_iload hx hb dX12_enough_106 (lv_at hl 5 rfl) ?_
              refine lv_iload_n hx hb dX12_enough_108 rfl (lv_at hl 1 rfl) ?_
              refine lv_iload_n hx hb dX12_enough_109 rfl (lv_at hl 3 rfl) ?_
              obtain ⟨r_24, u_T_25, v_T_26, h_23, hf⟩ := tx_b3_e hf
              refine tx_ci hw (tx_runV S hE hw (c_X12_isReadAt h_23) lk_X12_431 (q0 := 0) rfl rfl rfl hl.1 (rest := []) rfl (Nat.le_of_ble_eq_true rfl) ⟨by decide, by decide⟩ dX12_enough_110 ⟨Nat.zero_le _, Nat.zero_le _⟩) (fun H locs hw => ?_)
              refine lv_if_eq (tgt := 120) hx hb dX12_enough_113 (by decide) (fun h_27 => ?_) (fun h_27 => ?_)
              · replace hf := tx_pos hf h_27
                exact J120 hK17 hK64 hf hw (lv_sub hl [0, 1, 2, 3, 5] rfl)
              · replace hf := tx_neg hf h_27
                exact J116 hK17 hK64 hf hw (lv_sub hl [0, 1, 2, 3, 5] rfl)
  have L64 : ∀ {K17 : S32 → S64 → Int32 → Int32 → Option (Int32 × S32 × S64)} (hK17 : ∀ {u_T : S32} {v_T : S64} {w1 : Int32} {w2 : Int32} {H : Heap} {locs : List Loc} {ls : Array Slot}, K17 u_T v_T w1 w2 = some (r, zu_T, zv_T) → WD g A s.heap (cl_X12 g a_T u_T v_T ++ X) H locs → lv_has ls 6 [(0, .ref (a_T 0)), (1, .int w1), (2, .int w2)] → W p l e (rmH 6) s m (List.toArray [.ref (a_T 0), .int x1]) below meth c H locs 0 0 (MQ below (va_Qi (fun r2 (_ : Unit) => r2 = r) (fun _ t => POST g A (cl_X12 g a_T zu_T zv_T ++ X) t) A) (List.toArray [.ref (a_T 0), .int x1]) s 0 0 A) (F0 m 17 ls [])), ∀ (n : Nat), ∀ {u_T : S32} {v_T : S64} {w1 : Int32} {w2 : Int32} {w3 : Int32} {w4 : Int32} {w5 : Int32} {H : Heap} {locs : List Loc} {ls : Array Slot}, f_X12_enough_L64 fu K17 n u_T v_T w1 w2 w3 w4 w5 = some (r, zu_T, zv_T) → WD g A s.heap (cl_X12 g a_T u_T v_T ++ X) H locs → lv_has ls 6 [(0, .ref (a_T 0)), (1, .int w1), (2, .int w2), (3, .int w3), (4, .int w4), (5, .int w5)] → W p l e (rmH 6) s m (List.toArray [.ref (a_T 0), .int x1]) below meth c H locs 0 0 (MQ below (va_Qi (fun r2 (_ : Unit) => r2 = r) (fun _ t => POST g A (cl_X12 g a_T zu_T zv_T ++ X) t) A) (List.toArray [.ref (a_T 0), .int x1]) s 0 0 A) (F0 m 64 ls []) := by
    intro K17 hK17 n
    induction n with
    | zero => intro u_T v_T w1 w2 w3 w4 w5 H locs ls hf; exact absurd hf (by intro q; cases q)
    | succ n ih => exact fun hf hw hl => J64 hK17 ih hf hw hl
  have J17 : ∀ {K17 : S32 → S64 → Int32 → Int32 → Option (Int32 × S32 × S64)} (hK17 : ∀ {u_T : S32} {v_T : S64} {w1 : Int32} {w2 : Int32} {H : Heap} {locs : List Loc} {ls : Array Slot}, K17 u_T v_T w1 w2 = some (r, zu_T, zv_T) → WD g A s.heap (cl_X12 g a_T u_T v_T ++ X) H locs → lv_has ls 6 [(0, .ref (a_T 0)), (1, .int w1), (2, .int w2)] → W p l e (rmH 6) s m (List.toArray [.ref (a_T 0), .int x1]) below meth c H locs 0 0 (MQ below (va_Qi (fun r2 (_ : Unit) => r2 = r) (fun _ t => POST g A (cl_X12 g a_T zu_T zv_T ++ X) t) A) (List.toArray [.ref (a_T 0), .int x1]) s 0 0 A) (F0 m 17 ls [])), ∀ {u_T : S32} {v_T : S64} {w1 : Int32} {w2 : Int32} {H : Heap} {locs : List Loc} {ls : Array Slot}, f_X12_enough_J17 fu K17 u_T v_T w1 w2 = some (r, zu_T, zv_T) → WD g A s.heap (cl_X12 g a_T u_T v_T ++ X) H locs → lv_has ls 6 [(0, .ref (a_T 0)), (1, .int w1), (2, .int w2)] → W p l e (rmH 6) s m (List.toArray [.ref (a_T 0), .int x1]) below meth c H locs 0 0 (MQ below (va_Qi (fun r2 (_ : Unit) => r2 = r) (fun _ t => POST g A (cl_X12 g a_T zu_T zv_T ++ X) t) A) (List.toArray [.ref (a_T 0), .int x1]) s 0 0 A) (F0 m 17 ls []) := by
    intro K17 hK17 u_T v_T w1 w2 H locs ls hf hw hl
    unfold f_X12_enough_J17 at hf
    refine lv_aload_n hx hb dX12_enough_17 rfl (lv_at hl 0 rfl) ?_
    refine gf_X12_106 S hE hw 0 rfl rfl dX12_enough_18 ?_
    refine lv_iload_n hx hb dX12_enough_21 rfl (lv_at hl 1 rfl) ?_
    obtain ⟨h_5, hf⟩ := tx_ck_e hf
    refine tx_iald S hE hw 31 rfl h_5 dX12_enough_22 ?_
    refine lv_iload_n hx hb dX12_enough_23 rfl (lv_at hl 2 rfl) ?_
    refine lv_iadd hx hb dX12_enough_24 ?_
    refine lv_bipush (v := 9) hx hb dX12_enough_25 (by decide) ?_
    refine lv_icmp_gt (tgt := 142) hx hb dX12_enough_27 (by decide) (fun h_6 => ?_) (fun h_6 => ?_)
    · replace hf := tx_pos hf h_6
      refine lv_bipush (v := -2) hx hb dX12_enough_142 (by decide) ?_
      obtain ⟨e0, e1, e2⟩ := tx_in3 hf
      rw [← e0, ← e1, ← e2]
      exact tx_iret S hr hlk hw dX12_enough_144
    · replace hf := tx_neg hf h_6
      refine lv_aload_n hx hb dX12_enough_30 rfl (lv_at hl 0 rfl) ?_
      obtain ⟨u_T_8, h_7, hf⟩ := tx_b1_e hf
      refine tx_cv hw (tx_runV S hE hw (c_X12_layTried h_7) lk_X12_474 (q0 := 0) rfl rfl rfl hl.1 (rest := []) rfl (Nat.le_of_ble_eq_true rfl) ⟨by decide, by decide⟩ dX12_enough_31 ⟨Nat.zero_le _, Nat.zero_le _⟩) (fun H locs hw => ?_)
      refine lv_aload_n hx hb dX12_enough_34 rfl (lv_at hl 0 rfl) ?_
      refine gf_X12_106 S hE hw 0 rfl rfl dX12_enough_35 ?_
      refine lv_bipush (v := 6) hx hb dX12_enough_38 (by decide) ?_
      refine lv_iload_n hx hb dX12_enough_40 rfl (lv_at hl 1 rfl) ?_
      refine lv_iadd hx hb dX12_enough_41 ?_
      refine lv_aload_n hx hb dX12_enough_42 rfl (lv_at hl 0 rfl) ?_
      refine gf_X12_106 S hE hw 0 rfl rfl dX12_enough_43 ?_
      refine lv_iload_n hx hb dX12_enough_46 rfl (lv_at hl 1 rfl) ?_
      obtain ⟨h_9, hf⟩ := tx_ck_e hf
      refine tx_iald S hE hw 31 rfl h_9 dX12_enough_47 ?_
      refine lv_iload_n hx hb dX12_enough_48 rfl (lv_at hl 2 rfl) ?_
      refine lv_iadd hx hb dX12_enough_49 ?_
      obtain ⟨h_10, hf⟩ := tx_ck_e hf
      obtain ⟨u_T_11, eu_T_11⟩ : ∃ z : S32, z = up2 u_T_8 56 ((6 : Int32) + w1).toNatClampNeg ((u_T_8 56 w1.toNatClampNeg) + w2) := ⟨_, rfl⟩
      replace hf := tx_let_e hf eu_T_11
      refine tx_iast (ws' := cl_X12 g a_T u_T_11 v_T ++ X) S hE hw 31 rfl h_10 (by rw [eu_T_11]; rfl) dX12_enough_50 (fun H locs hw => ?_)
      refine lv_aload_n hx hb dX12_enough_51 rfl (lv_at hl 0 rfl) ?_
      refine gf_X12_109 S hE hw 0 rfl rfl dX12_enough_52 ?_
      refine lv_iload_n hx hb dX12_enough_55 rfl (lv_at hl 1 rfl) ?_
      obtain ⟨h_12, hf⟩ := tx_ck_e hf
      refine tx_iald S hE hw 32 rfl h_12 dX12_enough_56 ?_
      refine lv_topi (fun y_13 ey_13 => ?_)
      replace hf := tx_let_e hf ey_13
      refine lv_istore_n (lv' := [(3, .int y_13), (0, .ref (a_T 0)), (1, .int w1), (2, .int w2)]) hx hb dX12_enough_57 rfl hl (by decide) rfl (fun ls hl => ?_)
      refine lv_iconst (v := 0) hx hb dX12_enough_58 (by decide) ?_
      refine lv_istore (lv' := [(4, .int (0 : Int32)), (3, .int y_13), (0, .ref (a_T 0)), (1, .int w1), (2, .int w2)]) hx hb dX12_enough_59 hl (by decide) rfl (fun ls hl => ?_)
      refine lv_iconst (v := 0) hx hb dX12_enough_61 (by decide) ?_
      refine lv_istore (lv' := [(5, .int (0 : Int32)), (4, .int (0 : Int32)), (3, .int y_13), (0, .ref (a_T 0)), (1, .int w1), (2, .int w2)]) hx hb dX12_enough_62 hl (by decide) rfl (fun ls hl => ?_)
      exact L64 hK17 fu hf hw (lv_sub hl [3, 4, 5, 2, 1, 0] rfl)
  have L17 : ∀ (n : Nat), ∀ {u_T : S32} {v_T : S64} {w1 : Int32} {w2 : Int32} {H : Heap} {locs : List Loc} {ls : Array Slot}, f_X12_enough_L17 fu n u_T v_T w1 w2 = some (r, zu_T, zv_T) → WD g A s.heap (cl_X12 g a_T u_T v_T ++ X) H locs → lv_has ls 6 [(0, .ref (a_T 0)), (1, .int w1), (2, .int w2)] → W p l e (rmH 6) s m (List.toArray [.ref (a_T 0), .int x1]) below meth c H locs 0 0 (MQ below (va_Qi (fun r2 (_ : Unit) => r2 = r) (fun _ t => POST g A (cl_X12 g a_T zu_T zv_T ++ X) t) A) (List.toArray [.ref (a_T 0), .int x1]) s 0 0 A) (F0 m 17 ls []) := by
    intro  n
    induction n with
    | zero => intro u_T v_T w1 w2 H locs ls hf; exact absurd hf (by intro q; cases q)
    | succ n ih => exact fun hf hw hl => J17 ih hf hw hl
  unfold f_X12_enough at hf
  refine lv_aload_n hx hb dX12_enough_0 rfl (lv_at hl 0 rfl) ?_
  refine lv_iconst (v := 0) hx hb dX12_enough_1 (by decide) ?_
  obtain ⟨u_T_1, eu_T_1⟩ : ∃ z : S32, z = up2 u_T 0 2 (0 : Int32) := ⟨_, rfl⟩
  replace hf := tx_let_e hf eu_T_1
  refine pf_X12_145 (ws' := cl_X12 g a_T u_T_1 v_T ++ X) S hE hw rfl rfl 0 rfl (Nat.le_of_ble_eq_true rfl) (by rw [eu_T_1]; rfl) dX12_enough_2 (fun H locs hw => ?_)
  refine lv_aload_n hx hb dX12_enough_5 rfl (lv_at hl 0 rfl) ?_
  refine lv_iload_n hx hb dX12_enough_6 rfl (lv_at hl 1 rfl) ?_
  obtain ⟨r_3, h_2, hf⟩ := tx_b1_e hf
  refine tx_ci hw (tx_runV S hE hw (c_X12_isMan h_2) lk_X12_460 (q0 := 0) rfl rfl rfl hl.1 (rest := []) rfl (Nat.le_of_ble_eq_true rfl) ⟨by decide, by decide⟩ dX12_enough_7 ⟨Nat.zero_le _, Nat.zero_le _⟩) (fun H locs hw => ?_)
  refine lv_if_ne (tgt := 15) hx hb dX12_enough_10 (by decide) (fun h_4 => ?_) (fun h_4 => ?_)
  · replace hf := tx_neg hf h_4
    refine lv_iconst (v := 0) hx hb dX12_enough_15 (by decide) ?_
    refine lv_istore_n (lv' := [(2, .int (0 : Int32)), (0, .ref (a_T 0)), (1, .int x1)]) hx hb dX12_enough_16 rfl hl (by decide) rfl (fun ls hl => ?_)
    exact L17 fu hf hw (lv_sub hl [1, 2, 0] rfl)
  · replace hf := tx_pos hf h_4
    refine lv_iconst (v := -1) hx hb dX12_enough_13 (by decide) ?_
    obtain ⟨e0, e1, e2⟩ := tx_in3 hf
    rw [← e0, ← e1, ← e2]
    exact tx_iret S hr hlk hw dX12_enough_14
def f_X12_vote_J158 (fu : Nat) (K98 : S32 → S64 → Int32 → Int32 → Int32 → Option (Int32 × S32 × S64)) (u_T : S32) (v_T : S64) (w3 : Int32) (w5 : Int32) (t0 : Int32) (t1 : Int32) : Option (Int32 × S32 × S64) := tx_let (t0 + t1) fun (y_38 : Int32) => tx_let (w5 + (1 : Int32)) fun (y_39 : Int32) => K98 u_T v_T w3 y_38 y_39
def f_X12_vote_J98 (fu : Nat) (K98 : S32 → S64 → Int32 → Int32 → Int32 → Option (Int32 × S32 × S64)) (u_T : S32) (v_T : S64) (w3 : Int32) (w4 : Int32) (w5 : Int32) : Option (Int32 × S32 × S64) := if (u_T 0 12) ≤ w5 then (some (w4, u_T, v_T)) else (if w3 = (0 : Int32) then (tx_b1 (f_X12_moreOf fu u_T v_T w5) fun (r_35 : Int32) => tx_ck w5 6 <| if (u_T 71 w5.toNatClampNeg) ≤ r_35 then (f_X12_vote_J158 fu K98 u_T v_T w3 w5 w4 (0 : Int32)) else (f_X12_vote_J158 fu K98 u_T v_T w3 w5 w4 (1 : Int32))) else (tx_b1 (f_X12_moreOf fu u_T v_T w5) fun (r_31 : Int32) => tx_ck w5 6 <| if r_31 ≤ (u_T 71 w5.toNatClampNeg) then (f_X12_vote_J158 fu K98 u_T v_T w3 w5 w4 (0 : Int32)) else (f_X12_vote_J158 fu K98 u_T v_T w3 w5 w4 (1 : Int32))))
def f_X12_vote_L98 (fu : Nat) : Nat → S32 → S64 → Int32 → Int32 → Int32 → Option (Int32 × S32 × S64)
  | 0 => fun _ _ _ _ _ => none
  | n + 1 => f_X12_vote_J98 fu (f_X12_vote_L98 fu n)
def f_X12_vote_J48 (fu : Nat) (K48 : S32 → S64 → Int32 → Int32 → Int32 → Int32 → Option (Int32 × S32 × S64)) (u_T : S32) (v_T : S64) (w1 : Int32) (w2 : Int32) (w3 : Int32) (w4 : Int32) : Option (Int32 × S32 × S64) := if (u_T 0 12) ≤ w4 then (tx_b1 (f_X12_layTried fu v_T u_T) fun (u_T_18 : S32) => tx_let (up2 u_T_18 58 (1 : Int32).toNatClampNeg w2) fun (u_T_19 : S32) => tx_b2 (f_X12_goMany fu u_T_19 v_T w1) fun (u_T_21 : S32) (v_T_22 : S64) => f_X12_vote_L98 fu fu u_T_21 v_T_22 w3 (0 : Int32) (0 : Int32)) else (tx_b1 (f_X12_moreOf fu u_T v_T w4) fun (r_24 : Int32) => tx_ck w4 6 <| tx_let (up2 u_T 71 w4.toNatClampNeg r_24) fun (u_T_26 : S32) => tx_let (w4 + (1 : Int32)) fun (y_27 : Int32) => K48 u_T_26 v_T w1 w2 w3 y_27)
def f_X12_vote_L48 (fu : Nat) : Nat → S32 → S64 → Int32 → Int32 → Int32 → Int32 → Option (Int32 × S32 × S64)
  | 0 => fun _ _ _ _ _ _ => none
  | n + 1 => f_X12_vote_J48 fu (f_X12_vote_L48 fu n)
def f_X12_vote (fu : Nat) (u_T : S32) (v_T : S64) (x1 : Int32) (x2 : Int32) (x3 : Int32) : Option (Int32 × S32 × S64) := tx_let (up2 u_T 0 2 (0 : Int32)) fun (u_T_1 : S32) => tx_b1 (f_X12_isIn fu x1 (1 : Int32) (40 : Int32)) fun (r_3 : Int32) => if r_3 = (0 : Int32) then (some ((-1 : Int32), u_T_1, v_T)) else (tx_b1 (f_X12_isIn fu x2 (0 : Int32) (100 : Int32)) fun (r_6 : Int32) => if r_6 = (0 : Int32) then (some ((-1 : Int32), u_T_1, v_T)) else (tx_b1 (f_X12_isIn fu x3 (0 : Int32) (1 : Int32)) fun (r_9 : Int32) => if r_9 = (0 : Int32) then (some ((-1 : Int32), u_T_1, v_T)) else (tx_b1 (f_X12_layTried fu v_T u_T_1) fun (u_T_12 : S32) => tx_b2 (f_X12_goMany fu u_T_12 v_T x1) fun (u_T_14 : S32) (v_T_15 : S64) => f_X12_vote_L48 fu fu u_T_14 v_T_15 x1 x2 x3 (0 : Int32))))
set_option maxHeartbeats 4000000 in
set_option maxRecDepth 100000 in
theorem c_X12_vote {l : Launch} {g : GG} {A : Nat → Prop} {X : va_W} {fu : Nat} {a_T : Nat → Nat} {u_T : S32} {v_T : S64} {x1 : Int32} {x2 : Int32} {x3 : Int32} {r : Int32} {zu_T : S32} {zv_T : S64} (hf : f_X12_vote fu  u_T v_T x1 x2 x3 = some (r, zu_T, zv_T)) : MI l yX12_vote cX12_vote 6 (some .int) 9 g A (cl_X12 g a_T u_T v_T ++ X) [.ref (a_T 0), .int x1, .int x2, .int x3] r (cl_X12 g a_T zu_T zv_T ++ X) := by
  refine tx_start (av := [.ref (a_T 0), .int x1, .int x2, .int x3]) (by decide) (Nat.le_of_ble_eq_true rfl) ?_
  intro p e s m below meth c ls S hr hlk hE hw hl
  have S : CallFix p m c cX12_vote 6 s (List.toArray [.ref (a_T 0), .int x1, .int x2, .int x3]) (Cond.code yX12_vote cX12_vote 6 (some .int) :: allW) RX12 := S
  have hx := S.1
  have hb := S.2.1
  have hown := S.2.2.2.1
  have hts : ∀ w ∈ allW, w.before (List.toArray [.ref (a_T 0), .int x1, .int x2, .int x3]) s = true := fun w h => S.2.2.2.2 w (List.mem_cons_of_mem _ h)
  have hl : lv_has ls 6 [(0, .ref (a_T 0)), (1, .int x1), (2, .int x2), (3, .int x3)] := hl
  have J158 : ∀ {K98 : S32 → S64 → Int32 → Int32 → Int32 → Option (Int32 × S32 × S64)} (hK98 : ∀ {u_T : S32} {v_T : S64} {w3 : Int32} {w4 : Int32} {w5 : Int32} {H : Heap} {locs : List Loc} {ls : Array Slot}, K98 u_T v_T w3 w4 w5 = some (r, zu_T, zv_T) → WD g A s.heap (cl_X12 g a_T u_T v_T ++ X) H locs → lv_has ls 6 [(0, .ref (a_T 0)), (3, .int w3), (4, .int w4), (5, .int w5)] → W p l e (rmH 9) s m (List.toArray [.ref (a_T 0), .int x1, .int x2, .int x3]) below meth c H locs 0 0 (MQ below (va_Qi (fun r2 (_ : Unit) => r2 = r) (fun _ t => POST g A (cl_X12 g a_T zu_T zv_T ++ X) t) A) (List.toArray [.ref (a_T 0), .int x1, .int x2, .int x3]) s 0 0 A) (F0 m 98 ls [])), ∀ {u_T : S32} {v_T : S64} {w3 : Int32} {w5 : Int32} {t0 : Int32} {t1 : Int32} {H : Heap} {locs : List Loc} {ls : Array Slot}, f_X12_vote_J158 fu K98 u_T v_T w3 w5 t0 t1 = some (r, zu_T, zv_T) → WD g A s.heap (cl_X12 g a_T u_T v_T ++ X) H locs → lv_has ls 6 [(0, .ref (a_T 0)), (3, .int w3), (5, .int w5)] → W p l e (rmH 9) s m (List.toArray [.ref (a_T 0), .int x1, .int x2, .int x3]) below meth c H locs 0 0 (MQ below (va_Qi (fun r2 (_ : Unit) => r2 = r) (fun _ t => POST g A (cl_X12 g a_T zu_T zv_T ++ X) t) A) (List.toArray [.ref (a_T 0), .int x1, .int x2, .int x3]) s 0 0 A) (F0 m 158 ls [.int t1, .int t0]) := by
    intro K98 hK98 u_T v_T w3 w5 t0 t1 H locs ls hf hw hl
    unfold f_X12_vote_J158 at hf
    refine lv_iadd hx hb dX12_vote_158 ?_
    refine lv_topi (fun y_38 ey_38 => ?_)
    replace hf := tx_let_e hf ey_38
    refine lv_istore (lv' := [(4, .int y_38), (0, .ref (a_T 0)), (3, .int w3), (5, .int w5)]) hx hb dX12_vote_159 hl (by decide) rfl (fun ls hl => ?_)
    obtain ⟨y_39, ey_39⟩ : ∃ y : Int32, y = w5 + (1 : Int32) := ⟨_, rfl⟩
    replace hf := tx_let_e hf ey_39
    refine lv_iinc (v := y_39) (lv' := [(5, .int y_39), (4, .int y_38), (0, .ref (a_T 0)), (3, .int w3)]) hx hb dX12_vote_161 hl (k := 3) rfl (by rw [ey_39]; rfl) (by decide) rfl (fun ls hl => ?_)
    refine lv_goto (tgt := 98) hx hb dX12_vote_164 (by decide) ?_
    exact hK98 hf hw (lv_sub hl [2, 3, 1, 0] rfl)
  have J98 : ∀ {K98 : S32 → S64 → Int32 → Int32 → Int32 → Option (Int32 × S32 × S64)} (hK98 : ∀ {u_T : S32} {v_T : S64} {w3 : Int32} {w4 : Int32} {w5 : Int32} {H : Heap} {locs : List Loc} {ls : Array Slot}, K98 u_T v_T w3 w4 w5 = some (r, zu_T, zv_T) → WD g A s.heap (cl_X12 g a_T u_T v_T ++ X) H locs → lv_has ls 6 [(0, .ref (a_T 0)), (3, .int w3), (4, .int w4), (5, .int w5)] → W p l e (rmH 9) s m (List.toArray [.ref (a_T 0), .int x1, .int x2, .int x3]) below meth c H locs 0 0 (MQ below (va_Qi (fun r2 (_ : Unit) => r2 = r) (fun _ t => POST g A (cl_X12 g a_T zu_T zv_T ++ X) t) A) (List.toArray [.ref (a_T 0), .int x1, .int x2, .int x3]) s 0 0 A) (F0 m 98 ls [])), ∀ {u_T : S32} {v_T : S64} {w3 : Int32} {w4 : Int32} {w5 : Int32} {H : Heap} {locs : List Loc} {ls : Array Slot}, f_X12_vote_J98 fu K98 u_T v_T w3 w4 w5 = some (r, zu_T, zv_T) → WD g A s.heap (cl_X12 g a_T u_T v_T ++ X) H locs → lv_has ls 6 [(0, .ref (a_T 0)), (3, .int w3), (4, .int w4), (5, .int w5)] → W p l e (rmH 9) s m (List.toArray [.ref (a_T 0), .int x1, .int x2, .int x3]) below meth c H locs 0 0 (MQ below (va_Qi (fun r2 (_ : Unit) => r2 = r) (fun _ t => POST g A (cl_X12 g a_T zu_T zv_T ++ X) t) A) (List.toArray [.ref (a_T 0), .int x1, .int x2, .int x3]) s 0 0 A) (F0 m 98 ls []) := by
    intro K98 hK98 u_T v_T w3 w4 w5 H locs ls hf hw hl
    unfold f_X12_vote_J98 at hf
    refine lv_iload hx hb dX12_vote_98 (lv_at hl 3 rfl) ?_
    refine lv_aload_n hx hb dX12_vote_100 rfl (lv_at hl 0 rfl) ?_
    refine gf_X12_222 S hE hw 0 rfl rfl dX12_vote_101 ?_
    refine lv_icmp_ge (tgt := 167) hx hb dX12_vote_104 (by decide) (fun h_28 => ?_) (fun h_28 => ?_)
    · replace hf := tx_pos hf h_28
      refine lv_iload hx hb dX12_vote_167 (lv_at hl 2 rfl) ?_
      obtain ⟨e0, e1, e2⟩ := tx_in3 hf
      rw [← e0, ← e1, ← e2]
      exact tx_iret S hr hlk hw dX12_vote_169
    · replace hf := tx_neg hf h_28
      refine lv_iload hx hb dX12_vote_107 (lv_at hl 2 rfl) ?_
      refine lv_iload_n hx hb dX12_vote_109 rfl (lv_at hl 1 rfl) ?_
      refine lv_if_ne (tgt := 137) hx hb dX12_vote_110 (by decide) (fun h_29 => ?_) (fun h_29 => ?_)
      · replace hf := tx_neg hf h_29
        refine lv_aload_n hx hb dX12_vote_137 rfl (lv_at hl 0 rfl) ?_
        refine lv_iload hx hb dX12_vote_138 (lv_at hl 3 rfl) ?_
        obtain ⟨r_31, h_30, hf⟩ := tx_b1_e hf
        refine tx_ci hw (tx_runV S hE hw (c_X12_moreOf h_30) lk_X12_489 (q0 := 0) rfl rfl rfl hl.1 (rest := [.int w4]) rfl (Nat.le_of_ble_eq_true rfl) ⟨by decide, by decide⟩ dX12_vote_140 ⟨Nat.zero_le _, Nat.zero_le _⟩) (fun H locs hw => ?_)
        refine lv_aload_n hx hb dX12_vote_143 rfl (lv_at hl 0 rfl) ?_
        refine gf_X12_118 S hE hw 0 rfl rfl dX12_vote_144 ?_
        refine lv_iload hx hb dX12_vote_147 (lv_at hl 3 rfl) ?_
        obtain ⟨h_32, hf⟩ := tx_ck_e hf
        refine tx_iald S hE hw 35 rfl h_32 dX12_vote_149 ?_
        refine lv_icmp_le (tgt := 157) hx hb dX12_vote_150 (by decide) (fun h_33 => ?_) (fun h_33 => ?_)
        · replace hf := tx_pos hf h_33
          refine lv_iconst (v := 0) hx hb dX12_vote_157 (by decide) ?_
          exact J158 hK98 hf hw (lv_sub hl [0, 1, 3] rfl)
        · replace hf := tx_neg hf h_33
          refine lv_iconst (v := 1) hx hb dX12_vote_153 (by decide) ?_
          refine lv_goto (tgt := 158) hx hb dX12_vote_154 (by decide) ?_
          exact J158 hK98 hf hw (lv_sub hl [0, 1, 3] rfl)
      · replace hf := tx_pos hf h_29
        refine lv_aload_n hx hb dX12_vote_113 rfl (lv_at hl 0 rfl) ?_
        refine lv_iload hx hb dX12_vote_114 (lv_at hl 3 rfl) ?_
        obtain ⟨r_35, h_34, hf⟩ := tx_b1_e hf
        refine tx_ci hw (tx_runV S hE hw (c_X12_moreOf h_34) lk_X12_489 (q0 := 0) rfl rfl rfl hl.1 (rest := [.int w4]) rfl (Nat.le_of_ble_eq_true rfl) ⟨by decide, by decide⟩ dX12_vote_116 ⟨Nat.zero_le _, Nat.zero_le _⟩) (fun H locs hw => ?_)
        refine lv_aload_n hx hb dX12_vote_119 rfl (lv_at hl 0 rfl) ?_
        refine gf_X12_118 S hE hw 0 rfl rfl dX12_vote_120 ?_
        refine lv_iload hx hb dX12_vote_123 (lv_at hl 3 rfl) ?_
        obtain ⟨h_36, hf⟩ := tx_ck_e hf
        refine tx_iald S hE hw 35 rfl h_36 dX12_vote_125 ?_
        refine lv_icmp_ge (tgt := 133) hx hb dX12_vote_126 (by decide) (fun h_37 => ?_) (fun h_37 => ?_)
        · replace hf := tx_pos hf h_37
          refine lv_iconst (v := 0) hx hb dX12_vote_133 (by decide) ?_
          refine lv_goto (tgt := 158) hx hb dX12_vote_134 (by decide) ?_
          exact J158 hK98 hf hw (lv_sub hl [0, 1, 3] rfl)
        · replace hf := tx_neg hf h_37
          refine lv_iconst (v := 1) hx hb dX12_vote_129 (by decide) ?_
          refine lv_goto (tgt := 158) hx hb dX12_vote_130 (by decide) ?_
          exact J158 hK98 hf hw (lv_sub hl [0, 1, 3] rfl)
  have L98 : ∀ (n : Nat), ∀ {u_T : S32} {v_T : S64} {w3 : Int32} {w4 : Int32} {w5 : Int32} {H : Heap} {locs : List Loc} {ls : Array Slot}, f_X12_vote_L98 fu n u_T v_T w3 w4 w5 = some (r, zu_T, zv_T) → WD g A s.heap (cl_X12 g a_T u_T v_T ++ X) H locs → lv_has ls 6 [(0, .ref (a_T 0)), (3, .int w3), (4, .int w4), (5, .int w5)] → W p l e (rmH 9) s m (List.toArray [.ref (a_T 0), .int x1, .int x2, .int x3]) below meth c H locs 0 0 (MQ below (va_Qi (fun r2 (_ : Unit) => r2 = r) (fun _ t => POST g A (cl_X12 g a_T zu_T zv_T ++ X) t) A) (List.toArray [.ref (a_T 0), .int x1, .int x2, .int x3]) s 0 0 A) (F0 m 98 ls []) := by
    intro  n
    induction n with
    | zero => intro u_T v_T w3 w4 w5 H locs ls hf; exact absurd hf (by intro q; cases q)
    | succ n ih => exact fun hf hw hl => J98 ih hf hw hl
  have J48 : ∀ {K48 : S32 → S64 → Int32 → Int32 → Int32 → Int32 → Option (Int32 × S32 × S64)} (hK48 : ∀ {u_T : S32} {v_T : S64} {w1 : Int32} {w2 : Int32} {w3 : Int32} {w4 : Int32} {H : Heap} {locs : List Loc} {ls : Array Slot}, K48 u_T v_T w1 w2 w3 w4 = some (r, zu_T, zv_T) → WD g A s.heap (cl_X12 g a_T u_T v_T ++ X) H locs → lv_has ls 6 [(0, .ref (a_T 0)), (1, .int w1), (2, .int w2), (3, .int w3), (4, .int w4)] → W p l e (rmH 9) s m (List.toArray [.ref (a_T 0), .int x1, .int x2, .int x3]) below meth c H locs 0 0 (MQ below (va_Qi (fun r2 (_ : Unit) => r2 = r) (fun _ t => POST g A (cl_X12 g a_T zu_T zv_T ++ X) t) A) (List.toArray [.ref (a_T 0), .int x1, .int x2, .int x3]) s 0 0 A) (F0 m 48 ls [])), ∀ {u_T : S32} {v_T : S64} {w1 : Int32} {w2 : Int32} {w3 : Int32} {w4 : Int32} {H : Heap} {locs : List Loc} {ls : Array Slot}, f_X12_vote_J48 fu K48 u_T v_T w1 w2 w3 w4 = some (r, zu_T, zv_T) → WD g A s.heap (cl_X12 g a_T u_T v_T ++ X) H locs → lv_has ls 6 [(0, .ref (a_T 0)), (1, .int w1), (2, .int w2), (3, .int w3), (4, .int w4)] → W p l e (rmH 9) s m (List.toArray [.ref (a_T 0), .int x1, .int x2, .int x3]) below meth c H locs 0 0 (MQ below (va_Qi (fun r2 (_ : Unit) => r2 = r) (fun _ t => POST g A (cl_X12 g a_T zu_T zv_T ++ X) t) A) (List.toArray [.ref (a_T 0), .int x1, .int x2, .int x3]) s 0 0 A) (F0 m 48 ls []) := by
    intro K48 hK48 u_T v_T w1 w2 w3 w4 H locs ls hf hw hl
    unfold f_X12_vote_J48 at hf
    refine lv_iload hx hb dX12_vote_48 (lv_at hl 4 rfl) ?_
    refine lv_aload_n hx hb dX12_vote_50 rfl (lv_at hl 0 rfl) ?_
    refine gf_X12_222 S hE hw 0 rfl rfl dX12_vote_51 ?_
    refine lv_icmp_ge (tgt := 76) hx hb dX12_vote_54 (by decide) (fun h_16 => ?_) (fun h_16 => ?_)
    · replace hf := tx_pos hf h_16
      refine lv_aload_n hx hb dX12_vote_76 rfl (lv_at hl 0 rfl) ?_
      obtain ⟨u_T_18, h_17, hf⟩ := tx_b1_e hf
      refine tx_cv hw (tx_runV S hE hw (c_X12_layTried h_17) lk_X12_474 (q0 := 0) rfl rfl rfl hl.1 (rest := []) rfl (Nat.le_of_ble_eq_true rfl) ⟨by decide, by decide⟩ dX12_vote_77 ⟨Nat.zero_le _, Nat.zero_le _⟩) (fun H locs hw => ?_)
      refine lv_aload_n hx hb dX12_vote_80 rfl (lv_at hl 0 rfl) ?_
      refine gf_X12_112 S hE hw 0 rfl rfl dX12_vote_81 ?_
      refine lv_iconst (v := 1) hx hb dX12_vote_84 (by decide) ?_
      refine lv_iload_n hx hb dX12_vote_85 rfl (lv_at hl 2 rfl) ?_
      obtain ⟨u_T_19, eu_T_19⟩ : ∃ z : S32, z = up2 u_T_18 58 (1 : Int32).toNatClampNeg w2 := ⟨_, rfl⟩
      replace hf := tx_let_e hf eu_T_19
      refine tx_iast (ws' := cl_X12 g a_T u_T_19 v_T ++ X) S hE hw 33 rfl (by unfold vp_in; decide) (by rw [eu_T_19]; rfl) dX12_vote_86 (fun H locs hw => ?_)
      refine lv_aload_n hx hb dX12_vote_87 rfl (lv_at hl 0 rfl) ?_
      refine lv_iload_n hx hb dX12_vote_88 rfl (lv_at hl 1 rfl) ?_
      obtain ⟨u_T_21, v_T_22, h_20, hf⟩ := tx_b2_e hf
      refine tx_cv hw (tx_runV S hE hw (c_X12_goMany h_20) lk_X12_477 (q0 := 0) rfl rfl rfl hl.1 (rest := []) rfl (Nat.le_of_ble_eq_true rfl) ⟨by decide, by decide⟩ dX12_vote_89 ⟨Nat.zero_le _, Nat.zero_le _⟩) (fun H locs hw => ?_)
      refine lv_iconst (v := 0) hx hb dX12_vote_92 (by decide) ?_
      refine lv_istore (lv' := [(4, .int (0 : Int32)), (0, .ref (a_T 0)), (1, .int w1), (2, .int w2), (3, .int w3)]) hx hb dX12_vote_93 hl (by decide) rfl (fun ls hl => ?_)
      refine lv_iconst (v := 0) hx hb dX12_vote_95 (by decide) ?_
      refine lv_istore (lv' := [(5, .int (0 : Int32)), (4, .int (0 : Int32)), (0, .ref (a_T 0)), (1, .int w1), (2, .int w2), (3, .int w3)]) hx hb dX12_vote_96 hl (by decide) rfl (fun ls hl => ?_)
      exact L98 fu hf hw (lv_sub hl [2, 5, 1, 0] rfl)
    · replace hf := tx_neg hf h_16
      refine lv_aload_n hx hb dX12_vote_57 rfl (lv_at hl 0 rfl) ?_
      refine gf_X12_118 S hE hw 0 rfl rfl dX12_vote_58 ?_
      refine lv_iload hx hb dX12_vote_61 (lv_at hl 4 rfl) ?_
      refine lv_aload_n hx hb dX12_vote_63 rfl (lv_at hl 0 rfl) ?_
      refine lv_iload hx hb dX12_vote_64 (lv_at hl 4 rfl) ?_
      obtain ⟨r_24, h_23, hf⟩ := tx_b1_e hf
      refine tx_ci hw (tx_runV S hE hw (c_X12_moreOf h_23) lk_X12_489 (q0 := 0) rfl rfl rfl hl.1 (rest := [.int w4, .ref (a_T 71)]) rfl (Nat.le_of_ble_eq_true rfl) ⟨by decide, by decide⟩ dX12_vote_66 ⟨Nat.zero_le _, Nat.zero_le _⟩) (fun H locs hw => ?_)
      obtain ⟨h_25, hf⟩ := tx_ck_e hf
      obtain ⟨u_T_26, eu_T_26⟩ : ∃ z : S32, z = up2 u_T 71 w4.toNatClampNeg r_24 := ⟨_, rfl⟩
      replace hf := tx_let_e hf eu_T_26
      refine tx_iast (ws' := cl_X12 g a_T u_T_26 v_T ++ X) S hE hw 35 rfl h_25 (by rw [eu_T_26]; rfl) dX12_vote_69 (fun H locs hw => ?_)
      obtain ⟨y_27, ey_27⟩ : ∃ y : Int32, y = w4 + (1 : Int32) := ⟨_, rfl⟩
      replace hf := tx_let_e hf ey_27
      refine lv_iinc (v := y_27) (lv' := [(4, .int y_27), (0, .ref (a_T 0)), (1, .int w1), (2, .int w2), (3, .int w3)]) hx hb dX12_vote_70 hl (k := 4) rfl (by rw [ey_27]; rfl) (by decide) rfl (fun ls hl => ?_)
      refine lv_goto (tgt := 48) hx hb dX12_vote_73 (by decide) ?_
      exact hK48 hf hw (lv_sub hl [1, 2, 3, 4, 0] rfl)
  have L48 : ∀ (n : Nat), ∀ {u_T : S32} {v_T : S64} {w1 : Int32} {w2 : Int32} {w3 : Int32} {w4 : Int32} {H : Heap} {locs : List Loc} {ls : Array Slot}, f_X12_vote_L48 fu n u_T v_T w1 w2 w3 w4 = some (r, zu_T, zv_T) → WD g A s.heap (cl_X12 g a_T u_T v_T ++ X) H locs → lv_has ls 6 [(0, .ref (a_T 0)), (1, .int w1), (2, .int w2), (3, .int w3), (4, .int w4)] → W p l e (rmH 9) s m (List.toArray [.ref (a_T 0), .int x1, .int x2, .int x3]) below meth c H locs 0 0 (MQ below (va_Qi (fun r2 (_ : Unit) => r2 = r) (fun _ t => POST g A (cl_X12 g a_T zu_T zv_T ++ X) t) A) (List.toArray [.ref (a_T 0), .int x1, .int x2, .int x3]) s 0 0 A) (F0 m 48 ls []) := by
    intro  n
    induction n with
    | zero => intro u_T v_T w1 w2 w3 w4 H locs ls hf; exact absurd hf (by intro q; cases q)
    | succ n ih => exact fun hf hw hl => J48 ih hf hw hl
  unfold f_X12_vote at hf
  refine lv_aload_n hx hb dX12_vote_0 rfl (lv_at hl 0 rfl) ?_
  refine lv_iconst (v := 0) hx hb dX12_vote_1 (by decide) ?_
  obtain ⟨u_T_1, eu_T_1⟩ : ∃ z : S32, z = up2 u_T 0 2 (0 : Int32) := ⟨_, rfl⟩
  replace hf := tx_let_e hf eu_T_1
  refine pf_X12_145 (ws' := cl_X12 g a_T u_T_1 v_T ++ X) S hE hw rfl rfl 0 rfl (Nat.le_of_ble_eq_true rfl) (by rw [eu_T_1]; rfl) dX12_vote_2 (fun H locs hw => ?_)
  refine lv_iload_n hx hb dX12_vote_5 rfl (lv_at hl 1 rfl) ?_
  refine lv_iconst (v := 1) hx hb dX12_vote_6 (by decide) ?_
  refine lv_bipush (v := 40) hx hb dX12_vote_7 (by decide) ?_
  obtain ⟨r_3, h_2, hf⟩ := tx_b1_e hf
  refine tx_ci hw (tx_runS S hE hw (c_X12_isIn h_2) lk_X12_190 rfl hl.1 (rest := []) rfl (Nat.le_of_ble_eq_true rfl) ⟨by decide, by decide⟩ dX12_vote_9 ⟨Nat.zero_le _, Nat.zero_le _⟩) (fun H locs hw => ?_)
  refine lv_if_eq (tgt := 34) hx hb dX12_vote_12 (by decide) (fun h_4 => ?_) (fun h_4 => ?_)
  · replace hf := tx_pos hf h_4
    refine lv_iconst (v := -1) hx hb dX12_vote_34 (by decide) ?_
    obtain ⟨e0, e1, e2⟩ := tx_in3 hf
    rw [← e0, ← e1, ← e2]
    exact tx_iret S hr hlk hw dX12_vote_35
  · replace hf := tx_neg hf h_4
    refine lv_iload_n hx hb dX12_vote_15 rfl (lv_at hl 2 rfl) ?_
    refine lv_iconst (v := 0) hx hb dX12_vote_16 (by decide) ?_
    refine lv_bipush (v := 100) hx hb dX12_vote_17 (by decide) ?_
    obtain ⟨r_6, h_5, hf⟩ := tx_b1_e hf
    refine tx_ci hw (tx_runS S hE hw (c_X12_isIn h_5) lk_X12_190 rfl hl.1 (rest := []) rfl (Nat.le_of_ble_eq_true rfl) ⟨by decide, by decide⟩ dX12_vote_19 ⟨Nat.zero_le _, Nat.zero_le _⟩) (fun H locs hw => ?_)
    refine lv_if_eq (tgt := 34) hx hb dX12_vote_22 (by decide) (fun h_7 => ?_) (fun h_7 => ?_)
    · replace hf := tx_pos hf h_7
      refine lv_iconst (v := -1) hx hb dX12_vote_34 (by decide) ?_
      obtain ⟨e0, e1, e2⟩ := tx_in3 hf
      rw [← e0, ← e1, ← e2]
      exact tx_iret S hr hlk hw dX12_vote_35
    · replace hf := tx_neg hf h_7
      refine lv_iload_n hx hb dX12_vote_25 rfl (lv_at hl 3 rfl) ?_
      refine lv_iconst (v := 0) hx hb dX12_vote_26 (by decide) ?_
      refine lv_iconst (v := 1) hx hb dX12_vote_27 (by decide) ?_
      obtain ⟨r_9, h_8, hf⟩ := tx_b1_e hf
      refine tx_ci hw (tx_runS S hE hw (c_X12_isIn h_8) lk_X12_190 rfl hl.1 (rest := []) rfl (Nat.le_of_ble_eq_true rfl) ⟨by decide, by decide⟩ dX12_vote_28 ⟨Nat.zero_le _, Nat.zero_le _⟩) (fun H locs hw => ?_)
      refine lv_if_ne (tgt := 36) hx hb dX12_vote_31 (by decide) (fun h_10 => ?_) (fun h_10 => ?_)
      · replace hf := tx_neg hf h_10
        refine lv_aload_n hx hb dX12_vote_36 rfl (lv_at hl 0 rfl) ?_
        obtain ⟨u_T_12, h_11, hf⟩ := tx_b1_e hf
        refine tx_cv hw (tx_runV S hE hw (c_X12_layTried h_11) lk_X12_474 (q0 := 0) rfl rfl rfl hl.1 (rest := []) rfl (Nat.le_of_ble_eq_true rfl) ⟨by decide, by decide⟩ dX12_vote_37 ⟨Nat.zero_le _, Nat.zero_le _⟩) (fun H locs hw => ?_)
        refine lv_aload_n hx hb dX12_vote_40 rfl (lv_at hl 0 rfl) ?_
        refine lv_iload_n hx hb dX12_vote_41 rfl (lv_at hl 1 rfl) ?_
        obtain ⟨u_T_14, v_T_15, h_13, hf⟩ := tx_b2_e hf
        refine tx_cv hw (tx_runV S hE hw (c_X12_goMany h_13) lk_X12_477 (q0 := 0) rfl rfl rfl hl.1 (rest := []) rfl (Nat.le_of_ble_eq_true rfl) ⟨by decide, by decide⟩ dX12_vote_42 ⟨Nat.zero_le _, Nat.zero_le _⟩) (fun H locs hw => ?_)
        refine lv_iconst (v := 0) hx hb dX12_vote_45 (by decide) ?_
        refine lv_istore (lv' := [(4, .int (0 : Int32)), (0, .ref (a_T 0)), (1, .int x1), (2, .int x2), (3, .int x3)]) hx hb dX12_vote_46 hl (by decide) rfl (fun ls hl => ?_)
        exact L48 fu hf hw (lv_sub hl [1, 2, 3, 4, 0] rfl)
      · replace hf := tx_pos hf h_10
        refine lv_iconst (v := -1) hx hb dX12_vote_34 (by decide) ?_
        obtain ⟨e0, e1, e2⟩ := tx_in3 hf
        rw [← e0, ← e1, ← e2]
        exact tx_iret S hr hlk hw dX12_vote_35
def f_X12_first_J79 (fu : Nat) (v_T : S64) (K21 : S32 → Int32 → Int32 → Int32 → Option (Int32 × S32)) (K35 : S32 → Int32 → Int32 → Int32 → Int32 → Int32 → Option (Int32 × S32)) (u_T : S32) (w1 : Int32) (w2 : Int32) (w3 : Int32) (w5 : Int32) (t0 : Int32) (t1 : Int32) : Option (Int32 × S32) := tx_let (t0 + t1) fun (y_12 : Int32) => tx_let (w5 + (1 : Int32)) fun (y_13 : Int32) => K35 u_T w1 w2 w3 y_12 y_13
def f_X12_first_J78 (fu : Nat) (v_T : S64) (K21 : S32 → Int32 → Int32 → Int32 → Option (Int32 × S32)) (K35 : S32 → Int32 → Int32 → Int32 → Int32 → Int32 → Option (Int32 × S32)) (u_T : S32) (w1 : Int32) (w2 : Int32) (w3 : Int32) (w5 : Int32) (t0 : Int32) : Option (Int32 × S32) := f_X12_first_J79 fu v_T K21 K35 u_T w1 w2 w3 w5 t0 (0 : Int32)
def f_X12_first_J102 (fu : Nat) (v_T : S64) (K21 : S32 → Int32 → Int32 → Int32 → Option (Int32 × S32)) (u_T : S32) (w1 : Int32) (w2 : Int32) (w3 : Int32) : Option (Int32 × S32) := tx_let (w3 + (1 : Int32)) fun (y_11 : Int32) => K21 u_T w1 w2 y_11
def f_X12_first_J35 (fu : Nat) (v_T : S64) (K21 : S32 → Int32 → Int32 → Int32 → Option (Int32 × S32)) (K35 : S32 → Int32 → Int32 → Int32 → Int32 → Int32 → Option (Int32 × S32)) (u_T : S32) (w1 : Int32) (w2 : Int32) (w3 : Int32) (w4 : Int32) (w5 : Int32) : Option (Int32 × S32) := if (u_T 0 13) ≤ w5 then (if w2 < w4 then (f_X12_first_J102 fu v_T K21 u_T w3 w4 w3) else (f_X12_first_J102 fu v_T K21 u_T w1 w2 w3)) else (tx_ck w5 24 <| if (u_T 50 w5.toNatClampNeg) = (1 : Int32) then (tx_ck w5 24 <| if (u_T 51 w5.toNatClampNeg) = w3 then (tx_ck w5 24 <| f_X12_first_J79 fu v_T K21 K35 u_T w1 w2 w3 w5 w4 (u_T 27 w5.toNatClampNeg)) else (f_X12_first_J78 fu v_T K21 K35 u_T w1 w2 w3 w5 w4)) else (f_X12_first_J78 fu v_T K21 K35 u_T w1 w2 w3 w5 w4))
def f_X12_first_L35 (fu : Nat) (v_T : S64) (K21 : S32 → Int32 → Int32 → Int32 → Option (Int32 × S32)) : Nat → S32 → Int32 → Int32 → Int32 → Int32 → Int32 → Option (Int32 × S32)
  | 0 => fun _ _ _ _ _ _ => none
  | n + 1 => f_X12_first_J35 fu v_T K21 (f_X12_first_L35 fu v_T K21 n)
def f_X12_first_J21 (fu : Nat) (v_T : S64) (K21 : S32 → Int32 → Int32 → Int32 → Option (Int32 × S32)) (u_T : S32) (w1 : Int32) (w2 : Int32) (w3 : Int32) : Option (Int32 × S32) := if (u_T 0 12) ≤ w3 then (some (w1, u_T)) else (f_X12_first_L35 fu v_T K21 fu u_T w1 w2 w3 (0 : Int32) (0 : Int32))
def f_X12_first_L21 (fu : Nat) (v_T : S64) : Nat → S32 → Int32 → Int32 → Int32 → Option (Int32 × S32)
  | 0 => fun _ _ _ _ => none
  | n + 1 => f_X12_first_J21 fu v_T (f_X12_first_L21 fu v_T n)
def f_X12_first (fu : Nat) (v_T : S64) (u_T : S32) : Option (Int32 × S32) := tx_let (up2 u_T 0 2 (0 : Int32)) fun (u_T_1 : S32) => if (u_T_1 0 12) = (0 : Int32) then (some ((-1 : Int32), u_T_1)) else (f_X12_first_L21 fu v_T fu u_T_1 (-2 : Int32) (0 : Int32) (0 : Int32))
set_option maxHeartbeats 4000000 in
set_option maxRecDepth 100000 in
theorem c_X12_first {l : Launch} {g : GG} {A : Nat → Prop} {X : va_W} {fu : Nat} {a_T : Nat → Nat} {u_T : S32} {v_T : S64} {r : Int32} {zu_T : S32} (hf : f_X12_first fu v_T u_T = some (r, zu_T)) : MI l yX12_first cX12_first 6 (some .int) 0 g A (cl_X12 g a_T u_T v_T ++ X) [.ref (a_T 0)] r (cl_X12 g a_T zu_T v_T ++ X) := by
  refine tx_start (av := [.ref (a_T 0)]) (by decide) (Nat.le_of_ble_eq_true rfl) ?_
  intro p e s m below meth c ls S hr hlk hE hw hl
  have S : CallFix p m c cX12_first 6 s (List.toArray [.ref (a_T 0)]) (Cond.code yX12_first cX12_first 6 (some .int) :: allW) RX12 := S
  have hx := S.1
  have hb := S.2.1
  have hown := S.2.2.2.1
  have hts : ∀ w ∈ allW, w.before (List.toArray [.ref (a_T 0)]) s = true := fun w h => S.2.2.2.2 w (List.mem_cons_of_mem _ h)
  have hl : lv_has ls 6 [(0, .ref (a_T 0))] := hl
  have J79 : ∀ {K21 : S32 → Int32 → Int32 → Int32 → Option (Int32 × S32)} (hK21 : ∀ {u_T : S32} {w1 : Int32} {w2 : Int32} {w3 : Int32} {H : Heap} {locs : List Loc} {ls : Array Slot}, K21 u_T w1 w2 w3 = some (r, zu_T) → WD g A s.heap (cl_X12 g a_T u_T v_T ++ X) H locs → lv_has ls 6 [(0, .ref (a_T 0)), (1, .int w1), (2, .int w2), (3, .int w3)] → W p l e (rmH 0) s m (List.toArray [.ref (a_T 0)]) below meth c H locs 0 0 (MQ below (va_Qi (fun r2 (_ : Unit) => r2 = r) (fun _ t => POST g A (cl_X12 g a_T zu_T v_T ++ X) t) A) (List.toArray [.ref (a_T 0)]) s 0 0 A) (F0 m 21 ls [])) {K35 : S32 → Int32 → Int32 → Int32 → Int32 → Int32 → Option (Int32 × S32)} (hK35 : ∀ {u_T : S32} {w1 : Int32} {w2 : Int32} {w3 : Int32} {w4 : Int32} {w5 : Int32} {H : Heap} {locs : List Loc} {ls : Array Slot}, K35 u_T w1 w2 w3 w4 w5 = some (r, zu_T) → WD g A s.heap (cl_X12 g a_T u_T v_T ++ X) H locs → lv_has ls 6 [(0, .ref (a_T 0)), (1, .int w1), (2, .int w2), (3, .int w3), (4, .int w4), (5, .int w5)] → W p l e (rmH 0) s m (List.toArray [.ref (a_T 0)]) below meth c H locs 0 0 (MQ below (va_Qi (fun r2 (_ : Unit) => r2 = r) (fun _ t => POST g A (cl_X12 g a_T zu_T v_T ++ X) t) A) (List.toArray [.ref (a_T 0)]) s 0 0 A) (F0 m 35 ls [])), ∀ {u_T : S32} {w1 : Int32} {w2 : Int32} {w3 : Int32} {w5 : Int32} {t0 : Int32} {t1 : Int32} {H : Heap} {locs : List Loc} {ls : Array Slot}, f_X12_first_J79 fu v_T K21 K35 u_T w1 w2 w3 w5 t0 t1 = some (r, zu_T) → WD g A s.heap (cl_X12 g a_T u_T v_T ++ X) H locs → lv_has ls 6 [(0, .ref (a_T 0)), (1, .int w1), (2, .int w2), (3, .int w3), (5, .int w5)] → W p l e (rmH 0) s m (List.toArray [.ref (a_T 0)]) below meth c H locs 0 0 (MQ below (va_Qi (fun r2 (_ : Unit) => r2 = r) (fun _ t => POST g A (cl_X12 g a_T zu_T v_T ++ X) t) A) (List.toArray [.ref (a_T 0)]) s 0 0 A) (F0 m 79 ls [.int t1, .int t0]) := by
    intro K21 hK21 K35 hK35 u_T w1 w2 w3 w5 t0 t1 H locs ls hf hw hl
    unfold f_X12_first_J79 at hf
    refine lv_iadd hx hb dX12_first_79 ?_
    refine lv_topi (fun y_12 ey_12 => ?_)
    replace hf := tx_let_e hf ey_12
    refine lv_istore (lv' := [(4, .int y_12), (0, .ref (a_T 0)), (1, .int w1), (2, .int w2), (3, .int w3), (5, .int w5)]) hx hb dX12_first_80 hl (by decide) rfl (fun ls hl => ?_)
    obtain ⟨y_13, ey_13⟩ : ∃ y : Int32, y = w5 + (1 : Int32) := ⟨_, rfl⟩
    replace hf := tx_let_e hf ey_13
    refine lv_iinc (v := y_13) (lv' := [(5, .int y_13), (4, .int y_12), (0, .ref (a_T 0)), (1, .int w1), (2, .int w2), (3, .int w3)]) hx hb dX12_first_82 hl (k := 5) rfl (by rw [ey_13]; rfl) (by decide) rfl (fun ls hl => ?_)
    refine lv_goto (tgt := 35) hx hb dX12_first_85 (by decide) ?_
    exact hK35 hf hw (lv_sub hl [2, 3, 4, 5, 1, 0] rfl)
  have J78 : ∀ {K21 : S32 → Int32 → Int32 → Int32 → Option (Int32 × S32)} (hK21 : ∀ {u_T : S32} {w1 : Int32} {w2 : Int32} {w3 : Int32} {H : Heap} {locs : List Loc} {ls : Array Slot}, K21 u_T w1 w2 w3 = some (r, zu_T) → WD g A s.heap (cl_X12 g a_T u_T v_T ++ X) H locs → lv_has ls 6 [(0, .ref (a_T 0)), (1, .int w1), (2, .int w2), (3, .int w3)] → W p l e (rmH 0) s m (List.toArray [.ref (a_T 0)]) below meth c H locs 0 0 (MQ below (va_Qi (fun r2 (_ : Unit) => r2 = r) (fun _ t => POST g A (cl_X12 g a_T zu_T v_T ++ X) t) A) (List.toArray [.ref (a_T 0)]) s 0 0 A) (F0 m 21 ls [])) {K35 : S32 → Int32 → Int32 → Int32 → Int32 → Int32 → Option (Int32 × S32)} (hK35 : ∀ {u_T : S32} {w1 : Int32} {w2 : Int32} {w3 : Int32} {w4 : Int32} {w5 : Int32} {H : Heap} {locs : List Loc} {ls : Array Slot}, K35 u_T w1 w2 w3 w4 w5 = some (r, zu_T) → WD g A s.heap (cl_X12 g a_T u_T v_T ++ X) H locs → lv_has ls 6 [(0, .ref (a_T 0)), (1, .int w1), (2, .int w2), (3, .int w3), (4, .int w4), (5, .int w5)] → W p l e (rmH 0) s m (List.toArray [.ref (a_T 0)]) below meth c H locs 0 0 (MQ below (va_Qi (fun r2 (_ : Unit) => r2 = r) (fun _ t => POST g A (cl_X12 g a_T zu_T v_T ++ X) t) A) (List.toArray [.ref (a_T 0)]) s 0 0 A) (F0 m 35 ls [])), ∀ {u_T : S32} {w1 : Int32} {w2 : Int32} {w3 : Int32} {w5 : Int32} {t0 : Int32} {H : Heap} {locs : List Loc} {ls : Array Slot}, f_X12_first_J78 fu v_T K21 K35 u_T w1 w2 w3 w5 t0 = some (r, zu_T) → WD g A s.heap (cl_X12 g a_T u_T v_T ++ X) H locs → lv_has ls 6 [(0, .ref (a_T 0)), (1, .int w1), (2, .int w2), (3, .int w3), (5, .int w5)] → W p l e (rmH 0) s m (List.toArray [.ref (a_T 0)]) below meth c H locs 0 0 (MQ below (va_Qi (fun r2 (_ : Unit) => r2 = r) (fun _ t => POST g A (cl_X12 g a_T zu_T v_T ++ X) t) A) (List.toArray [.ref (a_T 0)]) s 0 0 A) (F0 m 78 ls [.int t0]) := by
    intro K21 hK21 K35 hK35 u_T w1 w2 w3 w5 t0 H locs ls hf hw hl
    unfold f_X12_first_J78 at hf
    refine lv_iconst (v := 0) hx hb dX12_first_78 (by decide) ?_
    exact J79 hK21 hK35 hf hw (lv_sub hl [0, 1, 2, 3, 4] rfl)
  have J102 : ∀ {K21 : S32 → Int32 → Int32 → Int32 → Option (Int32 × S32)} (hK21 : ∀ {u_T : S32} {w1 : Int32} {w2 : Int32} {w3 : Int32} {H : Heap} {locs : List Loc} {ls : Array Slot}, K21 u_T w1 w2 w3 = some (r, zu_T) → WD g A s.heap (cl_X12 g a_T u_T v_T ++ X) H locs → lv_has ls 6 [(0, .ref (a_T 0)), (1, .int w1), (2, .int w2), (3, .int w3)] → W p l e (rmH 0) s m (List.toArray [.ref (a_T 0)]) below meth c H locs 0 0 (MQ below (va_Qi (fun r2 (_ : Unit) => r2 = r) (fun _ t => POST g A (cl_X12 g a_T zu_T v_T ++ X) t) A) (List.toArray [.ref (a_T 0)]) s 0 0 A) (F0 m 21 ls [])), ∀ {u_T : S32} {w1 : Int32} {w2 : Int32} {w3 : Int32} {H : Heap} {locs : List Loc} {ls : Array Slot}, f_X12_first_J102 fu v_T K21 u_T w1 w2 w3 = some (r, zu_T) → WD g A s.heap (cl_X12 g a_T u_T v_T ++ X) H locs → lv_has ls 6 [(0, .ref (a_T 0)), (1, .int w1), (2, .int w2), (3, .int w3)] → W p l e (rmH 0) s m (List.toArray [.ref (a_T 0)]) below meth c H locs 0 0 (MQ below (va_Qi (fun r2 (_ : Unit) => r2 = r) (fun _ t => POST g A (cl_X12 g a_T zu_T v_T ++ X) t) A) (List.toArray [.ref (a_T 0)]) s 0 0 A) (F0 m 102 ls []) := by
    intro K21 hK21 u_T w1 w2 w3 H locs ls hf hw hl
    unfold f_X12_first_J102 at hf
    obtain ⟨y_11, ey_11⟩ : ∃ y : Int32, y = w3 + (1 : Int32) := ⟨_, rfl⟩
    replace hf := tx_let_e hf ey_11
    refine lv_iinc (v := y_11) (lv' := [(3, .int y_11), (0, .ref (a_T 0)), (1, .int w1), (2, .int w2)]) hx hb dX12_first_102 hl (k := 3) rfl (by rw [ey_11]; rfl) (by decide) rfl (fun ls hl => ?_)
    refine lv_goto (tgt := 21) hx hb dX12_first_105 (by decide) ?_
    exact hK21 hf hw (lv_sub hl [1, 2, 3, 0] rfl)
  have J35 : ∀ {K21 : S32 → Int32 → Int32 → Int32 → Option (Int32 × S32)} (hK21 : ∀ {u_T : S32} {w1 : Int32} {w2 : Int32} {w3 : Int32} {H : Heap} {locs : List Loc} {ls : Array Slot}, K21 u_T w1 w2 w3 = some (r, zu_T) → WD g A s.heap (cl_X12 g a_T u_T v_T ++ X) H locs → lv_has ls 6 [(0, .ref (a_T 0)), (1, .int w1), (2, .int w2), (3, .int w3)] → W p l e (rmH 0) s m (List.toArray [.ref (a_T 0)]) below meth c H locs 0 0 (MQ below (va_Qi (fun r2 (_ : Unit) => r2 = r) (fun _ t => POST g A (cl_X12 g a_T zu_T v_T ++ X) t) A) (List.toArray [.ref (a_T 0)]) s 0 0 A) (F0 m 21 ls [])) {K35 : S32 → Int32 → Int32 → Int32 → Int32 → Int32 → Option (Int32 × S32)} (hK35 : ∀ {u_T : S32} {w1 : Int32} {w2 : Int32} {w3 : Int32} {w4 : Int32} {w5 : Int32} {H : Heap} {locs : List Loc} {ls : Array Slot}, K35 u_T w1 w2 w3 w4 w5 = some (r, zu_T) → WD g A s.heap (cl_X12 g a_T u_T v_T ++ X) H locs → lv_has ls 6 [(0, .ref (a_T 0)), (1, .int w1), (2, .int w2), (3, .int w3), (4, .int w4), (5, .int w5)] → W p l e (rmH 0) s m (List.toArray [.ref (a_T 0)]) below meth c H locs 0 0 (MQ below (va_Qi (fun r2 (_ : Unit) => r2 = r) (fun _ t => POST g A (cl_X12 g a_T zu_T v_T ++ X) t) A) (List.toArray [.ref (a_T 0)]) s 0 0 A) (F0 m 35 ls [])), ∀ {u_T : S32} {w1 : Int32} {w2 : Int32} {w3 : Int32} {w4 : Int32} {w5 : Int32} {H : Heap} {locs : List Loc} {ls : Array Slot}, f_X12_first_J35 fu v_T K21 K35 u_T w1 w2 w3 w4 w5 = some (r, zu_T) → WD g A s.heap (cl_X12 g a_T u_T v_T ++ X) H locs → lv_has ls 6 [(0, .ref (a_T 0)), (1, .int w1), (2, .int w2), (3, .int w3), (4, .int w4), (5, .int w5)] → W p l e (rmH 0) s m (List.toArray [.ref (a_T 0)]) below meth c H locs 0 0 (MQ below (va_Qi (fun r2 (_ : Unit) => r2 = r) (fun _ t => POST g A (cl_X12 g a_T zu_T v_T ++ X) t) A) (List.toArray [.ref (a_T 0)]) s 0 0 A) (F0 m 35 ls []) := by
    intro K21 hK21 K35 hK35 u_T w1 w2 w3 w4 w5 H locs ls hf hw hl
    unfold f_X12_first_J35 at hf
    refine lv_iload hx hb dX12_first_35 (lv_at hl 5 rfl) ?_
    refine lv_aload_n hx hb dX12_first_37 rfl (lv_at hl 0 rfl) ?_
    refine gf_X12_225 S hE hw 0 rfl rfl dX12_first_38 ?_
    refine lv_icmp_ge (tgt := 88) hx hb dX12_first_41 (by decide) (fun h_4 => ?_) (fun h_4 => ?_)
    · replace hf := tx_pos hf h_4
      refine lv_iload hx hb dX12_first_88 (lv_at hl 4 rfl) ?_
      refine lv_iload_n hx hb dX12_first_90 rfl (lv_at hl 2 rfl) ?_
      refine lv_icmp_gt (tgt := 97) hx hb dX12_first_91 (by decide) (fun h_5 => ?_) (fun h_5 => ?_)
      · replace hf := tx_pos hf h_5
        refine lv_iload_n hx hb dX12_first_97 rfl (lv_at hl 3 rfl) ?_
        refine lv_istore_n (lv' := [(1, .int w3), (0, .ref (a_T 0)), (2, .int w2), (3, .int w3), (4, .int w4), (5, .int w5)]) hx hb dX12_first_98 rfl hl (by decide) rfl (fun ls hl => ?_)
        refine lv_iload hx hb dX12_first_99 (lv_at hl 4 rfl) ?_
        refine lv_istore_n (lv' := [(2, .int w4), (1, .int w3), (0, .ref (a_T 0)), (3, .int w3), (4, .int w4), (5, .int w5)]) hx hb dX12_first_101 rfl hl (by decide) rfl (fun ls hl => ?_)
        exact J102 hK21 hf hw (lv_sub hl [2, 1, 0, 3] rfl)
      · replace hf := tx_neg hf h_5
        refine lv_goto (tgt := 102) hx hb dX12_first_94 (by decide) ?_
        exact J102 hK21 hf hw (lv_sub hl [0, 1, 2, 3] rfl)
    · replace hf := tx_neg hf h_4
      refine lv_iload hx hb dX12_first_44 (lv_at hl 4 rfl) ?_
      refine lv_aload_n hx hb dX12_first_46 rfl (lv_at hl 0 rfl) ?_
      refine gf_X12_88 S hE hw 0 rfl rfl dX12_first_47 ?_
      refine lv_iload hx hb dX12_first_50 (lv_at hl 5 rfl) ?_
      obtain ⟨h_6, hf⟩ := tx_ck_e hf
      refine tx_iald S hE hw 25 rfl h_6 dX12_first_52 ?_
      refine lv_iconst (v := 1) hx hb dX12_first_53 (by decide) ?_
      refine lv_icmp_ne (tgt := 78) hx hb dX12_first_54 (by decide) (fun h_7 => ?_) (fun h_7 => ?_)
      · replace hf := tx_neg hf h_7
        exact J78 hK21 hK35 hf hw (lv_sub hl [0, 1, 2, 3, 5] rfl)
      · replace hf := tx_pos hf h_7
        refine lv_aload_n hx hb dX12_first_57 rfl (lv_at hl 0 rfl) ?_
        refine gf_X12_91 S hE hw 0 rfl rfl dX12_first_58 ?_
        refine lv_iload hx hb dX12_first_61 (lv_at hl 5 rfl) ?_
        obtain ⟨h_8, hf⟩ := tx_ck_e hf
        refine tx_iald S hE hw 26 rfl h_8 dX12_first_63 ?_
        refine lv_iload_n hx hb dX12_first_64 rfl (lv_at hl 3 rfl) ?_
        refine lv_icmp_ne (tgt := 78) hx hb dX12_first_65 (by decide) (fun h_9 => ?_) (fun h_9 => ?_)
        · replace hf := tx_neg hf h_9
          exact J78 hK21 hK35 hf hw (lv_sub hl [0, 1, 2, 3, 5] rfl)
        · replace hf := tx_pos hf h_9
          refine lv_aload_n hx hb dX12_first_68 rfl (lv_at hl 0 rfl) ?_
          refine gf_X12_39 S hE hw 0 rfl rfl dX12_first_69 ?_
          refine lv_iload hx hb dX12_first_72 (lv_at hl 5 rfl) ?_
          obtain ⟨h_10, hf⟩ := tx_ck_e hf
          refine tx_iald S hE hw 9 rfl h_10 dX12_first_74 ?_
          refine lv_goto (tgt := 79) hx hb dX12_first_75 (by decide) ?_
          exact J79 hK21 hK35 hf hw (lv_sub hl [0, 1, 2, 3, 5] rfl)
  have L35 : ∀ {K21 : S32 → Int32 → Int32 → Int32 → Option (Int32 × S32)} (hK21 : ∀ {u_T : S32} {w1 : Int32} {w2 : Int32} {w3 : Int32} {H : Heap} {locs : List Loc} {ls : Array Slot}, K21 u_T w1 w2 w3 = some (r, zu_T) → WD g A s.heap (cl_X12 g a_T u_T v_T ++ X) H locs → lv_has ls 6 [(0, .ref (a_T 0)), (1, .int w1), (2, .int w2), (3, .int w3)] → W p l e (rmH 0) s m (List.toArray [.ref (a_T 0)]) below meth c H locs 0 0 (MQ below (va_Qi (fun r2 (_ : Unit) => r2 = r) (fun _ t => POST g A (cl_X12 g a_T zu_T v_T ++ X) t) A) (List.toArray [.ref (a_T 0)]) s 0 0 A) (F0 m 21 ls [])), ∀ (n : Nat), ∀ {u_T : S32} {w1 : Int32} {w2 : Int32} {w3 : Int32} {w4 : Int32} {w5 : Int32} {H : Heap} {locs : List Loc} {ls : Array Slot}, f_X12_first_L35 fu v_T K21 n u_T w1 w2 w3 w4 w5 = some (r, zu_T) → WD g A s.heap (cl_X12 g a_T u_T v_T ++ X) H locs → lv_has ls 6 [(0, .ref (a_T 0)), (1, .int w1), (2, .int w2), (3, .int w3), (4, .int w4), (5, .int w5)] → W p l e (rmH 0) s m (List.toArray [.ref (a_T 0)]) below meth c H locs 0 0 (MQ below (va_Qi (fun r2 (_ : Unit) => r2 = r) (fun _ t => POST g A (cl_X12 g a_T zu_T v_T ++ X) t) A) (List.toArray [.ref (a_T 0)]) s 0 0 A) (F0 m 35 ls []) := by
    intro K21 hK21 n
    induction n with
    | zero => intro u_T w1 w2 w3 w4 w5 H locs ls hf; exact absurd hf (by intro q; cases q)
    | succ n ih => exact fun hf hw hl => J35 hK21 ih hf hw hl
  have J21 : ∀ {K21 : S32 → Int32 → Int32 → Int32 → Option (Int32 × S32)} (hK21 : ∀ {u_T : S32} {w1 : Int32} {w2 : Int32} {w3 : Int32} {H : Heap} {locs : List Loc} {ls : Array Slot}, K21 u_T w1 w2 w3 = some (r, zu_T) → WD g A s.heap (cl_X12 g a_T u_T v_T ++ X) H locs → lv_has ls 6 [(0, .ref (a_T 0)), (1, .int w1), (2, .int w2), (3, .int w3)] → W p l e (rmH 0) s m (List.toArray [.ref (a_T 0)]) below meth c H locs 0 0 (MQ below (va_Qi (fun r2 (_ : Unit) => r2 = r) (fun _ t => POST g A (cl_X12 g a_T zu_T v_T ++ X) t) A) (List.toArray [.ref (a_T 0)]) s 0 0 A) (F0 m 21 ls [])), ∀ {u_T : S32} {w1 : Int32} {w2 : Int32} {w3 : Int32} {H : Heap} {locs : List Loc} {ls : Array Slot}, f_X12_first_J21 fu v_T K21 u_T w1 w2 w3 = some (r, zu_T) → WD g A s.heap (cl_X12 g a_T u_T v_T ++ X) H locs → lv_has ls 6 [(0, .ref (a_T 0)), (1, .int w1), (2, .int w2), (3, .int w3)] → W p l e (rmH 0) s m (List.toArray [.ref (a_T 0)]) below meth c H locs 0 0 (MQ below (va_Qi (fun r2 (_ : Unit) => r2 = r) (fun _ t => POST g A (cl_X12 g a_T zu_T v_T ++ X) t) A) (List.toArray [.ref (a_T 0)]) s 0 0 A) (F0 m 21 ls []) := by
    intro K21 hK21 u_T w1 w2 w3 H locs ls hf hw hl
    unfold f_X12_first_J21 at hf
    refine lv_iload_n hx hb dX12_first_21 rfl (lv_at hl 3 rfl) ?_
    refine lv_aload_n hx hb dX12_first_22 rfl (lv_at hl 0 rfl) ?_
    refine gf_X12_222 S hE hw 0 rfl rfl dX12_first_23 ?_
    refine lv_icmp_ge (tgt := 108) hx hb dX12_first_26 (by decide) (fun h_3 => ?_) (fun h_3 => ?_)
    · replace hf := tx_pos hf h_3
      refine lv_iload_n hx hb dX12_first_108 rfl (lv_at hl 1 rfl) ?_
      obtain ⟨e0, e1⟩ := tx_in2 hf
      rw [← e0, ← e1]
      exact tx_iret S hr hlk hw dX12_first_109
    · replace hf := tx_neg hf h_3
      refine lv_iconst (v := 0) hx hb dX12_first_29 (by decide) ?_
      refine lv_istore (lv' := [(4, .int (0 : Int32)), (0, .ref (a_T 0)), (1, .int w1), (2, .int w2), (3, .int w3)]) hx hb dX12_first_30 hl (by decide) rfl (fun ls hl => ?_)
      refine lv_iconst (v := 0) hx hb dX12_first_32 (by decide) ?_
      refine lv_istore (lv' := [(5, .int (0 : Int32)), (4, .int (0 : Int32)), (0, .ref (a_T 0)), (1, .int w1), (2, .int w2), (3, .int w3)]) hx hb dX12_first_33 hl (by decide) rfl (fun ls hl => ?_)
      exact L35 hK21 fu hf hw (lv_sub hl [2, 3, 4, 5, 1, 0] rfl)
  have L21 : ∀ (n : Nat), ∀ {u_T : S32} {w1 : Int32} {w2 : Int32} {w3 : Int32} {H : Heap} {locs : List Loc} {ls : Array Slot}, f_X12_first_L21 fu v_T n u_T w1 w2 w3 = some (r, zu_T) → WD g A s.heap (cl_X12 g a_T u_T v_T ++ X) H locs → lv_has ls 6 [(0, .ref (a_T 0)), (1, .int w1), (2, .int w2), (3, .int w3)] → W p l e (rmH 0) s m (List.toArray [.ref (a_T 0)]) below meth c H locs 0 0 (MQ below (va_Qi (fun r2 (_ : Unit) => r2 = r) (fun _ t => POST g A (cl_X12 g a_T zu_T v_T ++ X) t) A) (List.toArray [.ref (a_T 0)]) s 0 0 A) (F0 m 21 ls []) := by
    intro  n
    induction n with
    | zero => intro u_T w1 w2 w3 H locs ls hf; exact absurd hf (by intro q; cases q)
    | succ n ih => exact fun hf hw hl => J21 ih hf hw hl
  unfold f_X12_first at hf
  refine lv_aload_n hx hb dX12_first_0 rfl (lv_at hl 0 rfl) ?_
  refine lv_iconst (v := 0) hx hb dX12_first_1 (by decide) ?_
  obtain ⟨u_T_1, eu_T_1⟩ : ∃ z : S32, z = up2 u_T 0 2 (0 : Int32) := ⟨_, rfl⟩
  replace hf := tx_let_e hf eu_T_1
  refine pf_X12_145 (ws' := cl_X12 g a_T u_T_1 v_T ++ X) S hE hw rfl rfl 0 rfl (Nat.le_of_ble_eq_true rfl) (by rw [eu_T_1]; rfl) dX12_first_2 (fun H locs hw => ?_)
  refine lv_aload_n hx hb dX12_first_5 rfl (lv_at hl 0 rfl) ?_
  refine gf_X12_222 S hE hw 0 rfl rfl dX12_first_6 ?_
  refine lv_if_ne (tgt := 14) hx hb dX12_first_9 (by decide) (fun h_2 => ?_) (fun h_2 => ?_)
  · replace hf := tx_neg hf h_2
    refine lv_bipush (v := -2) hx hb dX12_first_14 (by decide) ?_
    refine lv_istore_n (lv' := [(1, .int (-2 : Int32)), (0, .ref (a_T 0))]) hx hb dX12_first_16 rfl hl (by decide) rfl (fun ls hl => ?_)
    refine lv_iconst (v := 0) hx hb dX12_first_17 (by decide) ?_
    refine lv_istore_n (lv' := [(2, .int (0 : Int32)), (1, .int (-2 : Int32)), (0, .ref (a_T 0))]) hx hb dX12_first_18 rfl hl (by decide) rfl (fun ls hl => ?_)
    refine lv_iconst (v := 0) hx hb dX12_first_19 (by decide) ?_
    refine lv_istore_n (lv' := [(3, .int (0 : Int32)), (2, .int (0 : Int32)), (1, .int (-2 : Int32)), (0, .ref (a_T 0))]) hx hb dX12_first_20 rfl hl (by decide) rfl (fun ls hl => ?_)
    exact L21 fu hf hw (lv_sub hl [3, 2, 1, 0] rfl)
  · replace hf := tx_pos hf h_2
    refine lv_iconst (v := -1) hx hb dX12_first_12 (by decide) ?_
    obtain ⟨e0, e1⟩ := tx_in2 hf
    rw [← e0, ← e1]
    exact tx_iret S hr hlk hw dX12_first_13
def f_X12_farthing_J19 (fu : Nat) (v_T : S64) (K19 : S32 → Int32 → Int32 → Option (Int32 × S32)) (u_T : S32) (w1 : Int32) (w2 : Int32) : Option (Int32 × S32) := if (100 : Int32) ≤ (w1 * w2) then (some (w2, u_T)) else (tx_let (w2 + (1 : Int32)) fun (y_6 : Int32) => K19 u_T w1 y_6)
def f_X12_farthing_L19 (fu : Nat) (v_T : S64) : Nat → S32 → Int32 → Int32 → Option (Int32 × S32)
  | 0 => fun _ _ _ => none
  | n + 1 => f_X12_farthing_J19 fu v_T (f_X12_farthing_L19 fu v_T n)
def f_X12_farthing (fu : Nat) (v_T : S64) (u_T : S32) (x1 : Int32) : Option (Int32 × S32) := tx_let (up2 u_T 0 2 (0 : Int32)) fun (u_T_1 : S32) => tx_b1 (f_X12_isIn fu x1 (1 : Int32) (99 : Int32)) fun (r_3 : Int32) => if r_3 = (0 : Int32) then (some ((-1 : Int32), u_T_1)) else (f_X12_farthing_L19 fu v_T fu u_T_1 x1 (1 : Int32))
set_option maxHeartbeats 4000000 in
set_option maxRecDepth 100000 in
theorem c_X12_farthing {l : Launch} {g : GG} {A : Nat → Prop} {X : va_W} {fu : Nat} {a_T : Nat → Nat} {u_T : S32} {v_T : S64} {x1 : Int32} {r : Int32} {zu_T : S32} (hf : f_X12_farthing fu v_T u_T x1 = some (r, zu_T)) : MI l yX12_farthing cX12_farthing 3 (some .int) 1 g A (cl_X12 g a_T u_T v_T ++ X) [.ref (a_T 0), .int x1] r (cl_X12 g a_T zu_T v_T ++ X) := by
  refine tx_start (av := [.ref (a_T 0), .int x1]) (by decide) (Nat.le_of_ble_eq_true rfl) ?_
  intro p e s m below meth c ls S hr hlk hE hw hl
  have S : CallFix p m c cX12_farthing 3 s (List.toArray [.ref (a_T 0), .int x1]) (Cond.code yX12_farthing cX12_farthing 3 (some .int) :: allW) RX12 := S
  have hx := S.1
  have hb := S.2.1
  have hown := S.2.2.2.1
  have hts : ∀ w ∈ allW, w.before (List.toArray [.ref (a_T 0), .int x1]) s = true := fun w h => S.2.2.2.2 w (List.mem_cons_of_mem _ h)
  have hl : lv_has ls 3 [(0, .ref (a_T 0)), (1, .int x1)] := hl
  have J19 : ∀ {K19 : S32 → Int32 → Int32 → Option (Int32 × S32)} (hK19 : ∀ {u_T : S32} {w1 : Int32} {w2 : Int32} {H : Heap} {locs : List Loc} {ls : Array Slot}, K19 u_T w1 w2 = some (r, zu_T) → WD g A s.heap (cl_X12 g a_T u_T v_T ++ X) H locs → lv_has ls 3 [(1, .int w1), (2, .int w2)] → W p l e (rmH 1) s m (List.toArray [.ref (a_T 0), .int x1]) below meth c H locs 0 0 (MQ below (va_Qi (fun r2 (_ : Unit) => r2 = r) (fun _ t => POST g A (cl_X12 g a_T zu_T v_T ++ X) t) A) (List.toArray [.ref (a_T 0), .int x1]) s 0 0 A) (F0 m 19 ls [])), ∀ {u_T : S32} {w1 : Int32} {w2 : Int32} {H : Heap} {locs : List Loc} {ls : Array Slot}, f_X12_farthing_J19 fu v_T K19 u_T w1 w2 = some (r, zu_T) → WD g A s.heap (cl_X12 g a_T u_T v_T ++ X) H locs → lv_has ls 3 [(1, .int w1), (2, .int w2)] → W p l e (rmH 1) s m (List.toArray [.ref (a_T 0), .int x1]) below meth c H locs 0 0 (MQ below (va_Qi (fun r2 (_ : Unit) => r2 = r) (fun _ t => POST g A (cl_X12 g a_T zu_T v_T ++ X) t) A) (List.toArray [.ref (a_T 0), .int x1]) s 0 0 A) (F0 m 19 ls []) := by
    intro K19 hK19 u_T w1 w2 H locs ls hf hw hl
    unfold f_X12_farthing_J19 at hf
    refine lv_iload_n hx hb dX12_farthing_19 rfl (lv_at hl 0 rfl) ?_
    refine lv_iload_n hx hb dX12_farthing_20 rfl (lv_at hl 1 rfl) ?_
    refine lv_imul hx hb dX12_farthing_21 ?_
    refine lv_bipush (v := 100) hx hb dX12_farthing_22 (by decide) ?_
    refine lv_icmp_ge (tgt := 33) hx hb dX12_farthing_24 (by decide) (fun h_5 => ?_) (fun h_5 => ?_)
    · replace hf := tx_pos hf h_5
      refine lv_iload_n hx hb dX12_farthing_33 rfl (lv_at hl 1 rfl) ?_
      obtain ⟨e0, e1⟩ := tx_in2 hf
      rw [← e0, ← e1]
      exact tx_iret S hr hlk hw dX12_farthing_34
    · replace hf := tx_neg hf h_5
      obtain ⟨y_6, ey_6⟩ : ∃ y : Int32, y = w2 + (1 : Int32) := ⟨_, rfl⟩
      replace hf := tx_let_e hf ey_6
      refine lv_iinc (v := y_6) (lv' := [(2, .int y_6), (1, .int w1)]) hx hb dX12_farthing_27 hl (k := 1) rfl (by rw [ey_6]; rfl) (by decide) rfl (fun ls hl => ?_)
      refine lv_goto (tgt := 19) hx hb dX12_farthing_30 (by decide) ?_
      exact hK19 hf hw (lv_sub hl [1, 0] rfl)
  have L19 : ∀ (n : Nat), ∀ {u_T : S32} {w1 : Int32} {w2 : Int32} {H : Heap} {locs : List Loc} {ls : Array Slot}, f_X12_farthing_L19 fu v_T n u_T w1 w2 = some (r, zu_T) → WD g A s.heap (cl_X12 g a_T u_T v_T ++ X) H locs → lv_has ls 3 [(1, .int w1), (2, .int w2)] → W p l e (rmH 1) s m (List.toArray [.ref (a_T 0), .int x1]) below meth c H locs 0 0 (MQ below (va_Qi (fun r2 (_ : Unit) => r2 = r) (fun _ t => POST g A (cl_X12 g a_T zu_T v_T ++ X) t) A) (List.toArray [.ref (a_T 0), .int x1]) s 0 0 A) (F0 m 19 ls []) := by
    intro  n
    induction n with
    | zero => intro u_T w1 w2 H locs ls hf; exact absurd hf (by intro q; cases q)
    | succ n ih => exact fun hf hw hl => J19 ih hf hw hl
  unfold f_X12_farthing at hf
  refine lv_aload_n hx hb dX12_farthing_0 rfl (lv_at hl 0 rfl) ?_
  refine lv_iconst (v := 0) hx hb dX12_farthing_1 (by decide) ?_
  obtain ⟨u_T_1, eu_T_1⟩ : ∃ z : S32, z = up2 u_T 0 2 (0 : Int32) := ⟨_, rfl⟩
  replace hf := tx_let_e hf eu_T_1
  refine pf_X12_145 (ws' := cl_X12 g a_T u_T_1 v_T ++ X) S hE hw rfl rfl 0 rfl (Nat.le_of_ble_eq_true rfl) (by rw [eu_T_1]; rfl) dX12_farthing_2 (fun H locs hw => ?_)
  refine lv_iload_n hx hb dX12_farthing_5 rfl (lv_at hl 1 rfl) ?_
  refine lv_iconst (v := 1) hx hb dX12_farthing_6 (by decide) ?_
  refine lv_bipush (v := 99) hx hb dX12_farthing_7 (by decide) ?_
  obtain ⟨r_3, h_2, hf⟩ := tx_b1_e hf
  refine tx_ci hw (tx_runS S hE hw (c_X12_isIn h_2) lk_X12_190 rfl hl.1 (rest := []) rfl (Nat.le_of_ble_eq_true rfl) ⟨by decide, by decide⟩ dX12_farthing_9 ⟨Nat.zero_le _, Nat.zero_le _⟩) (fun H locs hw => ?_)
  refine lv_if_ne (tgt := 17) hx hb dX12_farthing_12 (by decide) (fun h_4 => ?_) (fun h_4 => ?_)
  · replace hf := tx_neg hf h_4
    refine lv_iconst (v := 1) hx hb dX12_farthing_17 (by decide) ?_
    refine lv_istore_n (lv' := [(2, .int (1 : Int32)), (0, .ref (a_T 0)), (1, .int x1)]) hx hb dX12_farthing_18 rfl hl (by decide) rfl (fun ls hl => ?_)
    exact L19 fu hf hw (lv_sub hl [2, 0] rfl)
  · replace hf := tx_pos hf h_4
    refine lv_iconst (v := -1) hx hb dX12_farthing_15 (by decide) ?_
    obtain ⟨e0, e1⟩ := tx_in2 hf
    rw [← e0, ← e1]
    exact tx_iret S hr hlk hw dX12_farthing_16
def f_X12_whose_J87 (fu : Nat) (v_T : S64) (K31 : S32 → Int32 → Int32 → Int32 → Int32 → Option (Int32 × S32)) (u_T : S32) (w1 : Int32) (w2 : Int32) (w4 : Int32) (t0 : Int32) (t1 : Int32) : Option (Int32 × S32) := tx_let (t0 ||| t1) fun (y_16 : Int32) => tx_let (w4 + (1 : Int32)) fun (y_17 : Int32) => K31 u_T w1 w2 y_16 y_17
def f_X12_whose_J86 (fu : Nat) (v_T : S64) (K31 : S32 → Int32 → Int32 → Int32 → Int32 → Option (Int32 × S32)) (u_T : S32) (w1 : Int32) (w2 : Int32) (w4 : Int32) (t0 : Int32) : Option (Int32 × S32) := f_X12_whose_J87 fu v_T K31 u_T w1 w2 w4 t0 (0 : Int32)
def f_X12_whose_J31 (fu : Nat) (v_T : S64) (K31 : S32 → Int32 → Int32 → Int32 → Int32 → Option (Int32 × S32)) (u_T : S32) (w1 : Int32) (w2 : Int32) (w3 : Int32) (w4 : Int32) : Option (Int32 × S32) := if (u_T 0 13) ≤ w4 then (some (w3, u_T)) else (tx_ck w4 24 <| if (u_T 50 w4.toNatClampNeg) = (1 : Int32) then (tx_ck w4 24 <| if (u_T 27 w4.toNatClampNeg) = w1 then (tx_ck w4 24 <| if (u_T 29 w4.toNatClampNeg) = w2 then (tx_ck w4 24 <| f_X12_whose_J87 fu v_T K31 u_T w1 w2 w4 w3 ((1 : Int32) <<< ((u_T 51 w4.toNatClampNeg) &&& 31))) else (f_X12_whose_J86 fu v_T K31 u_T w1 w2 w4 w3)) else (f_X12_whose_J86 fu v_T K31 u_T w1 w2 w4 w3)) else (f_X12_whose_J86 fu v_T K31 u_T w1 w2 w4 w3))
def f_X12_whose_L31 (fu : Nat) (v_T : S64) : Nat → S32 → Int32 → Int32 → Int32 → Int32 → Option (Int32 × S32)
  | 0 => fun _ _ _ _ _ => none
  | n + 1 => f_X12_whose_J31 fu v_T (f_X12_whose_L31 fu v_T n)
def f_X12_whose (fu : Nat) (v_T : S64) (u_T : S32) (x1 : Int32) (x2 : Int32) : Option (Int32 × S32) := tx_let (up2 u_T 0 2 (0 : Int32)) fun (u_T_1 : S32) => tx_b1 (f_X12_isIn fu x1 (1 : Int32) (99 : Int32)) fun (r_3 : Int32) => if r_3 = (0 : Int32) then (some ((-1 : Int32), u_T_1)) else (tx_b1 (f_X12_isIn fu x2 (0 : Int32) (3 : Int32)) fun (r_6 : Int32) => if r_6 = (0 : Int32) then (some ((-1 : Int32), u_T_1)) else (f_X12_whose_L31 fu v_T fu u_T_1 x1 x2 (0 : Int32) (0 : Int32)))
set_option maxHeartbeats 4000000 in
set_option maxRecDepth 100000 in
theorem c_X12_whose {l : Launch} {g : GG} {A : Nat → Prop} {X : va_W} {fu : Nat} {a_T : Nat → Nat} {u_T : S32} {v_T : S64} {x1 : Int32} {x2 : Int32} {r : Int32} {zu_T : S32} (hf : f_X12_whose fu v_T u_T x1 x2 = some (r, zu_T)) : MI l yX12_whose cX12_whose 5 (some .int) 1 g A (cl_X12 g a_T u_T v_T ++ X) [.ref (a_T 0), .int x1, .int x2] r (cl_X12 g a_T zu_T v_T ++ X) := by
  refine tx_start (av := [.ref (a_T 0), .int x1, .int x2]) (by decide) (Nat.le_of_ble_eq_true rfl) ?_
  intro p e s m below meth c ls S hr hlk hE hw hl
  have S : CallFix p m c cX12_whose 5 s (List.toArray [.ref (a_T 0), .int x1, .int x2]) (Cond.code yX12_whose cX12_whose 5 (some .int) :: allW) RX12 := S
  have hx := S.1
  have hb := S.2.1
  have hown := S.2.2.2.1
  have hts : ∀ w ∈ allW, w.before (List.toArray [.ref (a_T 0), .int x1, .int x2]) s = true := fun w h => S.2.2.2.2 w (List.mem_cons_of_mem _ h)
  have hl : lv_has ls 5 [(0, .ref (a_T 0)), (1, .int x1), (2, .int x2)] := hl
  have J87 : ∀ {K31 : S32 → Int32 → Int32 → Int32 → Int32 → Option (Int32 × S32)} (hK31 : ∀ {u_T : S32} {w1 : Int32} {w2 : Int32} {w3 : Int32} {w4 : Int32} {H : Heap} {locs : List Loc} {ls : Array Slot}, K31 u_T w1 w2 w3 w4 = some (r, zu_T) → WD g A s.heap (cl_X12 g a_T u_T v_T ++ X) H locs → lv_has ls 5 [(0, .ref (a_T 0)), (1, .int w1), (2, .int w2), (3, .int w3), (4, .int w4)] → W p l e (rmH 1) s m (List.toArray [.ref (a_T 0), .int x1, .int x2]) below meth c H locs 0 0 (MQ below (va_Qi (fun r2 (_ : Unit) => r2 = r) (fun _ t => POST g A (cl_X12 g a_T zu_T v_T ++ X) t) A) (List.toArray [.ref (a_T 0), .int x1, .int x2]) s 0 0 A) (F0 m 31 ls [])), ∀ {u_T : S32} {w1 : Int32} {w2 : Int32} {w4 : Int32} {t0 : Int32} {t1 : Int32} {H : Heap} {locs : List Loc} {ls : Array Slot}, f_X12_whose_J87 fu v_T K31 u_T w1 w2 w4 t0 t1 = some (r, zu_T) → WD g A s.heap (cl_X12 g a_T u_T v_T ++ X) H locs → lv_has ls 5 [(0, .ref (a_T 0)), (1, .int w1), (2, .int w2), (4, .int w4)] → W p l e (rmH 1) s m (List.toArray [.ref (a_T 0), .int x1, .int x2]) below meth c H locs 0 0 (MQ below (va_Qi (fun r2 (_ : Unit) => r2 = r) (fun _ t => POST g A (cl_X12 g a_T zu_T v_T ++ X) t) A) (List.toArray [.ref (a_T 0), .int x1, .int x2]) s 0 0 A) (F0 m 87 ls [.int t1, .int t0]) := by
    intro K31 hK31 u_T w1 w2 w4 t0 t1 H locs ls hf hw hl
    unfold f_X12_whose_J87 at hf
    refine lv_ior hx hb dX12_whose_87 ?_
    refine lv_topi (fun y_16 ey_16 => ?_)
    replace hf := tx_let_e hf ey_16
    refine lv_istore_n (lv' := [(3, .int y_16), (0, .ref (a_T 0)), (1, .int w1), (2, .int w2), (4, .int w4)]) hx hb dX12_whose_88 rfl hl (by decide) rfl (fun ls hl => ?_)
    obtain ⟨y_17, ey_17⟩ : ∃ y : Int32, y = w4 + (1 : Int32) := ⟨_, rfl⟩
    replace hf := tx_let_e hf ey_17
    refine lv_iinc (v := y_17) (lv' := [(4, .int y_17), (3, .int y_16), (0, .ref (a_T 0)), (1, .int w1), (2, .int w2)]) hx hb dX12_whose_89 hl (k := 4) rfl (by rw [ey_17]; rfl) (by decide) rfl (fun ls hl => ?_)
    refine lv_goto (tgt := 31) hx hb dX12_whose_92 (by decide) ?_
    exact hK31 hf hw (lv_sub hl [2, 3, 4, 1, 0] rfl)
  have J86 : ∀ {K31 : S32 → Int32 → Int32 → Int32 → Int32 → Option (Int32 × S32)} (hK31 : ∀ {u_T : S32} {w1 : Int32} {w2 : Int32} {w3 : Int32} {w4 : Int32} {H : Heap} {locs : List Loc} {ls : Array Slot}, K31 u_T w1 w2 w3 w4 = some (r, zu_T) → WD g A s.heap (cl_X12 g a_T u_T v_T ++ X) H locs → lv_has ls 5 [(0, .ref (a_T 0)), (1, .int w1), (2, .int w2), (3, .int w3), (4, .int w4)] → W p l e (rmH 1) s m (List.toArray [.ref (a_T 0), .int x1, .int x2]) below meth c H locs 0 0 (MQ below (va_Qi (fun r2 (_ : Unit) => r2 = r) (fun _ t => POST g A (cl_X12 g a_T zu_T v_T ++ X) t) A) (List.toArray [.ref (a_T 0), .int x1, .int x2]) s 0 0 A) (F0 m 31 ls [])), ∀ {u_T : S32} {w1 : Int32} {w2 : Int32} {w4 : Int32} {t0 : Int32} {H : Heap} {locs : List Loc} {ls : Array Slot}, f_X12_whose_J86 fu v_T K31 u_T w1 w2 w4 t0 = some (r, zu_T) → WD g A s.heap (cl_X12 g a_T u_T v_T ++ X) H locs → lv_has ls 5 [(0, .ref (a_T 0)), (1, .int w1), (2, .int w2), (4, .int w4)] → W p l e (rmH 1) s m (List.toArray [.ref (a_T 0), .int x1, .int x2]) below meth c H locs 0 0 (MQ below (va_Qi (fun r2 (_ : Unit) => r2 = r) (fun _ t => POST g A (cl_X12 g a_T zu_T v_T ++ X) t) A) (List.toArray [.ref (a_T 0), .int x1, .int x2]) s 0 0 A) (F0 m 86 ls [.int t0]) := by
    intro K31 hK31 u_T w1 w2 w4 t0 H locs ls hf hw hl
    unfold f_X12_whose_J86 at hf
    refine lv_iconst (v := 0) hx hb dX12_whose_86 (by decide) ?_
    exact J87 hK31 hf hw (lv_sub hl [0, 1, 2, 3] rfl)
  have J31 : ∀ {K31 : S32 → Int32 → Int32 → Int32 → Int32 → Option (Int32 × S32)} (hK31 : ∀ {u_T : S32} {w1 : Int32} {w2 : Int32} {w3 : Int32} {w4 : Int32} {H : Heap} {locs : List Loc} {ls : Array Slot}, K31 u_T w1 w2 w3 w4 = some (r, zu_T) → WD g A s.heap (cl_X12 g a_T u_T v_T ++ X) H locs → lv_has ls 5 [(0, .ref (a_T 0)), (1, .int w1), (2, .int w2), (3, .int w3), (4, .int w4)] → W p l e (rmH 1) s m (List.toArray [.ref (a_T 0), .int x1, .int x2]) below meth c H locs 0 0 (MQ below (va_Qi (fun r2 (_ : Unit) => r2 = r) (fun _ t => POST g A (cl_X12 g a_T zu_T v_T ++ X) t) A) (List.toArray [.ref (a_T 0), .int x1, .int x2]) s 0 0 A) (F0 m 31 ls [])), ∀ {u_T : S32} {w1 : Int32} {w2 : Int32} {w3 : Int32} {w4 : Int32} {H : Heap} {locs : List Loc} {ls : Array Slot}, f_X12_whose_J31 fu v_T K31 u_T w1 w2 w3 w4 = some (r, zu_T) → WD g A s.heap (cl_X12 g a_T u_T v_T ++ X) H locs → lv_has ls 5 [(0, .ref (a_T 0)), (1, .int w1), (2, .int w2), (3, .int w3), (4, .int w4)] → W p l e (rmH 1) s m (List.toArray [.ref (a_T 0), .int x1, .int x2]) below meth c H locs 0 0 (MQ below (va_Qi (fun r2 (_ : Unit) => r2 = r) (fun _ t => POST g A (cl_X12 g a_T zu_T v_T ++ X) t) A) (List.toArray [.ref (a_T 0), .int x1, .int x2]) s 0 0 A) (F0 m 31 ls []) := by
    intro K31 hK31 u_T w1 w2 w3 w4 H locs ls hf hw hl
    unfold f_X12_whose_J31 at hf
    refine lv_iload hx hb dX12_whose_31 (lv_at hl 4 rfl) ?_
    refine lv_aload_n hx hb dX12_whose_33 rfl (lv_at hl 0 rfl) ?_
    refine gf_X12_225 S hE hw 0 rfl rfl dX12_whose_34 ?_
    refine lv_icmp_ge (tgt := 95) hx hb dX12_whose_37 (by decide) (fun h_8 => ?_) (fun h_8 => ?_)
    · replace hf := tx_pos hf h_8
      refine lv_iload_n hx hb dX12_whose_95 rfl (lv_at hl 3 rfl) ?_
      obtain ⟨e0, e1⟩ := tx_in2 hf
      rw [← e0, ← e1]
      exact tx_iret S hr hlk hw dX12_whose_96
    · replace hf := tx_neg hf h_8
      refine lv_iload_n hx hb dX12_whose_40 rfl (lv_at hl 3 rfl) ?_
      refine lv_aload_n hx hb dX12_whose_41 rfl (lv_at hl 0 rfl) ?_
      refine gf_X12_88 S hE hw 0 rfl rfl dX12_whose_42 ?_
      refine lv_iload hx hb dX12_whose_45 (lv_at hl 4 rfl) ?_
      obtain ⟨h_9, hf⟩ := tx_ck_e hf
      refine tx_iald S hE hw 25 rfl h_9 dX12_whose_47 ?_
      refine lv_iconst (v := 1) hx hb dX12_whose_48 (by decide) ?_
      refine lv_icmp_ne (tgt := 86) hx hb dX12_whose_49 (by decide) (fun h_10 => ?_) (fun h_10 => ?_)
      · replace hf := tx_neg hf h_10
        exact J86 hK31 hf hw (lv_sub hl [0, 1, 2, 4] rfl)
      · replace hf := tx_pos hf h_10
        refine lv_aload_n hx hb dX12_whose_52 rfl (lv_at hl 0 rfl) ?_
        refine gf_X12_39 S hE hw 0 rfl rfl dX12_whose_53 ?_
        refine lv_iload hx hb dX12_whose_56 (lv_at hl 4 rfl) ?_
        obtain ⟨h_11, hf⟩ := tx_ck_e hf
        refine tx_iald S hE hw 9 rfl h_11 dX12_whose_58 ?_
        refine lv_iload_n hx hb dX12_whose_59 rfl (lv_at hl 1 rfl) ?_
        refine lv_icmp_ne (tgt := 86) hx hb dX12_whose_60 (by decide) (fun h_12 => ?_) (fun h_12 => ?_)
        · replace hf := tx_neg hf h_12
          exact J86 hK31 hf hw (lv_sub hl [0, 1, 2, 4] rfl)
        · replace hf := tx_pos hf h_12
          refine lv_aload_n hx hb dX12_whose_63 rfl (lv_at hl 0 rfl) ?_
          refine gf_X12_45 S hE hw 0 rfl rfl dX12_whose_64 ?_
          refine lv_iload hx hb dX12_whose_67 (lv_at hl 4 rfl) ?_
          obtain ⟨h_13, hf⟩ := tx_ck_e hf
          refine tx_iald S hE hw 11 rfl h_13 dX12_whose_69 ?_
          refine lv_iload_n hx hb dX12_whose_70 rfl (lv_at hl 2 rfl) ?_
          refine lv_icmp_ne (tgt := 86) hx hb dX12_whose_71 (by decide) (fun h_14 => ?_) (fun h_14 => ?_)
          · replace hf := tx_neg hf h_14
            exact J86 hK31 hf hw (lv_sub hl [0, 1, 2, 4] rfl)
          · replace hf := tx_pos hf h_14
            refine lv_iconst (v := 1) hx hb dX12_whose_74 (by decide) ?_
            refine lv_aload_n hx hb dX12_whose_75 rfl (lv_at hl 0 rfl) ?_
            refine gf_X12_91 S hE hw 0 rfl rfl dX12_whose_76 ?_
            refine lv_iload hx hb dX12_whose_79 (lv_at hl 4 rfl) ?_
            obtain ⟨h_15, hf⟩ := tx_ck_e hf
            refine tx_iald S hE hw 26 rfl h_15 dX12_whose_81 ?_
            refine lv_ishl hx hb dX12_whose_82 ?_
            refine lv_goto (tgt := 87) hx hb dX12_whose_83 (by decide) ?_
            exact J87 hK31 hf hw (lv_sub hl [0, 1, 2, 4] rfl)
  have L31 : ∀ (n : Nat), ∀ {u_T : S32} {w1 : Int32} {w2 : Int32} {w3 : Int32} {w4 : Int32} {H : Heap} {locs : List Loc} {ls : Array Slot}, f_X12_whose_L31 fu v_T n u_T w1 w2 w3 w4 = some (r, zu_T) → WD g A s.heap (cl_X12 g a_T u_T v_T ++ X) H locs → lv_has ls 5 [(0, .ref (a_T 0)), (1, .int w1), (2, .int w2), (3, .int w3), (4, .int w4)] → W p l e (rmH 1) s m (List.toArray [.ref (a_T 0), .int x1, .int x2]) below meth c H locs 0 0 (MQ below (va_Qi (fun r2 (_ : Unit) => r2 = r) (fun _ t => POST g A (cl_X12 g a_T zu_T v_T ++ X) t) A) (List.toArray [.ref (a_T 0), .int x1, .int x2]) s 0 0 A) (F0 m 31 ls []) := by
    intro  n
    induction n with
    | zero => intro u_T w1 w2 w3 w4 H locs ls hf; exact absurd hf (by intro q; cases q)
    | succ n ih => exact fun hf hw hl => J31 ih hf hw hl
  unfold f_X12_whose at hf
  refine lv_aload_n hx hb dX12_whose_0 rfl (lv_at hl 0 rfl) ?_
  refine lv_iconst (v := 0) hx hb dX12_whose_1 (by decide) ?_
  obtain ⟨u_T_1, eu_T_1⟩ : ∃ z : S32, z = up2 u_T 0 2 (0 : Int32) := ⟨_, rfl⟩
  replace hf := tx_let_e hf eu_T_1
  refine pf_X12_145 (ws' := cl_X12 g a_T u_T_1 v_T ++ X) S hE hw rfl rfl 0 rfl (Nat.le_of_ble_eq_true rfl) (by rw [eu_T_1]; rfl) dX12_whose_2 (fun H locs hw => ?_)
  refine lv_iload_n hx hb dX12_whose_5 rfl (lv_at hl 1 rfl) ?_
  refine lv_iconst (v := 1) hx hb dX12_whose_6 (by decide) ?_
  refine lv_bipush (v := 99) hx hb dX12_whose_7 (by decide) ?_
  obtain ⟨r_3, h_2, hf⟩ := tx_b1_e hf
  refine tx_ci hw (tx_runS S hE hw (c_X12_isIn h_2) lk_X12_190 rfl hl.1 (rest := []) rfl (Nat.le_of_ble_eq_true rfl) ⟨by decide, by decide⟩ dX12_whose_9 ⟨Nat.zero_le _, Nat.zero_le _⟩) (fun H locs hw => ?_)
  refine lv_if_eq (tgt := 24) hx hb dX12_whose_12 (by decide) (fun h_4 => ?_) (fun h_4 => ?_)
  · replace hf := tx_pos hf h_4
    refine lv_iconst (v := -1) hx hb dX12_whose_24 (by decide) ?_
    obtain ⟨e0, e1⟩ := tx_in2 hf
    rw [← e0, ← e1]
    exact tx_iret S hr hlk hw dX12_whose_25
  · replace hf := tx_neg hf h_4
    refine lv_iload_n hx hb dX12_whose_15 rfl (lv_at hl 2 rfl) ?_
    refine lv_iconst (v := 0) hx hb dX12_whose_16 (by decide) ?_
    refine lv_iconst (v := 3) hx hb dX12_whose_17 (by decide) ?_
    obtain ⟨r_6, h_5, hf⟩ := tx_b1_e hf
    refine tx_ci hw (tx_runS S hE hw (c_X12_isIn h_5) lk_X12_190 rfl hl.1 (rest := []) rfl (Nat.le_of_ble_eq_true rfl) ⟨by decide, by decide⟩ dX12_whose_18 ⟨Nat.zero_le _, Nat.zero_le _⟩) (fun H locs hw => ?_)
    refine lv_if_ne (tgt := 26) hx hb dX12_whose_21 (by decide) (fun h_7 => ?_) (fun h_7 => ?_)
    · replace hf := tx_neg hf h_7
      refine lv_iconst (v := 0) hx hb dX12_whose_26 (by decide) ?_
      refine lv_istore_n (lv' := [(3, .int (0 : Int32)), (0, .ref (a_T 0)), (1, .int x1), (2, .int x2)]) hx hb dX12_whose_27 rfl hl (by decide) rfl (fun ls hl => ?_)
      refine lv_iconst (v := 0) hx hb dX12_whose_28 (by decide) ?_
      refine lv_istore (lv' := [(4, .int (0 : Int32)), (3, .int (0 : Int32)), (0, .ref (a_T 0)), (1, .int x1), (2, .int x2)]) hx hb dX12_whose_29 hl (by decide) rfl (fun ls hl => ?_)
      exact L31 fu hf hw (lv_sub hl [2, 3, 4, 1, 0] rfl)
    · replace hf := tx_pos hf h_7
      refine lv_iconst (v := -1) hx hb dX12_whose_24 (by decide) ?_
      obtain ⟨e0, e1⟩ := tx_in2 hf
      rw [← e0, ← e1]
      exact tx_iret S hr hlk hw dX12_whose_25
