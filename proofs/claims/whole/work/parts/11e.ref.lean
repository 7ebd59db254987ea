def f_X12_times_J69 (fu : Nat) (v_T : S64) (u_T : S32) (w1 : Int64) (w3 : Int64) (t1 : Int32) : Option (Int64 × S32) := tx_bz t1 <| tx_let (up2 u_T 0 48 t1) fun (u_T_10 : S32) => if (u_T_10 0 48) = (0 : Int32) then (some (w1 * w3, u_T_10)) else (some ((0 : Int64), u_T_10))
def f_X12_times_J64 (fu : Nat) (v_T : S64) (u_T : S32) (w1 : Int64) (w3 : Int64) : Option (Int64 × S32) := f_X12_times_J69 fu v_T u_T w1 w3 (1 : Int32)
def f_X12_times_J49 (fu : Nat) (v_T : S64) (u_T : S32) (w1 : Int64) (w3 : Int64) (t0 : Int32) : Option (Int64 × S32) := if (u_T 0 48) = (0 : Int32) then (if t0 = (0 : Int32) then (f_X12_times_J69 fu v_T u_T w1 w3 (0 : Int32)) else (f_X12_times_J64 fu v_T u_T w1 w3)) else (f_X12_times_J64 fu v_T u_T w1 w3)
def f_X12_times_J48 (fu : Nat) (v_T : S64) (u_T : S32) (w1 : Int64) (w3 : Int64) : Option (Int64 × S32) := f_X12_times_J49 fu v_T u_T w1 w3 (0 : Int32)
def f_X12_times_J39 (fu : Nat) (v_T : S64) (u_T : S32) (w1 : Int64) (w3 : Int64) (t0 : Int64) (t1 : Int64) (t2 : Int64) : Option (Int64 × S32) := tx_nl t2 <| if (lg_cmp t0 (t1 / t2)) ≤ (0 : Int32) then (f_X12_times_J48 fu v_T u_T w1 w3) else (f_X12_times_J49 fu v_T u_T w1 w3 (1 : Int32))
def f_X12_times_J24 (fu : Nat) (v_T : S64) (u_T : S32) (w1 : Int64) (w3 : Int64) (t0 : Int64) : Option (Int64 × S32) := if (0 : Int32) ≤ (lg_cmp w1 (0 : Int64)) then (f_X12_times_J39 fu v_T u_T w1 w3 t0 (1000000000000 : Int64) w1) else (f_X12_times_J39 fu v_T u_T w1 w3 t0 (1000000000000 : Int64) (-w1))
def f_X12_times (fu : Nat) (v_T : S64) (u_T : S32) (x1 : Int64) (x3 : Int64) : Option (Int64 × S32) := if (lg_cmp x1 (0 : Int64)) = (0 : Int32) then (f_X12_times_J48 fu v_T u_T x1 x3) else (if (lg_cmp x3 (0 : Int64)) = (0 : Int32) then (f_X12_times_J48 fu v_T u_T x1 x3) else (if (0 : Int32) ≤ (lg_cmp x3 (0 : Int64)) then (f_X12_times_J24 fu v_T u_T x1 x3 x3) else (f_X12_times_J24 fu v_T u_T x1 x3 (-x3))))
set_option maxHeartbeats 4000000 in
set_option maxRecDepth 100000 in
theorem c_X12_times {l : Launch} {g : GG} {A : Nat → Prop} {X : va_W} {fu : Nat} {a_T : Nat → Nat} {u_T : S32} {v_T : S64} {x1 : Int64} {x3 : Int64} {r : Int64} {zu_T : S32} (hf : f_X12_times fu v_T u_T x1 x3 = some (r, zu_T)) : ML l yX12_times cX12_times 6 (some .long) 0 g A (cl_X12 g a_T u_T v_T ++ X) [.ref (a_T 0), .long x1, .long x3] r (cl_X12 g a_T zu_T v_T ++ X) := by
  refine tx_start (av := [.ref (a_T 0), .long x1, .long x3]) (by decide) (Nat.le_of_ble_eq_true rfl) ?_
  intro p e s m below meth c ls S hr hlk hE hw hl
  have S : CallFix p m c cX12_times 6 s (List.toArray [.ref (a_T 0), .long x1, .long x3]) (Cond.code yX12_times cX12_times 6 (some .long) :: allW) RX12 := S
  have hx := S.1
  have hb := S.2.1
  have hown := S.2.2.2.1
  have hts : ∀ w ∈ allW, w.before (List.toArray [.ref (a_T 0), .long x1, .long x3]) s = true := fun w h => S.2.2.2.2 w (List.mem_cons_of_mem _ h)
  have hl : lv_has ls 6 [(0, .ref (a_T 0)), (1, .long x1), (3, .long x3)] := hl
  have J69 : ∀ {u_T : S32} {w1 : Int64} {w3 : Int64} {t1 : Int32} {H : Heap} {locs : List Loc} {ls : Array Slot}, f_X12_times_J69 fu v_T u_T w1 w3 t1 = some (r, zu_T) → WD g A s.heap (cl_X12 g a_T u_T v_T ++ X) H locs → lv_has ls 6 [(0, .ref (a_T 0)), (1, .long w1), (3, .long w3)] → W p l e (rmH 0) s m (List.toArray [.ref (a_T 0), .long x1, .long x3]) below meth c H locs 0 0 (MQ below (va_Ql (fun r2 (_ : Unit) => r2 = r) (fun _ t => POST g A (cl_X12 g a_T zu_T v_T ++ X) t) A) (List.toArray [.ref (a_T 0), .long x1, .long x3]) s 0 0 A) (F0 m 69 ls [.int t1, .ref (a_T 0)]) := by
    intro u_T w1 w3 t1 H locs ls hf hw hl
    unfold f_X12_times_J69 at hf
    obtain ⟨h_9, hf⟩ := tx_bz_e hf
    obtain ⟨u_T_10, eu_T_10⟩ : ∃ z : S32, z = up2 u_T 0 48 t1 := ⟨_, rfl⟩
    replace hf := tx_let_e hf eu_T_10
    refine pf_X12_318 (ws' := cl_X12 g a_T u_T_10 v_T ++ X) S hE hw (tx_bz_n h_9) (tx_bz_f h_9) 0 rfl (Nat.le_of_ble_eq_true rfl) (by rw [eu_T_10]; rfl) dX12_times_69 (fun H locs hw => ?_)
    refine lv_aload_n hx hb dX12_times_72 rfl (lv_at hl 0 rfl) ?_
    refine gf_X12_318 S hE hw 0 rfl rfl dX12_times_73 ?_
    refine lv_if_eq (tgt := 83) hx hb dX12_times_76 (by decide) (fun h_11 => ?_) (fun h_11 => ?_)
    · replace hf := tx_pos hf h_11
      refine lv_lload_n hx hb dX12_times_83 rfl (lv_at hl 1 rfl) ?_
      refine lv_lload_n hx hb dX12_times_84 rfl (lv_at hl 2 rfl) ?_
      refine lv_lmul hx hb dX12_times_85 ?_
      obtain ⟨e0, e1⟩ := tx_in2 hf
      rw [← e0, ← e1]
      exact tx_lret S hr hlk hw dX12_times_86
    · replace hf := tx_neg hf h_11
      refine lv_lconst (v := 0) hx hb dX12_times_79 (by decide) ?_
      refine lv_goto (tgt := 86) hx hb dX12_times_80 (by decide) ?_
      obtain ⟨e0, e1⟩ := tx_in2 hf
      rw [← e0, ← e1]
      exact tx_lret S hr hlk hw dX12_times_86
  have J64 : ∀ {u_T : S32} {w1 : Int64} {w3 : Int64} {H : Heap} {locs : List Loc} {ls : Array Slot}, f_X12_times_J64 fu v_T u_T w1 w3 = some (r, zu_T) → WD g A s.heap (cl_X12 g a_T u_T v_T ++ X) H locs → lv_has ls 6 [(0, .ref (a_T 0)), (1, .long w1), (3, .long w3)] → W p l e (rmH 0) s m (List.toArray [.ref (a_T 0), .long x1, .long x3]) below meth c H locs 0 0 (MQ below (va_Ql (fun r2 (_ : Unit) => r2 = r) (fun _ t => POST g A (cl_X12 g a_T zu_T v_T ++ X) t) A) (List.toArray [.ref (a_T 0), .long x1, .long x3]) s 0 0 A) (F0 m 64 ls [.ref (a_T 0)]) := by
    intro u_T w1 w3 H locs ls hf hw hl
    unfold f_X12_times_J64 at hf
    refine lv_iconst (v := 1) hx hb dX12_times_64 (by decide) ?_
    refine lv_goto (tgt := 69) hx hb dX12_times_65 (by decide) ?_
    exact J69 hf hw (lv_sub hl [0, 1, 2] rfl)
  have J49 : ∀ {u_T : S32} {w1 : Int64} {w3 : Int64} {t0 : Int32} {H : Heap} {locs : List Loc} {ls : Array Slot}, f_X12_times_J49 fu v_T u_T w1 w3 t0 = some (r, zu_T) → WD g A s.heap (cl_X12 g a_T u_T v_T ++ X) H locs → lv_has ls 6 [(0, .ref (a_T 0)), (1, .long w1), (3, .long w3)] → W p l e (rmH 0) s m (List.toArray [.ref (a_T 0), .long x1, .long x3]) below meth c H locs 0 0 (MQ below (va_Ql (fun r2 (_ : Unit) => r2 = r) (fun _ t => POST g A (cl_X12 g a_T zu_T v_T ++ X) t) A) (List.toArray [.ref (a_T 0), .long x1, .long x3]) s 0 0 A) (F0 m 49 ls [.int t0]) := by
    intro u_T w1 w3 t0 H locs ls hf hw hl
    unfold f_X12_times_J49 at hf
    refine lv_istore (lv' := [(5, .int t0), (0, .ref (a_T 0)), (1, .long w1), (3, .long w3)]) hx hb dX12_times_49 hl (by decide) rfl (fun ls hl => ?_)
    refine lv_aload_n hx hb dX12_times_51 rfl (lv_at hl 1 rfl) ?_
    refine lv_aload_n hx hb dX12_times_52 rfl (lv_at hl 1 rfl) ?_
    refine gf_X12_318 S hE hw 0 rfl rfl dX12_times_53 ?_
    refine lv_if_ne (tgt := 64) hx hb dX12_times_56 (by decide) (fun h_7 => ?_) (fun h_7 => ?_)
    · replace hf := tx_neg hf h_7
      exact J64 hf hw (lv_sub hl [1, 2, 3] rfl)
    · replace hf := tx_pos hf h_7
      refine lv_iload hx hb dX12_times_59 (lv_at hl 0 rfl) ?_
      refine lv_if_eq (tgt := 68) hx hb dX12_times_61 (by decide) (fun h_8 => ?_) (fun h_8 => ?_)
      · replace hf := tx_pos hf h_8
        refine lv_iconst (v := 0) hx hb dX12_times_68 (by decide) ?_
        exact J69 hf hw (lv_sub hl [1, 2, 3] rfl)
      · replace hf := tx_neg hf h_8
        exact J64 hf hw (lv_sub hl [1, 2, 3] rfl)
  have J48 : ∀ {u_T : S32} {w1 : Int64} {w3 : Int64} {H : Heap} {locs : List Loc} {ls : Array Slot}, f_X12_times_J48 fu v_T u_T w1 w3 = some (r, zu_T) → WD g A s.heap (cl_X12 g a_T u_T v_T ++ X) H locs → lv_has ls 6 [(0, .ref (a_T 0)), (1, .long w1), (3, .long w3)] → W p l e (rmH 0) s m (List.toArray [.ref (a_T 0), .long x1, .long x3]) below meth c H locs 0 0 (MQ below (va_Ql (fun r2 (_ : Unit) => r2 = r) (fun _ t => POST g A (cl_X12 g a_T zu_T v_T ++ X) t) A) (List.toArray [.ref (a_T 0), .long x1, .long x3]) s 0 0 A) (F0 m 48 ls []) := by
    intro u_T w1 w3 H locs ls hf hw hl
    unfold f_X12_times_J48 at hf
    refine lv_iconst (v := 0) hx hb dX12_times_48 (by decide) ?_
    exact J49 hf hw (lv_sub hl [0, 1, 2] rfl)
  have J39 : ∀ {u_T : S32} {w1 : Int64} {w3 : Int64} {t0 : Int64} {t1 : Int64} {t2 : Int64} {H : Heap} {locs : List Loc} {ls : Array Slot}, f_X12_times_J39 fu v_T u_T w1 w3 t0 t1 t2 = some (r, zu_T) → WD g A s.heap (cl_X12 g a_T u_T v_T ++ X) H locs → lv_has ls 6 [(0, .ref (a_T 0)), (1, .long w1), (3, .long w3)] → W p l e (rmH 0) s m (List.toArray [.ref (a_T 0), .long x1, .long x3]) below meth c H locs 0 0 (MQ below (va_Ql (fun r2 (_ : Unit) => r2 = r) (fun _ t => POST g A (cl_X12 g a_T zu_T v_T ++ X) t) A) (List.toArray [.ref (a_T 0), .long x1, .long x3]) s 0 0 A) (F0 m 39 ls [.long t2, .long t1, .long t0]) := by
    intro u_T w1 w3 t0 t1 t2 H locs ls hf hw hl
    unfold f_X12_times_J39 at hf
    obtain ⟨h_5, hf⟩ := tx_nl_e hf
    refine lv_ldiv hx hb dX12_times_39 h_5 ?_
    refine W.lcmp hx hb dX12_times_40 ?_
    refine lv_if_le (tgt := 48) hx hb dX12_times_41 (by decide) (fun h_6 => ?_) (fun h_6 => ?_)
    · replace hf := tx_pos hf h_6
      exact J48 hf hw (lv_sub hl [0, 1, 2] rfl)
    · replace hf := tx_neg hf h_6
      refine lv_iconst (v := 1) hx hb dX12_times_44 (by decide) ?_
      refine lv_goto (tgt := 49) hx hb dX12_times_45 (by decide) ?_
      exact J49 hf hw (lv_sub hl [0, 1, 2] rfl)
  have J24 : ∀ {u_T : S32} {w1 : Int64} {w3 : Int64} {t0 : Int64} {H : Heap} {locs : List Loc} {ls : Array Slot}, f_X12_times_J24 fu v_T u_T w1 w3 t0 = some (r, zu_T) → WD g A s.heap (cl_X12 g a_T u_T v_T ++ X) H locs → lv_has ls 6 [(0, .ref (a_T 0)), (1, .long w1), (3, .long w3)] → W p l e (rmH 0) s m (List.toArray [.ref (a_T 0), .long x1, .long x3]) below meth c H locs 0 0 (MQ below (va_Ql (fun r2 (_ : Unit) => r2 = r) (fun _ t => POST g A (cl_X12 g a_T zu_T v_T ++ X) t) A) (List.toArray [.ref (a_T 0), .long x1, .long x3]) s 0 0 A) (F0 m 24 ls [.long t0]) := by
    intro u_T w1 w3 t0 H locs ls hf hw hl
    unfold f_X12_times_J24 at hf
    refine lv_ldc2 (v := 1000000000000) hx hb hown (hts _ kw_1786) dX12_times_24 ?_
    refine lv_lload_n hx hb dX12_times_27 rfl (lv_at hl 1 rfl) ?_
    refine lv_lconst (v := 0) hx hb dX12_times_28 (by decide) ?_
    refine W.lcmp hx hb dX12_times_29 ?_
    refine lv_if_ge (tgt := 38) hx hb dX12_times_30 (by decide) (fun h_4 => ?_) (fun h_4 => ?_)
    · replace hf := tx_pos hf h_4
      refine lv_lload_n hx hb dX12_times_38 rfl (lv_at hl 1 rfl) ?_
      exact J39 hf hw (lv_sub hl [0, 1, 2] rfl)
    · replace hf := tx_neg hf h_4
      refine lv_lload_n hx hb dX12_times_33 rfl (lv_at hl 1 rfl) ?_
      refine lv_lneg hx hb dX12_times_34 ?_
      refine lv_goto (tgt := 39) hx hb dX12_times_35 (by decide) ?_
      exact J39 hf hw (lv_sub hl [0, 1, 2] rfl)
  unfold f_X12_times at hf
  refine lv_lload_n hx hb dX12_times_0 rfl (lv_at hl 1 rfl) ?_
  refine lv_lconst (v := 0) hx hb dX12_times_1 (by decide) ?_
  refine W.lcmp hx hb dX12_times_2 ?_
  refine lv_if_eq (tgt := 48) hx hb dX12_times_3 (by decide) (fun h_1 => ?_) (fun h_1 => ?_)
  · replace hf := tx_pos hf h_1
    exact J48 hf hw (lv_sub hl [0, 1, 2] rfl)
  · replace hf := tx_neg hf h_1
    refine lv_lload_n hx hb dX12_times_6 rfl (lv_at hl 2 rfl) ?_
    refine lv_lconst (v := 0) hx hb dX12_times_7 (by decide) ?_
    refine W.lcmp hx hb dX12_times_8 ?_
    refine lv_if_eq (tgt := 48) hx hb dX12_times_9 (by decide) (fun h_2 => ?_) (fun h_2 => ?_)
    · replace hf := tx_pos hf h_2
      exact J48 hf hw (lv_sub hl [0, 1, 2] rfl)
    · replace hf := tx_neg hf h_2
      refine lv_lload_n hx hb dX12_times_12 rfl (lv_at hl 2 rfl) ?_
      refine lv_lconst (v := 0) hx hb dX12_times_13 (by decide) ?_
      refine W.lcmp hx hb dX12_times_14 ?_
      refine lv_if_ge (tgt := 23) hx hb dX12_times_15 (by decide) (fun h_3 => ?_) (fun h_3 => ?_)
      · replace hf := tx_pos hf h_3
        refine lv_lload_n hx hb dX12_times_23 rfl (lv_at hl 2 rfl) ?_
        exact J24 hf hw (lv_sub hl [0, 1, 2] rfl)
      · replace hf := tx_neg hf h_3
        refine lv_lload_n hx hb dX12_times_18 rfl (lv_at hl 2 rfl) ?_
        refine lv_lneg hx hb dX12_times_19 ?_
        refine lv_goto (tgt := 24) hx hb dX12_times_20 (by decide) ?_
        exact J24 hf hw (lv_sub hl [0, 1, 2] rfl)
def f_X12_valueOf_J188 (fu : Nat) (v_T : S64) (u_T : S32) : Option (Int64 × S32) := some ((1 : Int64), u_T)
def f_X12_valueOf_J259 (fu : Nat) (v_T : S64) (u_T : S32) (w1 : Int32) (w2 : Int64) (w4 : Int64) : Option (Int64 × S32) := tx_ck w1 128 <| tx_b1 (f_X12_compares fu (u_T 36 w1.toNatClampNeg) w2 w4) fun (r_51 : Int32) => if r_51 = (0 : Int32) then (some ((0 : Int64), u_T)) else (some ((1 : Int64), u_T))
def f_X12_valueOf_J240 (fu : Nat) (v_T : S64) (u_T : S32) (w2 : Int64) (w4 : Int64) (t1 : Int32) : Option (Int64 × S32) := tx_bz t1 <| tx_let (up2 u_T 0 48 t1) fun (u_T_46 : S32) => if (u_T_46 0 48) = (0 : Int32) then (tx_nl w4 <| some (w2 / w4, u_T_46)) else (some ((0 : Int64), u_T_46))
def f_X12_valueOf_J235 (fu : Nat) (v_T : S64) (u_T : S32) (w2 : Int64) (w4 : Int64) : Option (Int64 × S32) := f_X12_valueOf_J240 fu v_T u_T w2 w4 (1 : Int32)
def f_X12_valueOf (fu : Nat) (v_T : S64) (u_T : S32) (x1 : Int32) : Option (Int64 × S32) := tx_ck x1 128 <| if (u_T 36 x1.toNatClampNeg) = (0 : Int32) then (tx_ck x1 128 <| some ((u_T 37 x1.toNatClampNeg).toInt64, u_T)) else (tx_ck x1 128 <| if (u_T 36 x1.toNatClampNeg) = (1 : Int32) then (tx_ck x1 128 <| tx_ck (u_T 37 x1.toNatClampNeg) 7 <| some (v_T 47 (u_T 37 x1.toNatClampNeg).toNatClampNeg, u_T)) else (tx_ck x1 128 <| tx_ck (u_T 37 x1.toNatClampNeg) 64 <| tx_let (v_T 48 (u_T 37 x1.toNatClampNeg).toNatClampNeg) fun (y_7 : Int64) => tx_ck x1 128 <| if (u_T 36 x1.toNatClampNeg) = (2 : Int32) then (if (lg_cmp y_7 (0 : Int64)) = (0 : Int32) then (some ((1 : Int64), u_T)) else (some ((0 : Int64), u_T))) else (tx_ck x1 128 <| tx_ck (u_T 38 x1.toNatClampNeg) 64 <| tx_let (v_T 48 (u_T 38 x1.toNatClampNeg).toNatClampNeg) fun (y_12 : Int64) => tx_ck x1 128 <| if u_T 36 x1.toNatClampNeg = (3 : Int32) then (if (lg_cmp y_7 (0 : Int64)) = (0 : Int32) then (some ((0 : Int64), u_T)) else (if (lg_cmp y_12 (0 : Int64)) = (0 : Int32) then (some ((0 : Int64), u_T)) else (some ((1 : Int64), u_T)))) else if u_T 36 x1.toNatClampNeg = (4 : Int32) then (if (lg_cmp y_7 (0 : Int64)) = (0 : Int32) then (if (lg_cmp y_12 (0 : Int64)) = (0 : Int32) then (some ((0 : Int64), u_T)) else (f_X12_valueOf_J188 fu v_T u_T)) else (f_X12_valueOf_J188 fu v_T u_T)) else if u_T 36 x1.toNatClampNeg = (5 : Int32) then (f_X12_valueOf_J259 fu v_T u_T x1 y_7 y_12) else if u_T 36 x1.toNatClampNeg = (6 : Int32) then (f_X12_valueOf_J259 fu v_T u_T x1 y_7 y_12) else if u_T 36 x1.toNatClampNeg = (7 : Int32) then (f_X12_valueOf_J259 fu v_T u_T x1 y_7 y_12) else if u_T 36 x1.toNatClampNeg = (8 : Int32) then (f_X12_valueOf_J259 fu v_T u_T x1 y_7 y_12) else if u_T 36 x1.toNatClampNeg = (9 : Int32) then (f_X12_valueOf_J259 fu v_T u_T x1 y_7 y_12) else if u_T 36 x1.toNatClampNeg = (10 : Int32) then (f_X12_valueOf_J259 fu v_T u_T x1 y_7 y_12) else if u_T 36 x1.toNatClampNeg = (11 : Int32) then (tx_b2 (f_X12_bounded fu v_T u_T (y_7 + y_12)) fun (r_28 : Int64) (u_T_29 : S32) => some (r_28, u_T_29)) else if u_T 36 x1.toNatClampNeg = (12 : Int32) then (tx_b2 (f_X12_bounded fu v_T u_T (y_7 - y_12)) fun (r_32 : Int64) (u_T_33 : S32) => some (r_32, u_T_33)) else if u_T 36 x1.toNatClampNeg = (13 : Int32) then (tx_b2 (f_X12_times fu v_T u_T y_7 y_12) fun (r_36 : Int64) (u_T_37 : S32) => some (r_36, u_T_37)) else if u_T 36 x1.toNatClampNeg = (14 : Int32) then (if (u_T 0 48) = (0 : Int32) then (if (lg_cmp y_12 (0 : Int64)) = (0 : Int32) then (f_X12_valueOf_J235 fu v_T u_T y_7 y_12) else (f_X12_valueOf_J240 fu v_T u_T y_7 y_12 (0 : Int32))) else (f_X12_valueOf_J235 fu v_T u_T y_7 y_12)) else (f_X12_valueOf_J259 fu v_T u_T x1 y_7 y_12))))
set_option maxHeartbeats 4000000 in
set_option maxRecDepth 100000 in
theorem c_X12_valueOf {l : Launch} {g : GG} {A : Nat → Prop} {X : va_W} {fu : Nat} {a_T : Nat → Nat} {u_T : S32} {v_T : S64} {x1 : Int32} {r : Int64} {zu_T : S32} (hf : f_X12_valueOf fu v_T u_T x1 = some (r, zu_T)) : ML l yX12_valueOf cX12_valueOf 6 (some .long) 1 g A (cl_X12 g a_T u_T v_T ++ X) [.ref (a_T 0), .int x1] r (cl_X12 g a_T zu_T v_T ++ X) := by
  refine tx_start (av := [.ref (a_T 0), .int x1]) (by decide) (Nat.le_of_ble_eq_true rfl) ?_
  intro p e s m below meth c ls S hr hlk hE hw hl
  have S : CallFix p m c cX12_valueOf 6 s (List.toArray [.ref (a_T 0), .int x1]) (Cond.code yX12_valueOf cX12_valueOf 6 (some .long) :: allW) RX12 := S
  have hx := S.1
  have hb := S.2.1
  have hown := S.2.2.2.1
  have hts : ∀ w ∈ allW, w.before (List.toArray [.ref (a_T 0), .int x1]) s = true := fun w h => S.2.2.2.2 w (List.mem_cons_of_mem _ h)
  have hl : lv_has ls 6 [(0, .ref (a_T 0)), (1, .int x1)] := hl
  have J188 : ∀ {u_T : S32} {H : Heap} {locs : List Loc} {ls : Array Slot}, f_X12_valueOf_J188 fu v_T u_T = some (r, zu_T) → WD g A s.heap (cl_X12 g a_T u_T v_T ++ X) H locs → lv_has ls 6 [] → W p l e (rmH 1) s m (List.toArray [.ref (a_T 0), .int x1]) below meth c H locs 0 0 (MQ below (va_Ql (fun r2 (_ : Unit) => r2 = r) (fun _ t => POST g A (cl_X12 g a_T zu_T v_T ++ X) t) A) (List.toArray [.ref (a_T 0), .int x1]) s 0 0 A) (F0 m 188 ls []) := by
    intro u_T H locs ls hf hw hl
    unfold f_X12_valueOf_J188 at hf
    refine lv_lconst (v := 1) hx hb dX12_valueOf_188 (by decide) ?_
    refine lv_goto (tgt := 193) hx hb dX12_valueOf_189 (by decide) ?_
    obtain ⟨e0, e1⟩ := tx_in2 hf
    rw [← e0, ← e1]
    exact tx_lret S hr hlk hw dX12_valueOf_193
  have J259 : ∀ {u_T : S32} {w1 : Int32} {w2 : Int64} {w4 : Int64} {H : Heap} {locs : List Loc} {ls : Array Slot}, f_X12_valueOf_J259 fu v_T u_T w1 w2 w4 = some (r, zu_T) → WD g A s.heap (cl_X12 g a_T u_T v_T ++ X) H locs → lv_has ls 6 [(0, .ref (a_T 0)), (1, .int w1), (2, .long w2), (4, .long w4)] → W p l e (rmH 1) s m (List.toArray [.ref (a_T 0), .int x1]) below meth c H locs 0 0 (MQ below (va_Ql (fun r2 (_ : Unit) => r2 = r) (fun _ t => POST g A (cl_X12 g a_T zu_T v_T ++ X) t) A) (List.toArray [.ref (a_T 0), .int x1]) s 0 0 A) (F0 m 259 ls []) := by
    intro u_T w1 w2 w4 H locs ls hf hw hl
    unfold f_X12_valueOf_J259 at hf
    refine lv_aload_n hx hb dX12_valueOf_259 rfl (lv_at hl 0 rfl) ?_
    refine gf_X12_66 S hE hw 0 rfl rfl dX12_valueOf_260 ?_
    refine lv_iload_n hx hb dX12_valueOf_263 rfl (lv_at hl 1 rfl) ?_
    obtain ⟨h_49, hf⟩ := tx_ck_e hf
    refine tx_iald S hE hw 18 rfl h_49 dX12_valueOf_264 ?_
    refine lv_lload_n hx hb dX12_valueOf_265 rfl (lv_at hl 2 rfl) ?_
    refine lv_lload hx hb dX12_valueOf_266 (lv_at hl 3 rfl) ?_
    obtain ⟨r_51, h_50, hf⟩ := tx_b1_e hf
    refine tx_ci hw (tx_runS S hE hw (c_X12_compares h_50) lk_X12_333 rfl hl.1 (rest := []) rfl (Nat.le_of_ble_eq_true rfl) ⟨by decide, by decide⟩ dX12_valueOf_268 ⟨Nat.zero_le _, Nat.zero_le _⟩) (fun H locs hw => ?_)
    refine lv_if_eq (tgt := 278) hx hb dX12_valueOf_271 (by decide) (fun h_52 => ?_) (fun h_52 => ?_)
    · replace hf := tx_pos hf h_52
      refine lv_lconst (v := 0) hx hb dX12_valueOf_278 (by decide) ?_
      obtain ⟨e0, e1⟩ := tx_in2 hf
      rw [← e0, ← e1]
      exact tx_lret S hr hlk hw dX12_valueOf_279
    · replace hf := tx_neg hf h_52
      refine lv_lconst (v := 1) hx hb dX12_valueOf_274 (by decide) ?_
      refine lv_goto (tgt := 279) hx hb dX12_valueOf_275 (by decide) ?_
      obtain ⟨e0, e1⟩ := tx_in2 hf
      rw [← e0, ← e1]
      exact tx_lret S hr hlk hw dX12_valueOf_279
  have J240 : ∀ {u_T : S32} {w2 : Int64} {w4 : Int64} {t1 : Int32} {H : Heap} {locs : List Loc} {ls : Array Slot}, f_X12_valueOf_J240 fu v_T u_T w2 w4 t1 = some (r, zu_T) → WD g A s.heap (cl_X12 g a_T u_T v_T ++ X) H locs → lv_has ls 6 [(0, .ref (a_T 0)), (2, .long w2), (4, .long w4)] → W p l e (rmH 1) s m (List.toArray [.ref (a_T 0), .int x1]) below meth c H locs 0 0 (MQ below (va_Ql (fun r2 (_ : Unit) => r2 = r) (fun _ t => POST g A (cl_X12 g a_T zu_T v_T ++ X) t) A) (List.toArray [.ref (a_T 0), .int x1]) s 0 0 A) (F0 m 240 ls [.int t1, .ref (a_T 0)]) := by
    intro u_T w2 w4 t1 H locs ls hf hw hl
    unfold f_X12_valueOf_J240 at hf
    obtain ⟨h_45, hf⟩ := tx_bz_e hf
    obtain ⟨u_T_46, eu_T_46⟩ : ∃ z : S32, z = up2 u_T 0 48 t1 := ⟨_, rfl⟩
    replace hf := tx_let_e hf eu_T_46
    refine pf_X12_318 (ws' := cl_X12 g a_T u_T_46 v_T ++ X) S hE hw (tx_bz_n h_45) (tx_bz_f h_45) 0 rfl (Nat.le_of_ble_eq_true rfl) (by rw [eu_T_46]; rfl) dX12_valueOf_240 (fun H locs hw => ?_)
    refine lv_aload_n hx hb dX12_valueOf_243 rfl (lv_at hl 0 rfl) ?_
    refine gf_X12_318 S hE hw 0 rfl rfl dX12_valueOf_244 ?_
    refine lv_if_eq (tgt := 254) hx hb dX12_valueOf_247 (by decide) (fun h_47 => ?_) (fun h_47 => ?_)
    · replace hf := tx_pos hf h_47
      refine lv_lload_n hx hb dX12_valueOf_254 rfl (lv_at hl 1 rfl) ?_
      refine lv_lload hx hb dX12_valueOf_255 (lv_at hl 2 rfl) ?_
      obtain ⟨h_48, hf⟩ := tx_nl_e hf
      refine lv_ldiv hx hb dX12_valueOf_257 h_48 ?_
      obtain ⟨e0, e1⟩ := tx_in2 hf
      rw [← e0, ← e1]
      exact tx_lret S hr hlk hw dX12_valueOf_258
    · replace hf := tx_neg hf h_47
      refine lv_lconst (v := 0) hx hb dX12_valueOf_250 (by decide) ?_
      refine lv_goto (tgt := 258) hx hb dX12_valueOf_251 (by decide) ?_
      obtain ⟨e0, e1⟩ := tx_in2 hf
      rw [← e0, ← e1]
      exact tx_lret S hr hlk hw dX12_valueOf_258
  have J235 : ∀ {u_T : S32} {w2 : Int64} {w4 : Int64} {H : Heap} {locs : List Loc} {ls : Array Slot}, f_X12_valueOf_J235 fu v_T u_T w2 w4 = some (r, zu_T) → WD g A s.heap (cl_X12 g a_T u_T v_T ++ X) H locs → lv_has ls 6 [(0, .ref (a_T 0)), (2, .long w2), (4, .long w4)] → W p l e (rmH 1) s m (List.toArray [.ref (a_T 0), .int x1]) below meth c H locs 0 0 (MQ below (va_Ql (fun r2 (_ : Unit) => r2 = r) (fun _ t => POST g A (cl_X12 g a_T zu_T v_T ++ X) t) A) (List.toArray [.ref (a_T 0), .int x1]) s 0 0 A) (F0 m 235 ls [.ref (a_T 0)]) := by
    intro u_T w2 w4 H locs ls hf hw hl
    unfold f_X12_valueOf_J235 at hf
    refine lv_iconst (v := 1) hx hb dX12_valueOf_235 (by decide) ?_
    refine lv_goto (tgt := 240) hx hb dX12_valueOf_236 (by decide) ?_
    exact J240 hf hw (lv_sub hl [0, 1, 2] rfl)
  unfold f_X12_valueOf at hf
  refine lv_aload_n hx hb dX12_valueOf_0 rfl (lv_at hl 0 rfl) ?_
  refine gf_X12_66 S hE hw 0 rfl rfl dX12_valueOf_1 ?_
  refine lv_iload_n hx hb dX12_valueOf_4 rfl (lv_at hl 1 rfl) ?_
  obtain ⟨h_1, hf⟩ := tx_ck_e hf
  refine tx_iald S hE hw 18 rfl h_1 dX12_valueOf_5 ?_
  refine lv_if_ne (tgt := 17) hx hb dX12_valueOf_6 (by decide) (fun h_2 => ?_) (fun h_2 => ?_)
  · replace hf := tx_neg hf h_2
    refine lv_aload_n hx hb dX12_valueOf_17 rfl (lv_at hl 0 rfl) ?_
    refine gf_X12_66 S hE hw 0 rfl rfl dX12_valueOf_18 ?_
    refine lv_iload_n hx hb dX12_valueOf_21 rfl (lv_at hl 1 rfl) ?_
    obtain ⟨h_3, hf⟩ := tx_ck_e hf
    refine tx_iald S hE hw 18 rfl h_3 dX12_valueOf_22 ?_
    refine lv_iconst (v := 1) hx hb dX12_valueOf_23 (by decide) ?_
    refine lv_icmp_ne (tgt := 39) hx hb dX12_valueOf_24 (by decide) (fun h_4 => ?_) (fun h_4 => ?_)
    · replace hf := tx_neg hf h_4
      refine lv_aload_n hx hb dX12_valueOf_39 rfl (lv_at hl 0 rfl) ?_
      refine gf_X12_85 S hE hw 0 rfl rfl dX12_valueOf_40 ?_
      refine lv_aload_n hx hb dX12_valueOf_43 rfl (lv_at hl 0 rfl) ?_
      refine gf_X12_69 S hE hw 0 rfl rfl dX12_valueOf_44 ?_
      refine lv_iload_n hx hb dX12_valueOf_47 rfl (lv_at hl 1 rfl) ?_
      obtain ⟨h_5, hf⟩ := tx_ck_e hf
      refine tx_iald S hE hw 19 rfl h_5 dX12_valueOf_48 ?_
      obtain ⟨h_6, hf⟩ := tx_ck_e hf
      refine tx_lald S hE hw 24 rfl h_6 dX12_valueOf_49 ?_
      refine lv_topl (fun y_7 ey_7 => ?_)
      replace hf := tx_let_e hf ey_7
      refine lv_lstore_n (lv' := [(2, .long y_7), (0, .ref (a_T 0)), (1, .int x1)]) hx hb dX12_valueOf_50 rfl hl (by decide) rfl (fun ls hl => ?_)
      refine lv_aload_n hx hb dX12_valueOf_51 rfl (lv_at hl 1 rfl) ?_
      refine gf_X12_66 S hE hw 0 rfl rfl dX12_valueOf_52 ?_
      refine lv_iload_n hx hb dX12_valueOf_55 rfl (lv_at hl 2 rfl) ?_
      obtain ⟨h_8, hf⟩ := tx_ck_e hf
      refine tx_iald S hE hw 18 rfl h_8 dX12_valueOf_56 ?_
      refine lv_iconst (v := 2) hx hb dX12_valueOf_57 (by decide) ?_
      refine lv_icmp_ne (tgt := 73) hx hb dX12_valueOf_58 (by decide) (fun h_9 => ?_) (fun h_9 => ?_)
      · replace hf := tx_neg hf h_9
        refine lv_aload_n hx hb dX12_valueOf_73 rfl (lv_at hl 1 rfl) ?_
        refine gf_X12_85 S hE hw 0 rfl rfl dX12_valueOf_74 ?_
        refine lv_aload_n hx hb dX12_valueOf_77 rfl (lv_at hl 1 rfl) ?_
        refine gf_X12_72 S hE hw 0 rfl rfl dX12_valueOf_78 ?_
        refine lv_iload_n hx hb dX12_valueOf_81 rfl (lv_at hl 2 rfl) ?_
        obtain ⟨h_10, hf⟩ := tx_ck_e hf
        refine tx_iald S hE hw 20 rfl h_10 dX12_valueOf_82 ?_
        obtain ⟨h_11, hf⟩ := tx_ck_e hf
        refine tx_lald S hE hw 24 rfl h_11 dX12_valueOf_83 ?_
        refine lv_topl (fun y_12 ey_12 => ?_)
        replace hf := tx_let_e hf ey_12
        refine lv_lstore (lv' := [(4, .long y_12), (2, .long y_7), (0, .ref (a_T 0)), (1, .int x1)]) hx hb dX12_valueOf_84 hl (by decide) rfl (fun ls hl => ?_)
        refine lv_aload_n hx hb dX12_valueOf_86 rfl (lv_at hl 2 rfl) ?_
        refine gf_X12_66 S hE hw 0 rfl rfl dX12_valueOf_87 ?_
        refine lv_iload_n hx hb dX12_valueOf_90 rfl (lv_at hl 3 rfl) ?_
        obtain ⟨h_13, hf⟩ := tx_ck_e hf
        refine tx_iald S hE hw 18 rfl h_13 dX12_valueOf_91 ?_
        by_cases h_14 : u_T 36 x1.toNatClampNeg = (3 : Int32)
        · replace hf := tx_pos hf h_14
          refine lv_tableIn (off := 64) (tgt := 156) hx hb dX12_valueOf_92 (by rw [h_14]; decide) (by rw [h_14]; decide) (by rw [h_14]; rfl) (by decide) ?_
          refine lv_lload_n hx hb dX12_valueOf_156 rfl (lv_at hl 1 rfl) ?_
          refine lv_lconst (v := 0) hx hb dX12_valueOf_157 (by decide) ?_
          refine W.lcmp hx hb dX12_valueOf_158 ?_
          refine lv_if_eq (tgt := 173) hx hb dX12_valueOf_159 (by decide) (fun h_15 => ?_) (fun h_15 => ?_)
          · replace hf := tx_pos hf h_15
            refine lv_lconst (v := 0) hx hb dX12_valueOf_173 (by decide) ?_
            obtain ⟨e0, e1⟩ := tx_in2 hf
            rw [← e0, ← e1]
            exact tx_lret S hr hlk hw dX12_valueOf_174
          · replace hf := tx_neg hf h_15
            refine lv_lload hx hb dX12_valueOf_162 (lv_at hl 0 rfl) ?_
            refine lv_lconst (v := 0) hx hb dX12_valueOf_164 (by decide) ?_
            refine W.lcmp hx hb dX12_valueOf_165 ?_
            refine lv_if_eq (tgt := 173) hx hb dX12_valueOf_166 (by decide) (fun h_16 => ?_) (fun h_16 => ?_)
            · replace hf := tx_pos hf h_16
              refine lv_lconst (v := 0) hx hb dX12_valueOf_173 (by decide) ?_
              obtain ⟨e0, e1⟩ := tx_in2 hf
              rw [← e0, ← e1]
              exact tx_lret S hr hlk hw dX12_valueOf_174
            · replace hf := tx_neg hf h_16
              refine lv_lconst (v := 1) hx hb dX12_valueOf_169 (by decide) ?_
              refine lv_goto (tgt := 174) hx hb dX12_valueOf_170 (by decide) ?_
              obtain ⟨e0, e1⟩ := tx_in2 hf
              rw [← e0, ← e1]
              exact tx_lret S hr hlk hw dX12_valueOf_174
        replace hf := tx_neg hf h_14
        by_cases h_17 : u_T 36 x1.toNatClampNeg = (4 : Int32)
        · replace hf := tx_pos hf h_17
          refine lv_tableIn (off := 83) (tgt := 175) hx hb dX12_valueOf_92 (by rw [h_17]; decide) (by rw [h_17]; decide) (by rw [h_17]; rfl) (by decide) ?_
          refine lv_lload_n hx hb dX12_valueOf_175 rfl (lv_at hl 1 rfl) ?_
          refine lv_lconst (v := 0) hx hb dX12_valueOf_176 (by decide) ?_
          refine W.lcmp hx hb dX12_valueOf_177 ?_
          refine lv_if_ne (tgt := 188) hx hb dX12_valueOf_178 (by decide) (fun h_18 => ?_) (fun h_18 => ?_)
          · replace hf := tx_neg hf h_18
            exact J188 hf hw (lv_sub hl [] rfl)
          · replace hf := tx_pos hf h_18
            refine lv_lload hx hb dX12_valueOf_181 (lv_at hl 0 rfl) ?_
            refine lv_lconst (v := 0) hx hb dX12_valueOf_183 (by decide) ?_
            refine W.lcmp hx hb dX12_valueOf_184 ?_
            refine lv_if_eq (tgt := 192) hx hb dX12_valueOf_185 (by decide) (fun h_19 => ?_) (fun h_19 => ?_)
            · replace hf := tx_pos hf h_19
              refine lv_lconst (v := 0) hx hb dX12_valueOf_192 (by decide) ?_
              obtain ⟨e0, e1⟩ := tx_in2 hf
              rw [← e0, ← e1]
              exact tx_lret S hr hlk hw dX12_valueOf_193
            · replace hf := tx_neg hf h_19
              exact J188 hf hw (lv_sub hl [] rfl)
        replace hf := tx_neg hf h_17
        by_cases h_20 : u_T 36 x1.toNatClampNeg = (5 : Int32)
        · replace hf := tx_pos hf h_20
          refine lv_tableIn (off := 167) (tgt := 259) hx hb dX12_valueOf_92 (by rw [h_20]; decide) (by rw [h_20]; decide) (by rw [h_20]; rfl) (by decide) ?_
          exact J259 hf hw (lv_sub hl [2, 3, 1, 0] rfl)
        replace hf := tx_neg hf h_20
        by_cases h_21 : u_T 36 x1.toNatClampNeg = (6 : Int32)
        · replace hf := tx_pos hf h_21
          refine lv_tableIn (off := 167) (tgt := 259) hx hb dX12_valueOf_92 (by rw [h_21]; decide) (by rw [h_21]; decide) (by rw [h_21]; rfl) (by decide) ?_
          exact J259 hf hw (lv_sub hl [2, 3, 1, 0] rfl)
        replace hf := tx_neg hf h_21
        by_cases h_22 : u_T 36 x1.toNatClampNeg = (7 : Int32)
        · replace hf := tx_pos hf h_22
          refine lv_tableIn (off := 167) (tgt := 259) hx hb dX12_valueOf_92 (by rw [h_22]; decide) (by rw [h_22]; decide) (by rw [h_22]; rfl) (by decide) ?_
          exact J259 hf hw (lv_sub hl [2, 3, 1, 0] rfl)
        replace hf := tx_neg hf h_22
        by_cases h_23 : u_T 36 x1.toNatClampNeg = (8 : Int32)
        · replace hf := tx_pos hf h_23
          refine lv_tableIn (off := 167) (tgt := 259) hx hb dX12_valueOf_92 (by rw [h_23]; decide) (by rw [h_23]; decide) (by rw [h_23]; rfl) (by decide) ?_
          exact J259 hf hw (lv_sub hl [2, 3, 1, 0] rfl)
        replace hf := tx_neg hf h_23
        by_cases h_24 : u_T 36 x1.toNatClampNeg = (9 : Int32)
        · replace hf := tx_pos hf h_24
          refine lv_tableIn (off := 167) (tgt := 259) hx hb dX12_valueOf_92 (by rw [h_24]; decide) (by rw [h_24]; decide) (by rw [h_24]; rfl) (by decide) ?_
          exact J259 hf hw (lv_sub hl [2, 3, 1, 0] rfl)
        replace hf := tx_neg hf h_24
        by_cases h_25 : u_T 36 x1.toNatClampNeg = (10 : Int32)
        · replace hf := tx_pos hf h_25
          refine lv_tableIn (off := 167) (tgt := 259) hx hb dX12_valueOf_92 (by rw [h_25]; decide) (by rw [h_25]; decide) (by rw [h_25]; rfl) (by decide) ?_
          exact J259 hf hw (lv_sub hl [2, 3, 1, 0] rfl)
        replace hf := tx_neg hf h_25
        by_cases h_26 : u_T 36 x1.toNatClampNeg = (11 : Int32)
        · replace hf := tx_pos hf h_26
          refine lv_tableIn (off := 102) (tgt := 194) hx hb dX12_valueOf_92 (by rw [h_26]; decide) (by rw [h_26]; decide) (by rw [h_26]; rfl) (by decide) ?_
          refine lv_aload_n hx hb dX12_valueOf_194 rfl (lv_at hl 2 rfl) ?_
          refine lv_lload_n hx hb dX12_valueOf_195 rfl (lv_at hl 1 rfl) ?_
          refine lv_lload hx hb dX12_valueOf_196 (lv_at hl 0 rfl) ?_
          refine lv_ladd hx hb dX12_valueOf_198 ?_
          obtain ⟨r_28, u_T_29, h_27, hf⟩ := tx_b2_e hf
          refine tx_cl hw (tx_runV S hE hw (c_X12_bounded h_27) lk_X12_325 (q0 := 0) rfl rfl rfl hl.1 (rest := []) rfl (Nat.le_of_ble_eq_true rfl) ⟨by decide, by decide⟩ dX12_valueOf_199 ⟨Nat.zero_le _, Nat.zero_le _⟩) (fun H locs hw => ?_)
          obtain ⟨e0, e1⟩ := tx_in2 hf
          rw [← e0, ← e1]
          exact tx_lret S hr hlk hw dX12_valueOf_202
        replace hf := tx_neg hf h_26
        by_cases h_30 : u_T 36 x1.toNatClampNeg = (12 : Int32)
        · replace hf := tx_pos hf h_30
          refine lv_tableIn (off := 111) (tgt := 203) hx hb dX12_valueOf_92 (by rw [h_30]; decide) (by rw [h_30]; decide) (by rw [h_30]; rfl) (by decide) ?_
          refine lv_aload_n hx hb dX12_valueOf_203 rfl (lv_at hl 2 rfl) ?_
          refine lv_lload_n hx hb dX12_valueOf_204 rfl (lv_at hl 1 rfl) ?_
          refine lv_lload hx hb dX12_valueOf_205 (lv_at hl 0 rfl) ?_
          refine lv_lsub hx hb dX12_valueOf_207 ?_
          obtain ⟨r_32, u_T_33, h_31, hf⟩ := tx_b2_e hf
          refine tx_cl hw (tx_runV S hE hw (c_X12_bounded h_31) lk_X12_325 (q0 := 0) rfl rfl rfl hl.1 (rest := []) rfl (Nat.le_of_ble_eq_true rfl) ⟨by decide, by decide⟩ dX12_valueOf_208 ⟨Nat.zero_le _, Nat.zero_le _⟩) (fun H locs hw => ?_)
          obtain ⟨e0, e1⟩ := tx_in2 hf
          rw [← e0, ← e1]
          exact tx_lret S hr hlk hw dX12_valueOf_211
        replace hf := tx_neg hf h_30
        by_cases h_34 : u_T 36 x1.toNatClampNeg = (13 : Int32)
        · replace hf := tx_pos hf h_34
          refine lv_tableIn (off := 120) (tgt := 212) hx hb dX12_valueOf_92 (by rw [h_34]; decide) (by rw [h_34]; decide) (by rw [h_34]; rfl) (by decide) ?_
          refine lv_aload_n hx hb dX12_valueOf_212 rfl (lv_at hl 2 rfl) ?_
          refine lv_lload_n hx hb dX12_valueOf_213 rfl (lv_at hl 1 rfl) ?_
          refine lv_lload hx hb dX12_valueOf_214 (lv_at hl 0 rfl) ?_
          obtain ⟨r_36, u_T_37, h_35, hf⟩ := tx_b2_e hf
          refine tx_cl hw (tx_runV S hE hw (c_X12_times h_35) lk_X12_329 (q0 := 0) rfl rfl rfl hl.1 (rest := []) rfl (Nat.le_of_ble_eq_true rfl) ⟨by decide, by decide⟩ dX12_valueOf_216 ⟨Nat.zero_le _, Nat.zero_le _⟩) (fun H locs hw => ?_)
          obtain ⟨e0, e1⟩ := tx_in2 hf
          rw [← e0, ← e1]
          exact tx_lret S hr hlk hw dX12_valueOf_219
        replace hf := tx_neg hf h_34
        by_cases h_38 : u_T 36 x1.toNatClampNeg = (14 : Int32)
        · replace hf := tx_pos hf h_38
          refine lv_tableIn (off := 128) (tgt := 220) hx hb dX12_valueOf_92 (by rw [h_38]; decide) (by rw [h_38]; decide) (by rw [h_38]; rfl) (by decide) ?_
          refine lv_aload_n hx hb dX12_valueOf_220 rfl (lv_at hl 2 rfl) ?_
          refine lv_aload_n hx hb dX12_valueOf_221 rfl (lv_at hl 2 rfl) ?_
          refine gf_X12_318 S hE hw 0 rfl rfl dX12_valueOf_222 ?_
          refine lv_if_ne (tgt := 235) hx hb dX12_valueOf_225 (by decide) (fun h_39 => ?_) (fun h_39 => ?_)
          · replace hf := tx_neg hf h_39
            exact J235 hf hw (lv_sub hl [2, 1, 0] rfl)
          · replace hf := tx_pos hf h_39
            refine lv_lload hx hb dX12_valueOf_228 (lv_at hl 0 rfl) ?_
            refine lv_lconst (v := 0) hx hb dX12_valueOf_230 (by decide) ?_
            refine W.lcmp hx hb dX12_valueOf_231 ?_
            refine lv_if_ne (tgt := 239) hx hb dX12_valueOf_232 (by decide) (fun h_40 => ?_) (fun h_40 => ?_)
            · replace hf := tx_neg hf h_40
              refine lv_iconst (v := 0) hx hb dX12_valueOf_239 (by decide) ?_
              exact J240 hf hw (lv_sub hl [2, 1, 0] rfl)
            · replace hf := tx_pos hf h_40
              exact J235 hf hw (lv_sub hl [2, 1, 0] rfl)
        replace hf := tx_neg hf h_38
        have eh_14 : (u_T 36 x1.toNatClampNeg).toInt ≠ 3 := tx_ne h_14
        have eh_17 : (u_T 36 x1.toNatClampNeg).toInt ≠ 4 := tx_ne h_17
        have eh_20 : (u_T 36 x1.toNatClampNeg).toInt ≠ 5 := tx_ne h_20
        have eh_21 : (u_T 36 x1.toNatClampNeg).toInt ≠ 6 := tx_ne h_21
        have eh_22 : (u_T 36 x1.toNatClampNeg).toInt ≠ 7 := tx_ne h_22
        have eh_23 : (u_T 36 x1.toNatClampNeg).toInt ≠ 8 := tx_ne h_23
        have eh_24 : (u_T 36 x1.toNatClampNeg).toInt ≠ 9 := tx_ne h_24
        have eh_25 : (u_T 36 x1.toNatClampNeg).toInt ≠ 10 := tx_ne h_25
        have eh_26 : (u_T 36 x1.toNatClampNeg).toInt ≠ 11 := tx_ne h_26
        have eh_30 : (u_T 36 x1.toNatClampNeg).toInt ≠ 12 := tx_ne h_30
        have eh_34 : (u_T 36 x1.toNatClampNeg).toInt ≠ 13 := tx_ne h_34
        have eh_38 : (u_T 36 x1.toNatClampNeg).toInt ≠ 14 := tx_ne h_38
        refine lv_tableOut (tgt := 259) hx hb dX12_valueOf_92 (by omega) (by decide) ?_
        exact J259 hf hw (lv_sub hl [2, 3, 1, 0] rfl)
      · replace hf := tx_pos hf h_9
        refine lv_lload_n hx hb dX12_valueOf_61 rfl (lv_at hl 0 rfl) ?_
        refine lv_lconst (v := 0) hx hb dX12_valueOf_62 (by decide) ?_
        refine W.lcmp hx hb dX12_valueOf_63 ?_
        refine lv_if_ne (tgt := 71) hx hb dX12_valueOf_64 (by decide) (fun h_41 => ?_) (fun h_41 => ?_)
        · replace hf := tx_neg hf h_41
          refine lv_lconst (v := 0) hx hb dX12_valueOf_71 (by decide) ?_
          obtain ⟨e0, e1⟩ := tx_in2 hf
          rw [← e0, ← e1]
          exact tx_lret S hr hlk hw dX12_valueOf_72
        · replace hf := tx_pos hf h_41
          refine lv_lconst (v := 1) hx hb dX12_valueOf_67 (by decide) ?_
          refine lv_goto (tgt := 72) hx hb dX12_valueOf_68 (by decide) ?_
          obtain ⟨e0, e1⟩ := tx_in2 hf
          rw [← e0, ← e1]
          exact tx_lret S hr hlk hw dX12_valueOf_72
    · replace hf := tx_pos hf h_4
      refine lv_aload_n hx hb dX12_valueOf_27 rfl (lv_at hl 0 rfl) ?_
      refine gf_X12_81 S hE hw 0 rfl rfl dX12_valueOf_28 ?_
      refine lv_aload_n hx hb dX12_valueOf_31 rfl (lv_at hl 0 rfl) ?_
      refine gf_X12_69 S hE hw 0 rfl rfl dX12_valueOf_32 ?_
      refine lv_iload_n hx hb dX12_valueOf_35 rfl (lv_at hl 1 rfl) ?_
      obtain ⟨h_42, hf⟩ := tx_ck_e hf
      refine tx_iald S hE hw 19 rfl h_42 dX12_valueOf_36 ?_
      obtain ⟨h_43, hf⟩ := tx_ck_e hf
      refine tx_lald S hE hw 23 rfl h_43 dX12_valueOf_37 ?_
      obtain ⟨e0, e1⟩ := tx_in2 hf
      rw [← e0, ← e1]
      exact tx_lret S hr hlk hw dX12_valueOf_38
  · replace hf := tx_pos hf h_2
    refine lv_aload_n hx hb dX12_valueOf_9 rfl (lv_at hl 0 rfl) ?_
    refine gf_X12_69 S hE hw 0 rfl rfl dX12_valueOf_10 ?_
    refine lv_iload_n hx hb dX12_valueOf_13 rfl (lv_at hl 1 rfl) ?_
    obtain ⟨h_44, hf⟩ := tx_ck_e hf
    refine tx_iald S hE hw 19 rfl h_44 dX12_valueOf_14 ?_
    refine lv_i2l (v := (u_T 37 x1.toNatClampNeg).toInt64) hx hb dX12_valueOf_15 rfl ?_
    obtain ⟨e0, e1⟩ := tx_in2 hf
    rw [← e0, ← e1]
    exact tx_lret S hr hlk hw dX12_valueOf_16
def f_X12_layTried_J61 (fu : Nat) (v_T : S64) (K61 : S32 → Int32 → Option (S32)) (u_T : S32) (w1 : Int32) : Option (S32) := if (6 : Int32) ≤ w1 then (tx_let (up2 u_T 58 (1 : Int32).toNatClampNeg (u_T 58 (0 : Int32).toNatClampNeg)) fun (u_T_13 : S32) => tx_let (up2 u_T_13 59 (1 : Int32).toNatClampNeg (u_T_13 59 (0 : Int32).toNatClampNeg)) fun (u_T_14 : S32) => tx_b1 (f_X12_plainTried fu v_T u_T_14) fun (u_T_16 : S32) => some u_T_16) else (tx_ck w1 12 <| tx_ck ((6 : Int32) + w1) 12 <| tx_let (up2 u_T 53 ((6 : Int32) + w1).toNatClampNeg (u_T 53 w1.toNatClampNeg)) fun (u_T_19 : S32) => tx_ck w1 12 <| tx_ck ((6 : Int32) + w1) 12 <| tx_let (up2 u_T_19 54 ((6 : Int32) + w1).toNatClampNeg (u_T_19 54 w1.toNatClampNeg)) fun (u_T_22 : S32) => tx_ck w1 12 <| tx_ck ((6 : Int32) + w1) 12 <| tx_let (up2 u_T_22 55 ((6 : Int32) + w1).toNatClampNeg (u_T_22 55 w1.toNatClampNeg)) fun (u_T_25 : S32) => tx_ck w1 12 <| tx_ck ((6 : Int32) + w1) 12 <| tx_let (up2 u_T_25 56 ((6 : Int32) + w1).toNatClampNeg (u_T_25 56 w1.toNatClampNeg)) fun (u_T_28 : S32) => tx_ck w1 12 <| tx_ck ((6 : Int32) + w1) 12 <| tx_let (up2 u_T_28 57 ((6 : Int32) + w1).toNatClampNeg (u_T_28 57 w1.toNatClampNeg)) fun (u_T_31 : S32) => tx_let (w1 + (1 : Int32)) fun (y_32 : Int32) => K61 u_T_31 y_32)
def f_X12_layTried_L61 (fu : Nat) (v_T : S64) : Nat → S32 → Int32 → Option (S32)
  | 0 => fun _ _ => none
  | n + 1 => f_X12_layTried_J61 fu v_T (f_X12_layTried_L61 fu v_T n)
def f_X12_layTried_J2 (fu : Nat) (v_T : S64) (K2 : S32 → Int32 → Option (S32)) (u_T : S32) (w1 : Int32) : Option (S32) := if (12 : Int32) ≤ w1 then (f_X12_layTried_L61 fu v_T fu u_T (0 : Int32)) else (tx_ck w1 24 <| tx_ck ((12 : Int32) + w1) 24 <| tx_let (up2 u_T 50 ((12 : Int32) + w1).toNatClampNeg (u_T 50 w1.toNatClampNeg)) fun (u_T_4 : S32) => tx_ck w1 24 <| tx_ck ((12 : Int32) + w1) 24 <| tx_let (up2 u_T_4 51 ((12 : Int32) + w1).toNatClampNeg (u_T_4 51 w1.toNatClampNeg)) fun (u_T_7 : S32) => tx_ck w1 24 <| tx_ck ((12 : Int32) + w1) 24 <| tx_let (up2 u_T_7 52 ((12 : Int32) + w1).toNatClampNeg ((u_T_7 52 w1.toNatClampNeg) &&& 1)) fun (u_T_10 : S32) => tx_let (w1 + (1 : Int32)) fun (y_11 : Int32) => K2 u_T_10 y_11)
def f_X12_layTried_L2 (fu : Nat) (v_T : S64) : Nat → S32 → Int32 → Option (S32)
  | 0 => fun _ _ => none
  | n + 1 => f_X12_layTried_J2 fu v_T (f_X12_layTried_L2 fu v_T n)
def f_X12_layTried (fu : Nat) (v_T : S64) (u_T : S32) : Option (S32) := f_X12_layTried_L2 fu v_T fu u_T (0 : Int32)
set_option maxHeartbeats 4000000 in
set_option maxRecDepth 100000 in
theorem c_X12_layTried {l : Launch} {g : GG} {A : Nat → Prop} {X : va_W} {fu : Nat} {a_T : Nat → Nat} {u_T : S32} {v_T : S64} {zu_T : S32} (hf : f_X12_layTried fu v_T u_T = some zu_T) : MV l yX12_layTried cX12_layTried 2 none 1 g A (cl_X12 g a_T u_T v_T ++ X) [.ref (a_T 0)] (cl_X12 g a_T zu_T v_T ++ X) := by
  refine tx_start (av := [.ref (a_T 0)]) (by decide) (Nat.le_of_ble_eq_true rfl) ?_
  intro p e s m below meth c ls S hr hlk hE hw hl
  have S : CallFix p m c cX12_layTried 2 s (List.toArray [.ref (a_T 0)]) (Cond.code yX12_layTried cX12_layTried 2 none :: allW) RX12 := S
  have hx := S.1
  have hb := S.2.1
  have hown := S.2.2.2.1
  have hts : ∀ w ∈ allW, w.before (List.toArray [.ref (a_T 0)]) s = true := fun w h => S.2.2.2.2 w (List.mem_cons_of_mem _ h)
  have hl : lv_has ls 2 [(0, .ref (a_T 0))] := hl
  have J61 : ∀ {K61 : S32 → Int32 → Option (S32)} (hK61 : ∀ {u_T : S32} {w1 : Int32} {H : Heap} {locs : List Loc} {ls : Array Slot}, K61 u_T w1 = some zu_T → WD g A s.heap (cl_X12 g a_T u_T v_T ++ X) H locs → lv_has ls 2 [(0, .ref (a_T 0)), (1, .int w1)] → W p l e (rmH 1) s m (List.toArray [.ref (a_T 0)]) below meth c H locs 0 0 (MQ below (va_Qv (fun (_ : Unit) => True) (fun _ t => POST g A (cl_X12 g a_T zu_T v_T ++ X) t) A) (List.toArray [.ref (a_T 0)]) s 0 0 A) (F0 m 61 ls [])), ∀ {u_T : S32} {w1 : Int32} {H : Heap} {locs : List Loc} {ls : Array Slot}, f_X12_layTried_J61 fu v_T K61 u_T w1 = some zu_T → WD g A s.heap (cl_X12 g a_T u_T v_T ++ X) H locs → lv_has ls 2 [(0, .ref (a_T 0)), (1, .int w1)] → W p l e (rmH 1) s m (List.toArray [.ref (a_T 0)]) below meth c H locs 0 0 (MQ below (va_Qv (fun (_ : Unit) => True) (fun _ t => POST g A (cl_X12 g a_T zu_T v_T ++ X) t) A) (List.toArray [.ref (a_T 0)]) s 0 0 A) (F0 m 61 ls []) := by
    intro K61 hK61 u_T w1 H locs ls hf hw hl
    unfold f_X12_layTried_J61 at hf
    refine lv_iload_n hx hb dX12_layTried_61 rfl (lv_at hl 1 rfl) ?_
    refine lv_bipush (v := 6) hx hb dX12_layTried_62 (by decide) ?_
    refine lv_icmp_ge (tgt := 148) hx hb dX12_layTried_64 (by decide) (fun h_12 => ?_) (fun h_12 => ?_)
    · replace hf := tx_pos hf h_12
      refine lv_aload_n hx hb dX12_layTried_148 rfl (lv_at hl 0 rfl) ?_
      refine gf_X12_112 S hE hw 0 rfl rfl dX12_layTried_149 ?_
      refine lv_iconst (v := 1) hx hb dX12_layTried_152 (by decide) ?_
      refine lv_aload_n hx hb dX12_layTried_153 rfl (lv_at hl 0 rfl) ?_
      refine gf_X12_112 S hE hw 0 rfl rfl dX12_layTried_154 ?_
      refine lv_iconst (v := 0) hx hb dX12_layTried_157 (by decide) ?_
      refine tx_iald S hE hw 33 rfl (by unfold vp_in; decide) dX12_layTried_158 ?_
      obtain ⟨u_T_13, eu_T_13⟩ : ∃ z : S32, z = up2 u_T 58 (1 : Int32).toNatClampNeg (u_T 58 (0 : Int32).toNatClampNeg) := ⟨_, rfl⟩
      replace hf := tx_let_e hf eu_T_13
      refine tx_iast (ws' := cl_X12 g a_T u_T_13 v_T ++ X) S hE hw 33 rfl (by unfold vp_in; decide) (by rw [eu_T_13]; rfl) dX12_layTried_159 (fun H locs hw => ?_)
      refine lv_aload_n hx hb dX12_layTried_160 rfl (lv_at hl 0 rfl) ?_
      refine gf_X12_115 S hE hw 0 rfl rfl dX12_layTried_161 ?_
      refine lv_iconst (v := 1) hx hb dX12_layTried_164 (by decide) ?_
      refine lv_aload_n hx hb dX12_layTried_165 rfl (lv_at hl 0 rfl) ?_
      refine gf_X12_115 S hE hw 0 rfl rfl dX12_layTried_166 ?_
      refine lv_iconst (v := 0) hx hb dX12_layTried_169 (by decide) ?_
      refine tx_iald S hE hw 34 rfl (by unfold vp_in; decide) dX12_layTried_170 ?_
      obtain ⟨u_T_14, eu_T_14⟩ : ∃ z : S32, z = up2 u_T_13 59 (1 : Int32).toNatClampNeg (u_T_13 59 (0 : Int32).toNatClampNeg) := ⟨_, rfl⟩
      replace hf := tx_let_e hf eu_T_14
      refine tx_iast (ws' := cl_X12 g a_T u_T_14 v_T ++ X) S hE hw 34 rfl (by unfold vp_in; decide) (by rw [eu_T_14]; rfl) dX12_layTried_171 (fun H locs hw => ?_)
      refine lv_aload_n hx hb dX12_layTried_172 rfl (lv_at hl 0 rfl) ?_
      obtain ⟨u_T_16, h_15, hf⟩ := tx_b1_e hf
      refine tx_cv hw (tx_runV S hE hw (c_X12_plainTried h_15) lk_X12_344 (q0 := 0) rfl rfl rfl hl.1 (rest := []) rfl (Nat.le_of_ble_eq_true rfl) ⟨by decide, by decide⟩ dX12_layTried_173 ⟨Nat.zero_le _, Nat.zero_le _⟩) (fun H locs hw => ?_)
      obtain e0 := tx_in1 hf
      rw [← e0]
      exact tx_vret S hr hlk hw dX12_layTried_176
    · replace hf := tx_neg hf h_12
      refine lv_aload_n hx hb dX12_layTried_67 rfl (lv_at hl 0 rfl) ?_
      refine gf_X12_97 S hE hw 0 rfl rfl dX12_layTried_68 ?_
      refine lv_bipush (v := 6) hx hb dX12_layTried_71 (by decide) ?_
      refine lv_iload_n hx hb dX12_layTried_73 rfl (lv_at hl 1 rfl) ?_
      refine lv_iadd hx hb dX12_layTried_74 ?_
      refine lv_aload_n hx hb dX12_layTried_75 rfl (lv_at hl 0 rfl) ?_
      refine gf_X12_97 S hE hw 0 rfl rfl dX12_layTried_76 ?_
      refine lv_iload_n hx hb dX12_layTried_79 rfl (lv_at hl 1 rfl) ?_
      obtain ⟨h_17, hf⟩ := tx_ck_e hf
      refine tx_iald S hE hw 28 rfl h_17 dX12_layTried_80 ?_
      obtain ⟨h_18, hf⟩ := tx_ck_e hf
      obtain ⟨u_T_19, eu_T_19⟩ : ∃ z : S32, z = up2 u_T 53 ((6 : Int32) + w1).toNatClampNeg (u_T 53 w1.toNatClampNeg) := ⟨_, rfl⟩
      replace hf := tx_let_e hf eu_T_19
      refine tx_iast (ws' := cl_X12 g a_T u_T_19 v_T ++ X) S hE hw 28 rfl h_18 (by rw [eu_T_19]; rfl) dX12_layTried_81 (fun H locs hw => ?_)
      refine lv_aload_n hx hb dX12_layTried_82 rfl (lv_at hl 0 rfl) ?_
      refine gf_X12_100 S hE hw 0 rfl rfl dX12_layTried_83 ?_
      refine lv_bipush (v := 6) hx hb dX12_layTried_86 (by decide) ?_
      refine lv_iload_n hx hb dX12_layTried_88 rfl (lv_at hl 1 rfl) ?_
      refine lv_iadd hx hb dX12_layTried_89 ?_
      refine lv_aload_n hx hb dX12_layTried_90 rfl (lv_at hl 0 rfl) ?_
      refine gf_X12_100 S hE hw 0 rfl rfl dX12_layTried_91 ?_
      refine lv_iload_n hx hb dX12_layTried_94 rfl (lv_at hl 1 rfl) ?_
      obtain ⟨h_20, hf⟩ := tx_ck_e hf
      refine tx_iald S hE hw 29 rfl h_20 dX12_layTried_95 ?_
      obtain ⟨h_21, hf⟩ := tx_ck_e hf
      obtain ⟨u_T_22, eu_T_22⟩ : ∃ z : S32, z = up2 u_T_19 54 ((6 : Int32) + w1).toNatClampNeg (u_T_19 54 w1.toNatClampNeg) := ⟨_, rfl⟩
      replace hf := tx_let_e hf eu_T_22
      refine tx_iast (ws' := cl_X12 g a_T u_T_22 v_T ++ X) S hE hw 29 rfl h_21 (by rw [eu_T_22]; rfl) dX12_layTried_96 (fun H locs hw => ?_)
      refine lv_aload_n hx hb dX12_layTried_97 rfl (lv_at hl 0 rfl) ?_
      refine gf_X12_103 S hE hw 0 rfl rfl dX12_layTried_98 ?_
      refine lv_bipush (v := 6) hx hb dX12_layTried_101 (by decide) ?_
      refine lv_iload_n hx hb dX12_layTried_103 rfl (lv_at hl 1 rfl) ?_
      refine lv_iadd hx hb dX12_layTried_104 ?_
      refine lv_aload_n hx hb dX12_layTried_105 rfl (lv_at hl 0 rfl) ?_
      refine gf_X12_103 S hE hw 0 rfl rfl dX12_layTried_106 ?_
      refine lv_iload_n hx hb dX12_layTried_109 rfl (lv_at hl 1 rfl) ?_
      obtain ⟨h_23, hf⟩ := tx_ck_e hf
      refine tx_iald S hE hw 30 rfl h_23 dX12_layTried_110 ?_
      obtain ⟨h_24, hf⟩ := tx_ck_e hf
      obtain ⟨u_T_25, eu_T_25⟩ : ∃ z : S32, z = up2 u_T_22 55 ((6 : Int32) + w1).toNatClampNeg (u_T_22 55 w1.toNatClampNeg) := ⟨_, rfl⟩
      replace hf := tx_let_e hf eu_T_25
      refine tx_iast (ws' := cl_X12 g a_T u_T_25 v_T ++ X) S hE hw 30 rfl h_24 (by rw [eu_T_25]; rfl) dX12_layTried_111 (fun H locs hw => ?_)
      refine lv_aload_n hx hb dX12_layTried_112 rfl (lv_at hl 0 rfl) ?_
      refine gf_X12_106 S hE hw 0 rfl rfl dX12_layTried_113 ?_
      refine lv_bipush (v := 6) hx hb dX12_layTried_116 (by decide) ?_
      refine lv_iload_n hx hb dX12_layTried_118 rfl (lv_at hl 1 rfl) ?_
      refine lv_iadd hx hb dX12_layTried_119 ?_
      refine lv_aload_n hx hb dX12_layTried_120 rfl (lv_at hl 0 rfl) ?_
      refine gf_X12_106 S hE hw 0 rfl rfl dX12_layTried_121 ?_
      refine lv_iload_n hx hb dX12_layTried_124 rfl (lv_at hl 1 rfl) ?_
      obtain ⟨h_26, hf⟩ := tx_ck_e hf
      refine tx_iald S hE hw 31 rfl h_26 dX12_layTried_125 ?_
      obtain ⟨h_27, hf⟩ := tx_ck_e hf
      obtain ⟨u_T_28, eu_T_28⟩ : ∃ z : S32, z = up2 u_T_25 56 ((6 : Int32) + w1).toNatClampNeg (u_T_25 56 w1.toNatClampNeg) := ⟨_, rfl⟩
      replace hf := tx_let_e hf eu_T_28
      refine tx_iast (ws' := cl_X12 g a_T u_T_28 v_T ++ X) S hE hw 31 rfl h_27 (by rw [eu_T_28]; rfl) dX12_layTried_126 (fun H locs hw => ?_)
      refine lv_aload_n hx hb dX12_layTried_127 rfl (lv_at hl 0 rfl) ?_
      refine gf_X12_109 S hE hw 0 rfl rfl dX12_layTried_128 ?_
      refine lv_bipush (v := 6) hx hb dX12_layTried_131 (by decide) ?_
      refine lv_iload_n hx hb dX12_layTried_133 rfl (lv_at hl 1 rfl) ?_
      refine lv_iadd hx hb dX12_layTried_134 ?_
      refine lv_aload_n hx hb dX12_layTried_135 rfl (lv_at hl 0 rfl) ?_
      refine gf_X12_109 S hE hw 0 rfl rfl dX12_layTried_136 ?_
      refine lv_iload_n hx hb dX12_layTried_139 rfl (lv_at hl 1 rfl) ?_
      obtain ⟨h_29, hf⟩ := tx_ck_e hf
      refine tx_iald S hE hw 32 rfl h_29 dX12_layTried_140 ?_
      obtain ⟨h_30, hf⟩ := tx_ck_e hf
      obtain ⟨u_T_31, eu_T_31⟩ : ∃ z : S32, z = up2 u_T_28 57 ((6 : Int32) + w1).toNatClampNeg (u_T_28 57 w1.toNatClampNeg) := ⟨_, rfl⟩
      replace hf := tx_let_e hf eu_T_31
      refine tx_iast (ws' := cl_X12 g a_T u_T_31 v_T ++ X) S hE hw 32 rfl h_30 (by rw [eu_T_31]; rfl) dX12_layTried_141 (fun H locs hw => ?_)
      obtain ⟨y_32, ey_32⟩ : ∃ y : Int32, y = w1 + (1 : Int32) := ⟨_, rfl⟩
      replace hf := tx_let_e hf ey_32
      refine lv_iinc (v := y_32) (lv' := [(1, .int y_32), (0, .ref (a_T 0))]) hx hb dX12_layTried_142 hl (k := 1) rfl (by rw [ey_32]; rfl) (by decide) rfl (fun ls hl => ?_)
      refine lv_goto (tgt := 61) hx hb dX12_layTried_145 (by decide) ?_
      exact hK61 hf hw (lv_sub hl [1, 0] rfl)
  have L61 : ∀ (n : Nat), ∀ {u_T : S32} {w1 : Int32} {H : Heap} {locs : List Loc} {ls : Array Slot}, f_X12_layTried_L61 fu v_T n u_T w1 = some zu_T → WD g A s.heap (cl_X12 g a_T u_T v_T ++ X) H locs → lv_has ls 2 [(0, .ref (a_T 0)), (1, .int w1)] → W p l e (rmH 1) s m (List.toArray [.ref (a_T 0)]) below meth c H locs 0 0 (MQ below (va_Qv (fun (_ : Unit) => True) (fun _ t => POST g A (cl_X12 g a_T zu_T v_T ++ X) t) A) (List.toArray [.ref (a_T 0)]) s 0 0 A) (F0 m 61 ls []) := by
    intro  n
    induction n with
    | zero => intro u_T w1 H locs ls hf; exact absurd hf (by intro q; cases q)
    | succ n ih => exact fun hf hw hl => J61 ih hf hw hl
  have J2 : ∀ {K2 : S32 → Int32 → Option (S32)} (hK2 : ∀ {u_T : S32} {w1 : Int32} {H : Heap} {locs : List Loc} {ls : Array Slot}, K2 u_T w1 = some zu_T → WD g A s.heap (cl_X12 g a_T u_T v_T ++ X) H locs → lv_has ls 2 [(0, .ref (a_T 0)), (1, .int w1)] → W p l e (rmH 1) s m (List.toArray [.ref (a_T 0)]) below meth c H locs 0 0 (MQ below (va_Qv (fun (_ : Unit) => True) (fun _ t => POST g A (cl_X12 g a_T zu_T v_T ++ X) t) A) (List.toArray [.ref (a_T 0)]) s 0 0 A) (F0 m 2 ls [])), ∀ {u_T : S32} {w1 : Int32} {H : Heap} {locs : List Loc} {ls : Array Slot}, f_X12_layTried_J2 fu v_T K2 u_T w1 = some zu_T → WD g A s.heap (cl_X12 g a_T u_T v_T ++ X) H locs → lv_has ls 2 [(0, .ref (a_T 0)), (1, .int w1)] → W p l e (rmH 1) s m (List.toArray [.ref (a_T 0)]) below meth c H locs 0 0 (MQ below (va_Qv (fun (_ : Unit) => True) (fun _ t => POST g A (cl_X12 g a_T zu_T v_T ++ X) t) A) (List.toArray [.ref (a_T 0)]) s 0 0 A) (F0 m 2 ls []) := by
    intro K2 hK2 u_T w1 H locs ls hf hw hl
    unfold f_X12_layTried_J2 at hf
    refine lv_iload_n hx hb dX12_layTried_2 rfl (lv_at hl 1 rfl) ?_
    refine lv_bipush (v := 12) hx hb dX12_layTried_3 (by decide) ?_
    refine lv_icmp_ge (tgt := 59) hx hb dX12_layTried_5 (by decide) (fun h_1 => ?_) (fun h_1 => ?_)
    · replace hf := tx_pos hf h_1
      refine lv_iconst (v := 0) hx hb dX12_layTried_59 (by decide) ?_
      refine lv_istore_n (lv' := [(1, .int (0 : Int32)), (0, .ref (a_T 0))]) hx hb dX12_layTried_60 rfl hl (by decide) rfl (fun ls hl => ?_)
      exact L61 fu hf hw (lv_sub hl [1, 0] rfl)
    · replace hf := tx_neg hf h_1
      refine lv_aload_n hx hb dX12_layTried_8 rfl (lv_at hl 0 rfl) ?_
      refine gf_X12_88 S hE hw 0 rfl rfl dX12_layTried_9 ?_
      refine lv_bipush (v := 12) hx hb dX12_layTried_12 (by decide) ?_
      refine lv_iload_n hx hb dX12_layTried_14 rfl (lv_at hl 1 rfl) ?_
      refine lv_iadd hx hb dX12_layTried_15 ?_
      refine lv_aload_n hx hb dX12_layTried_16 rfl (lv_at hl 0 rfl) ?_
      refine gf_X12_88 S hE hw 0 rfl rfl dX12_layTried_17 ?_
      refine lv_iload_n hx hb dX12_layTried_20 rfl (lv_at hl 1 rfl) ?_
      obtain ⟨h_2, hf⟩ := tx_ck_e hf
      refine tx_iald S hE hw 25 rfl h_2 dX12_layTried_21 ?_
      obtain ⟨h_3, hf⟩ := tx_ck_e hf
      obtain ⟨u_T_4, eu_T_4⟩ : ∃ z : S32, z = up2 u_T 50 ((12 : Int32) + w1).toNatClampNeg (u_T 50 w1.toNatClampNeg) := ⟨_, rfl⟩
      replace hf := tx_let_e hf eu_T_4
      refine tx_iast (ws' := cl_X12 g a_T u_T_4 v_T ++ X) S hE hw 25 rfl h_3 (by rw [eu_T_4]; rfl) dX12_layTried_22 (fun H locs hw => ?_)
      refine lv_aload_n hx hb dX12_layTried_23 rfl (lv_at hl 0 rfl) ?_
      refine gf_X12_91 S hE hw 0 rfl rfl dX12_layTried_24 ?_
      refine lv_bipush (v := 12) hx hb dX12_layTried_27 (by decide) ?_
      refine lv_iload_n hx hb dX12_layTried_29 rfl (lv_at hl 1 rfl) ?_
      refine lv_iadd hx hb dX12_layTried_30 ?_
      refine lv_aload_n hx hb dX12_layTried_31 rfl (lv_at hl 0 rfl) ?_
      refine gf_X12_91 S hE hw 0 rfl rfl dX12_layTried_32 ?_
      refine lv_iload_n hx hb dX12_layTried_35 rfl (lv_at hl 1 rfl) ?_
      obtain ⟨h_5, hf⟩ := tx_ck_e hf
      refine tx_iald S hE hw 26 rfl h_5 dX12_layTried_36 ?_
      obtain ⟨h_6, hf⟩ := tx_ck_e hf
      obtain ⟨u_T_7, eu_T_7⟩ : ∃ z : S32, z = up2 u_T_4 51 ((12 : Int32) + w1).toNatClampNeg (u_T_4 51 w1.toNatClampNeg) := ⟨_, rfl⟩
      replace hf := tx_let_e hf eu_T_7
      refine tx_iast (ws' := cl_X12 g a_T u_T_7 v_T ++ X) S hE hw 26 rfl h_6 (by rw [eu_T_7]; rfl) dX12_layTried_37 (fun H locs hw => ?_)
      refine lv_aload_n hx hb dX12_layTried_38 rfl (lv_at hl 0 rfl) ?_
      refine gf_X12_94 S hE hw 0 rfl rfl dX12_layTried_39 ?_
      refine lv_bipush (v := 12) hx hb dX12_layTried_42 (by decide) ?_
      refine lv_iload_n hx hb dX12_layTried_44 rfl (lv_at hl 1 rfl) ?_
      refine lv_iadd hx hb dX12_layTried_45 ?_
      refine lv_aload_n hx hb dX12_layTried_46 rfl (lv_at hl 0 rfl) ?_
      refine gf_X12_94 S hE hw 0 rfl rfl dX12_layTried_47 ?_
      refine lv_iload_n hx hb dX12_layTried_50 rfl (lv_at hl 1 rfl) ?_
      obtain ⟨h_8, hf⟩ := tx_ck_e hf
      refine tx_zald S hE hw 27 rfl h_8 dX12_layTried_51 ?_
      obtain ⟨h_9, hf⟩ := tx_ck_e hf
      obtain ⟨u_T_10, eu_T_10⟩ : ∃ z : S32, z = up2 u_T_7 52 ((12 : Int32) + w1).toNatClampNeg ((u_T_7 52 w1.toNatClampNeg) &&& 1) := ⟨_, rfl⟩
      replace hf := tx_let_e hf eu_T_10
      refine tx_zast (ws' := cl_X12 g a_T u_T_10 v_T ++ X) S hE hw 27 rfl h_9 (by rw [eu_T_10]; rfl) dX12_layTried_52 (fun H locs hw => ?_)
      obtain ⟨y_11, ey_11⟩ : ∃ y : Int32, y = w1 + (1 : Int32) := ⟨_, rfl⟩
      replace hf := tx_let_e hf ey_11
      refine lv_iinc (v := y_11) (lv' := [(1, .int y_11), (0, .ref (a_T 0))]) hx hb dX12_layTried_53 hl (k := 1) rfl (by rw [ey_11]; rfl) (by decide) rfl (fun ls hl => ?_)
      refine lv_goto (tgt := 2) hx hb dX12_layTried_56 (by decide) ?_
      exact hK2 hf hw (lv_sub hl [1, 0] rfl)
  have L2 : ∀ (n : Nat), ∀ {u_T : S32} {w1 : Int32} {H : Heap} {locs : List Loc} {ls : Array Slot}, f_X12_layTried_L2 fu v_T n u_T w1 = some zu_T → WD g A s.heap (cl_X12 g a_T u_T v_T ++ X) H locs → lv_has ls 2 [(0, .ref (a_T 0)), (1, .int w1)] → W p l e (rmH 1) s m (List.toArray [.ref (a_T 0)]) below meth c H locs 0 0 (MQ below (va_Qv (fun (_ : Unit) => True) (fun _ t => POST g A (cl_X12 g a_T zu_T v_T ++ X) t) A) (List.toArray [.ref (a_T 0)]) s 0 0 A) (F0 m 2 ls []) := by
    intro  n
    induction n with
    | zero => intro u_T w1 H locs ls hf; exact absurd hf (by intro q; cases q)
    | succ n ih => exact fun hf hw hl => J2 ih hf hw hl
  unfold f_X12_layTried at hf
  refine lv_iconst (v := 0) hx hb dX12_layTried_0 (by decide) ?_
  refine lv_istore_n (lv' := [(1, .int (0 : Int32)), (0, .ref (a_T 0))]) hx hb dX12_layTried_1 rfl hl (by decide) rfl (fun ls hl => ?_)
  exact L2 fu hf hw (lv_sub hl [1, 0] rfl)
def f_X12_isMan (fu : Nat) (u_T : S32) (v_T : S64) (x1 : Int32) : Option (Int32) := if x1 < (0 : Int32) then (some (0 : Int32)) else (if (u_T 0 12) ≤ x1 then (some (0 : Int32)) else (some (1 : Int32)))
set_option maxHeartbeats 4000000 in
set_option maxRecDepth 100000 in
theorem c_X12_isMan {l : Launch} {g : GG} {A : Nat → Prop} {X : va_W} {fu : Nat} {a_T : Nat → Nat} {u_T : S32} {v_T : S64} {x1 : Int32} {r : Int32} (hf : f_X12_isMan fu u_T v_T x1 = some r) : MI l yX12_isMan cX12_isMan 2 (some .boolean) 0 g A (cl_X12 g a_T u_T v_T ++ X) [.ref (a_T 0), .int x1] r (cl_X12 g a_T u_T v_T ++ X) := by
  refine tx_start (av := [.ref (a_T 0), .int x1]) (by decide) (Nat.le_of_ble_eq_true rfl) ?_
  intro p e s m below meth c ls S hr hlk hE hw hl
  have S : CallFix p m c cX12_isMan 2 s (List.toArray [.ref (a_T 0), .int x1]) (Cond.code yX12_isMan cX12_isMan 2 (some .boolean) :: allW) RX12 := S
  have hx := S.1
  have hb := S.2.1
  have hown := S.2.2.2.1
  have hts : ∀ w ∈ allW, w.before (List.toArray [.ref (a_T 0), .int x1]) s = true := fun w h => S.2.2.2.2 w (List.mem_cons_of_mem _ h)
  have hl : lv_has ls 2 [(0, .ref (a_T 0)), (1, .int x1)] := hl
  unfold f_X12_isMan at hf
  refine lv_iload_n hx hb dX12_isMan_0 rfl (lv_at hl 1 rfl) ?_
  refine lv_if_lt (tgt := 16) hx hb dX12_isMan_1 (by decide) (fun h_1 => ?_) (fun h_1 => ?_)
  · replace hf := tx_pos hf h_1
    refine lv_iconst (v := 0) hx hb dX12_isMan_16 (by decide) ?_
    obtain e0 := tx_in1 hf
    rw [← e0]
    exact tx_zret S hr hlk (by decide) hw dX12_isMan_17
  · replace hf := tx_neg hf h_1
    refine lv_iload_n hx hb dX12_isMan_4 rfl (lv_at hl 1 rfl) ?_
    refine lv_aload_n hx hb dX12_isMan_5 rfl (lv_at hl 0 rfl) ?_
    refine gf_X12_222 S hE hw 0 rfl rfl dX12_isMan_6 ?_
    refine lv_icmp_ge (tgt := 16) hx hb dX12_isMan_9 (by decide) (fun h_2 => ?_) (fun h_2 => ?_)
    · replace hf := tx_pos hf h_2
      refine lv_iconst (v := 0) hx hb dX12_isMan_16 (by decide) ?_
      obtain e0 := tx_in1 hf
      rw [← e0]
      exact tx_zret S hr hlk (by decide) hw dX12_isMan_17
    · replace hf := tx_neg hf h_2
      refine lv_iconst (v := 1) hx hb dX12_isMan_12 (by decide) ?_
      refine lv_goto (tgt := 17) hx hb dX12_isMan_13 (by decide) ?_
      obtain e0 := tx_in1 hf
      rw [← e0]
      exact tx_zret S hr hlk (by decide) hw dX12_isMan_17
def f_X12_isThought (fu : Nat) (u_T : S32) (v_T : S64) (x1 : Int32) : Option (Int32) := if x1 < (0 : Int32) then (some (0 : Int32)) else (if (u_T 0 13) ≤ x1 then (some (0 : Int32)) else (some (1 : Int32)))
set_option maxHeartbeats 4000000 in
set_option maxRecDepth 100000 in
theorem c_X12_isThought {l : Launch} {g : GG} {A : Nat → Prop} {X : va_W} {fu : Nat} {a_T : Nat → Nat} {u_T : S32} {v_T : S64} {x1 : Int32} {r : Int32} (hf : f_X12_isThought fu u_T v_T x1 = some r) : MI l yX12_isThought cX12_isThought 2 (some .boolean) 0 g A (cl_X12 g a_T u_T v_T ++ X) [.ref (a_T 0), .int x1] r (cl_X12 g a_T u_T v_T ++ X) := by
  refine tx_start (av := [.ref (a_T 0), .int x1]) (by decide) (Nat.le_of_ble_eq_true rfl) ?_
  intro p e s m below meth c ls S hr hlk hE hw hl
  have S : CallFix p m c cX12_isThought 2 s (List.toArray [.ref (a_T 0), .int x1]) (Cond.code yX12_isThought cX12_isThought 2 (some .boolean) :: allW) RX12 := S
  have hx := S.1
  have hb := S.2.1
  have hown := S.2.2.2.1
  have hts : ∀ w ∈ allW, w.before (List.toArray [.ref (a_T 0), .int x1]) s = true := fun w h => S.2.2.2.2 w (List.mem_cons_of_mem _ h)
  have hl : lv_has ls 2 [(0, .ref (a_T 0)), (1, .int x1)] := hl
  unfold f_X12_isThought at hf
  refine lv_iload_n hx hb dX12_isThought_0 rfl (lv_at hl 1 rfl) ?_
  refine lv_if_lt (tgt := 16) hx hb dX12_isThought_1 (by decide) (fun h_1 => ?_) (fun h_1 => ?_)
  · replace hf := tx_pos hf h_1
    refine lv_iconst (v := 0) hx hb dX12_isThought_16 (by decide) ?_
    obtain e0 := tx_in1 hf
    rw [← e0]
    exact tx_zret S hr hlk (by decide) hw dX12_isThought_17
  · replace hf := tx_neg hf h_1
    refine lv_iload_n hx hb dX12_isThought_4 rfl (lv_at hl 1 rfl) ?_
    refine lv_aload_n hx hb dX12_isThought_5 rfl (lv_at hl 0 rfl) ?_
    refine gf_X12_225 S hE hw 0 rfl rfl dX12_isThought_6 ?_
    refine lv_icmp_ge (tgt := 16) hx hb dX12_isThought_9 (by decide) (fun h_2 => ?_) (fun h_2 => ?_)
    · replace hf := tx_pos hf h_2
      refine lv_iconst (v := 0) hx hb dX12_isThought_16 (by decide) ?_
      obtain e0 := tx_in1 hf
      rw [← e0]
      exact tx_zret S hr hlk (by decide) hw dX12_isThought_17
    · replace hf := tx_neg hf h_2
      refine lv_iconst (v := 1) hx hb dX12_isThought_12 (by decide) ?_
      refine lv_goto (tgt := 17) hx hb dX12_isThought_13 (by decide) ?_
      obtain e0 := tx_in1 hf
      rw [← e0]
      exact tx_zret S hr hlk (by decide) hw dX12_isThought_17
def f_X12_isReader (fu : Nat) (u_T : S32) (v_T : S64) (x1 : Int32) : Option (Int32) := if x1 < (0 : Int32) then (some (0 : Int32)) else (if (u_T 0 14) ≤ x1 then (some (0 : Int32)) else (some (1 : Int32)))
set_option maxHeartbeats 4000000 in
set_option maxRecDepth 100000 in
theorem c_X12_isReader {l : Launch} {g : GG} {A : Nat → Prop} {X : va_W} {fu : Nat} {a_T : Nat → Nat} {u_T : S32} {v_T : S64} {x1 : Int32} {r : Int32} (hf : f_X12_isReader fu u_T v_T x1 = some r) : MI l yX12_isReader cX12_isReader 2 (some .boolean) 0 g A (cl_X12 g a_T u_T v_T ++ X) [.ref (a_T 0), .int x1] r (cl_X12 g a_T u_T v_T ++ X) := by
  refine tx_start (av := [.ref (a_T 0), .int x1]) (by decide) (Nat.le_of_ble_eq_true rfl) ?_
  intro p e s m below meth c ls S hr hlk hE hw hl
  have S : CallFix p m c cX12_isReader 2 s (List.toArray [.ref (a_T 0), .int x1]) (Cond.code yX12_isReader cX12_isReader 2 (some .boolean) :: allW) RX12 := S
  have hx := S.1
  have hb := S.2.1
  have hown := S.2.2.2.1
  have hts : ∀ w ∈ allW, w.before (List.toArray [.ref (a_T 0), .int x1]) s = true := fun w h => S.2.2.2.2 w (List.mem_cons_of_mem _ h)
  have hl : lv_has ls 2 [(0, .ref (a_T 0)), (1, .int x1)] := hl
  unfold f_X12_isReader at hf
  refine lv_iload_n hx hb dX12_isReader_0 rfl (lv_at hl 1 rfl) ?_
  refine lv_if_lt (tgt := 16) hx hb dX12_isReader_1 (by decide) (fun h_1 => ?_) (fun h_1 => ?_)
  · replace hf := tx_pos hf h_1
    refine lv_iconst (v := 0) hx hb dX12_isReader_16 (by decide) ?_
    obtain e0 := tx_in1 hf
    rw [← e0]
    exact tx_zret S hr hlk (by decide) hw dX12_isReader_17
  · replace hf := tx_neg hf h_1
    refine lv_iload_n hx hb dX12_isReader_4 rfl (lv_at hl 1 rfl) ?_
    refine lv_aload_n hx hb dX12_isReader_5 rfl (lv_at hl 0 rfl) ?_
    refine gf_X12_228 S hE hw 0 rfl rfl dX12_isReader_6 ?_
    refine lv_icmp_ge (tgt := 16) hx hb dX12_isReader_9 (by decide) (fun h_2 => ?_) (fun h_2 => ?_)
    · replace hf := tx_pos hf h_2
      refine lv_iconst (v := 0) hx hb dX12_isReader_16 (by decide) ?_
      obtain e0 := tx_in1 hf
      rw [← e0]
      exact tx_zret S hr hlk (by decide) hw dX12_isReader_17
    · replace hf := tx_neg hf h_2
      refine lv_iconst (v := 1) hx hb dX12_isReader_12 (by decide) ?_
      refine lv_goto (tgt := 17) hx hb dX12_isReader_13 (by decide) ?_
      obtain e0 := tx_in1 hf
      rw [← e0]
      exact tx_zret S hr hlk (by decide) hw dX12_isReader_17
def f_X12_wilesOf (fu : Nat) (u_T : S32) (v_T : S64) (x1 : Int32) : Option (Int32) := if (u_T 0 62) = (0 : Int32) then (tx_ck x1 12 <| some (u_T 25 x1.toNatClampNeg)) else (some (0 : Int32))
set_option maxHeartbeats 4000000 in
set_option maxRecDepth 100000 in
theorem c_X12_wilesOf {l : Launch} {g : GG} {A : Nat → Prop} {X : va_W} {fu : Nat} {a_T : Nat → Nat} {u_T : S32} {v_T : S64} {x1 : Int32} {r : Int32} (hf : f_X12_wilesOf fu u_T v_T x1 = some r) : MI l yX12_wilesOf cX12_wilesOf 2 (some .int) 0 g A (cl_X12 g a_T u_T v_T ++ X) [.ref (a_T 0), .int x1] r (cl_X12 g a_T u_T v_T ++ X) := by
  refine tx_start (av := [.ref (a_T 0), .int x1]) (by decide) (Nat.le_of_ble_eq_true rfl) ?_
  intro p e s m below meth c ls S hr hlk hE hw hl
  have S : CallFix p m c cX12_wilesOf 2 s (List.toArray [.ref (a_T 0), .int x1]) (Cond.code yX12_wilesOf cX12_wilesOf 2 (some .int) :: allW) RX12 := S
  have hx := S.1
  have hb := S.2.1
  have hown := S.2.2.2.1
  have hts : ∀ w ∈ allW, w.before (List.toArray [.ref (a_T 0), .int x1]) s = true := fun w h => S.2.2.2.2 w (List.mem_cons_of_mem _ h)
  have hl : lv_has ls 2 [(0, .ref (a_T 0)), (1, .int x1)] := hl
  unfold f_X12_wilesOf at hf
  refine lv_aload_n hx hb dX12_wilesOf_0 rfl (lv_at hl 0 rfl) ?_
  refine gf_X12_359 S hE hw 0 rfl rfl dX12_wilesOf_1 ?_
  refine lv_if_eq (tgt := 11) hx hb dX12_wilesOf_4 (by decide) (fun h_1 => ?_) (fun h_1 => ?_)
  · replace hf := tx_pos hf h_1
    refine lv_aload_n hx hb dX12_wilesOf_11 rfl (lv_at hl 0 rfl) ?_
    refine gf_X12_33 S hE hw 0 rfl rfl dX12_wilesOf_12 ?_
    refine lv_iload_n hx hb dX12_wilesOf_15 rfl (lv_at hl 1 rfl) ?_
    obtain ⟨h_2, hf⟩ := tx_ck_e hf
    refine tx_iald S hE hw 7 rfl h_2 dX12_wilesOf_16 ?_
    obtain e0 := tx_in1 hf
    rw [← e0]
    exact tx_iret S hr hlk hw dX12_wilesOf_17
  · replace hf := tx_neg hf h_1
    refine lv_iconst (v := 0) hx hb dX12_wilesOf_7 (by decide) ?_
    refine lv_goto (tgt := 17) hx hb dX12_wilesOf_8 (by decide) ?_
    obtain e0 := tx_in1 hf
    rw [← e0]
    exact tx_iret S hr hlk hw dX12_wilesOf_17
def f_X12_skillIn (fu : Nat) (u_T : S32) (v_T : S64) (x1 : Int32) : Option (Int32) := if (0 : Int32) ≤ x1 then (if (u_T 0 64) = (0 : Int32) then (if x1 = (u_T 0 68) then (some (u_T 0 69)) else (tx_ck x1 8 <| some (u_T 31 x1.toNatClampNeg))) else (some (9 : Int32))) else (some (0 : Int32))
set_option maxHeartbeats 4000000 in
set_option maxRecDepth 100000 in
theorem c_X12_skillIn {l : Launch} {g : GG} {A : Nat → Prop} {X : va_W} {fu : Nat} {a_T : Nat → Nat} {u_T : S32} {v_T : S64} {x1 : Int32} {r : Int32} (hf : f_X12_skillIn fu u_T v_T x1 = some r) : MI l yX12_skillIn cX12_skillIn 2 (some .int) 0 g A (cl_X12 g a_T u_T v_T ++ X) [.ref (a_T 0), .int x1] r (cl_X12 g a_T u_T v_T ++ X) := by
  refine tx_start (av := [.ref (a_T 0), .int x1]) (by decide) (Nat.le_of_ble_eq_true rfl) ?_
  intro p e s m below meth c ls S hr hlk hE hw hl
  have S : CallFix p m c cX12_skillIn 2 s (List.toArray [.ref (a_T 0), .int x1]) (Cond.code yX12_skillIn cX12_skillIn 2 (some .int) :: allW) RX12 := S
  have hx := S.1
  have hb := S.2.1
  have hown := S.2.2.2.1
  have hts : ∀ w ∈ allW, w.before (List.toArray [.ref (a_T 0), .int x1]) s = true := fun w h => S.2.2.2.2 w (List.mem_cons_of_mem _ h)
  have hl : lv_has ls 2 [(0, .ref (a_T 0)), (1, .int x1)] := hl
  unfold f_X12_skillIn at hf
  refine lv_iload_n hx hb dX12_skillIn_0 rfl (lv_at hl 1 rfl) ?_
  refine lv_if_ge (tgt := 8) hx hb dX12_skillIn_1 (by decide) (fun h_1 => ?_) (fun h_1 => ?_)
  · replace hf := tx_pos hf h_1
    refine lv_aload_n hx hb dX12_skillIn_8 rfl (lv_at hl 0 rfl) ?_
    refine gf_X12_365 S hE hw 0 rfl rfl dX12_skillIn_9 ?_
    refine lv_if_eq (tgt := 20) hx hb dX12_skillIn_12 (by decide) (fun h_2 => ?_) (fun h_2 => ?_)
    · replace hf := tx_pos hf h_2
      refine lv_iload_n hx hb dX12_skillIn_20 rfl (lv_at hl 1 rfl) ?_
      refine lv_aload_n hx hb dX12_skillIn_21 rfl (lv_at hl 0 rfl) ?_
      refine gf_X12_377 S hE hw 0 rfl rfl dX12_skillIn_22 ?_
      refine lv_icmp_ne (tgt := 35) hx hb dX12_skillIn_25 (by decide) (fun h_3 => ?_) (fun h_3 => ?_)
      · replace hf := tx_neg hf h_3
        refine lv_aload_n hx hb dX12_skillIn_35 rfl (lv_at hl 0 rfl) ?_
        refine gf_X12_51 S hE hw 0 rfl rfl dX12_skillIn_36 ?_
        refine lv_iload_n hx hb dX12_skillIn_39 rfl (lv_at hl 1 rfl) ?_
        obtain ⟨h_4, hf⟩ := tx_ck_e hf
        refine tx_iald S hE hw 13 rfl h_4 dX12_skillIn_40 ?_
        obtain e0 := tx_in1 hf
        rw [← e0]
        exact tx_iret S hr hlk hw dX12_skillIn_41
      · replace hf := tx_pos hf h_3
        refine lv_aload_n hx hb dX12_skillIn_28 rfl (lv_at hl 0 rfl) ?_
        refine gf_X12_380 S hE hw 0 rfl rfl dX12_skillIn_29 ?_
        refine lv_goto (tgt := 41) hx hb dX12_skillIn_32 (by decide) ?_
        obtain e0 := tx_in1 hf
        rw [← e0]
        exact tx_iret S hr hlk hw dX12_skillIn_41
    · replace hf := tx_neg hf h_2
      refine lv_bipush (v := 9) hx hb dX12_skillIn_15 (by decide) ?_
      refine lv_goto (tgt := 41) hx hb dX12_skillIn_17 (by decide) ?_
      obtain e0 := tx_in1 hf
      rw [← e0]
      exact tx_iret S hr hlk hw dX12_skillIn_41
  · replace hf := tx_neg hf h_1
    refine lv_iconst (v := 0) hx hb dX12_skillIn_4 (by decide) ?_
    refine lv_goto (tgt := 41) hx hb dX12_skillIn_5 (by decide) ?_
    obtain e0 := tx_in1 hf
    rw [← e0]
    exact tx_iret S hr hlk hw dX12_skillIn_41
def f_X12_knows_J25 (fu : Nat) (u_T : S32) (v_T : S64) : Option (Int32) := some (1 : Int32)
def f_X12_knows (fu : Nat) (u_T : S32) (v_T : S64) (x1 : Int32) (x2 : Int32) : Option (Int32) := if (u_T 0 63) = (0 : Int32) then (tx_ck x1 8 <| tx_ck x2 24 <| tx_b1 (f_X12_isOf fu (u_T 32 x1.toNatClampNeg) (u_T 29 x2.toNatClampNeg)) fun (r_5 : Int32) => if r_5 = (0 : Int32) then (some (0 : Int32)) else (f_X12_knows_J25 fu u_T v_T )) else (f_X12_knows_J25 fu u_T v_T )
set_option maxHeartbeats 4000000 in
set_option maxRecDepth 100000 in
theorem c_X12_knows {l : Launch} {g : GG} {A : Nat → Prop} {X : va_W} {fu : Nat} {a_T : Nat → Nat} {u_T : S32} {v_T : S64} {x1 : Int32} {x2 : Int32} {r : Int32} (hf : f_X12_knows fu u_T v_T x1 x2 = some r) : MI l yX12_knows cX12_knows 3 (some .boolean) 1 g A (cl_X12 g a_T u_T v_T ++ X) [.ref (a_T 0), .int x1, .int x2] r (cl_X12 g a_T u_T v_T ++ X) := by
  refine tx_start (av := [.ref (a_T 0), .int x1, .int x2]) (by decide) (Nat.le_of_ble_eq_true rfl) ?_
  intro p e s m below meth c ls S hr hlk hE hw hl
  have S : CallFix p m c cX12_knows 3 s (List.toArray [.ref (a_T 0), .int x1, .int x2]) (Cond.code yX12_knows cX12_knows 3 (some .boolean) :: allW) RX12 := S
  have hx := S.1
  have hb := S.2.1
  have hown := S.2.2.2.1
  have hts : ∀ w ∈ allW, w.before (List.toArray [.ref (a_T 0), .int x1, .int x2]) s = true := fun w h => S.2.2.2.2 w (List.mem_cons_of_mem _ h)
  have hl : lv_has ls 3 [(0, .ref (a_T 0)), (1, .int x1), (2, .int x2)] := hl
  have J25 : ∀ {H : Heap} {locs : List Loc} {ls : Array Slot}, f_X12_knows_J25 fu u_T v_T  = some r → WD g A s.heap (cl_X12 g a_T u_T v_T ++ X) H locs → lv_has ls 3 [] → W p l e (rmH 1) s m (List.toArray [.ref (a_T 0), .int x1, .int x2]) below meth c H locs 0 0 (MQ below (va_Qi (fun r2 (_ : Unit) => r2 = r) (fun _ t => POST g A (cl_X12 g a_T u_T v_T ++ X) t) A) (List.toArray [.ref (a_T 0), .int x1, .int x2]) s 0 0 A) (F0 m 25 ls []) := by
    intro H locs ls hf hw hl
    unfold f_X12_knows_J25 at hf
    refine lv_iconst (v := 1) hx hb dX12_knows_25 (by decide) ?_
    refine lv_goto (tgt := 30) hx hb dX12_knows_26 (by decide) ?_
    obtain e0 := tx_in1 hf
    rw [← e0]
    exact tx_zret S hr hlk (by decide) hw dX12_knows_30
  unfold f_X12_knows at hf
  refine lv_aload_n hx hb dX12_knows_0 rfl (lv_at hl 0 rfl) ?_
  refine gf_X12_362 S hE hw 0 rfl rfl dX12_knows_1 ?_
  refine lv_if_ne (tgt := 25) hx hb dX12_knows_4 (by decide) (fun h_1 => ?_) (fun h_1 => ?_)
  · replace hf := tx_neg hf h_1
    exact J25 hf hw (lv_sub hl [] rfl)
  · replace hf := tx_pos hf h_1
    refine lv_aload_n hx hb dX12_knows_7 rfl (lv_at hl 0 rfl) ?_
    refine gf_X12_54 S hE hw 0 rfl rfl dX12_knows_8 ?_
    refine lv_iload_n hx hb dX12_knows_11 rfl (lv_at hl 1 rfl) ?_
    obtain ⟨h_2, hf⟩ := tx_ck_e hf
    refine tx_iald S hE hw 14 rfl h_2 dX12_knows_12 ?_
    refine lv_aload_n hx hb dX12_knows_13 rfl (lv_at hl 0 rfl) ?_
    refine gf_X12_45 S hE hw 0 rfl rfl dX12_knows_14 ?_
    refine lv_iload_n hx hb dX12_knows_17 rfl (lv_at hl 2 rfl) ?_
    obtain ⟨h_3, hf⟩ := tx_ck_e hf
    refine tx_iald S hE hw 11 rfl h_3 dX12_knows_18 ?_
    obtain ⟨r_5, h_4, hf⟩ := tx_b1_e hf
    refine tx_ci hw (tx_runS S hE hw (c_X12_isOf h_4) lk_X12_383 rfl hl.1 (rest := []) rfl (Nat.le_of_ble_eq_true rfl) ⟨by decide, by decide⟩ dX12_knows_19 ⟨Nat.zero_le _, Nat.zero_le _⟩) (fun H locs hw => ?_)
    refine lv_if_eq (tgt := 29) hx hb dX12_knows_22 (by decide) (fun h_6 => ?_) (fun h_6 => ?_)
    · replace hf := tx_pos hf h_6
      refine lv_iconst (v := 0) hx hb dX12_knows_29 (by decide) ?_
      obtain e0 := tx_in1 hf
      rw [← e0]
      exact tx_zret S hr hlk (by decide) hw dX12_knows_30
    · replace hf := tx_neg hf h_6
      exact J25 hf hw (lv_sub hl [] rfl)
def f_X12_there_J52 (fu : Nat) (u_T : S32) (v_T : S64) (K5 : Int32 → Int32 → Int32 → Int32 → Option (Int32)) (w1 : Int32) (w2 : Int32) (w4 : Int32) (t0 : Int32) (t1 : Int32) : Option (Int32) := tx_let (t0 + t1) fun (y_6 : Int32) => tx_let (w4 + (1 : Int32)) fun (y_7 : Int32) => K5 w1 w2 y_6 y_7
def f_X12_there_J51 (fu : Nat) (u_T : S32) (v_T : S64) (K5 : Int32 → Int32 → Int32 → Int32 → Option (Int32)) (w1 : Int32) (w2 : Int32) (w4 : Int32) (t0 : Int32) : Option (Int32) := f_X12_there_J52 fu u_T v_T K5 w1 w2 w4 t0 (0 : Int32)
def f_X12_there_J5 (fu : Nat) (u_T : S32) (v_T : S64) (K5 : Int32 → Int32 → Int32 → Int32 → Option (Int32)) (w1 : Int32) (w2 : Int32) (w3 : Int32) (w4 : Int32) : Option (Int32) := if (u_T 0 13) ≤ w4 then (some w3) else (tx_ck (((12 : Int32) * w1) + w4) 24 <| if (u_T 50 (((12 : Int32) * w1) + w4).toNatClampNeg) = (1 : Int32) then (tx_ck (((12 : Int32) * w1) + w4) 24 <| if (u_T 51 (((12 : Int32) * w1) + w4).toNatClampNeg) = w2 then (f_X12_there_J52 fu u_T v_T K5 w1 w2 w4 w3 (1 : Int32)) else (f_X12_there_J51 fu u_T v_T K5 w1 w2 w4 w3)) else (f_X12_there_J51 fu u_T v_T K5 w1 w2 w4 w3))
def f_X12_there_L5 (fu : Nat) (u_T : S32) (v_T : S64) : Nat → Int32 → Int32 → Int32 → Int32 → Option (Int32)
  | 0 => fun _ _ _ _ => none
  | n + 1 => f_X12_there_J5 fu u_T v_T (f_X12_there_L5 fu u_T v_T n)
def f_X12_there (fu : Nat) (u_T : S32) (v_T : S64) (x1 : Int32) (x2 : Int32) : Option (Int32) := f_X12_there_L5 fu u_T v_T fu x1 x2 (0 : Int32) (0 : Int32)
set_option maxHeartbeats 4000000 in
set_option maxRecDepth 100000 in
theorem c_X12_there {l : Launch} {g : GG} {A : Nat → Prop} {X : va_W} {fu : Nat} {a_T : Nat → Nat} {u_T : S32} {v_T : S64} {x1 : Int32} {x2 : Int32} {r : Int32} (hf : f_X12_there fu u_T v_T x1 x2 = some r) : MI l yX12_there cX12_there 5 (some .int) 0 g A (cl_X12 g a_T u_T v_T ++ X) [.ref (a_T 0), .int x1, .int x2] r (cl_X12 g a_T u_T v_T ++ X) := by
  refine tx_start (av := [.ref (a_T 0), .int x1, .int x2]) (by decide) (Nat.le_of_ble_eq_true rfl) ?_
  intro p e s m below meth c ls S hr hlk hE hw hl
  have S : CallFix p m c cX12_there 5 s (List.toArray [.ref (a_T 0), .int x1, .int x2]) (Cond.code yX12_there cX12_there 5 (some .int) :: allW) RX12 := S
  have hx := S.1
  have hb := S.2.1
  have hown := S.2.2.2.1
  have hts : ∀ w ∈ allW, w.before (List.toArray [.ref (a_T 0), .int x1, .int x2]) s = true := fun w h => S.2.2.2.2 w (List.mem_cons_of_mem _ h)
  have hl : lv_has ls 5 [(0, .ref (a_T 0)), (1, .int x1), (2, .int x2)] := hl
  have J52 : ∀ {K5 : Int32 → Int32 → Int32 → Int32 → Option (Int32)} (hK5 : ∀ {w1 : Int32} {w2 : Int32} {w3 : Int32} {w4 : Int32} {H : Heap} {locs : List Loc} {ls : Array Slot}, K5 w1 w2 w3 w4 = some r → WD g A s.heap (cl_X12 g a_T u_T v_T ++ X) H locs → lv_has ls 5 [(0, .ref (a_T 0)), (1, .int w1), (2, .int w2), (3, .int w3), (4, .int w4)] → W p l e (rmH 0) s m (List.toArray [.ref (a_T 0), .int x1, .int x2]) below meth c H locs 0 0 (MQ below (va_Qi (fun r2 (_ : Unit) => r2 = r) (fun _ t => POST g A (cl_X12 g a_T u_T v_T ++ X) t) A) (List.toArray [.ref (a_T 0), .int x1, .int x2]) s 0 0 A) (F0 m 5 ls [])), ∀ {w1 : Int32} {w2 : Int32} {w4 : Int32} {t0 : Int32} {t1 : Int32} {H : Heap} {locs : List Loc} {ls : Array Slot}, f_X12_there_J52 fu u_T v_T K5 w1 w2 w4 t0 t1 = some r → WD g A s.heap (cl_X12 g a_T u_T v_T ++ X) H locs → lv_has ls 5 [(0, .ref (a_T 0)), (1, .int w1), (2, .int w2), (4, .int w4)] → W p l e (rmH 0) s m (List.toArray [.ref (a_T 0), .int x1, .int x2]) below meth c H locs 0 0 (MQ below (va_Qi (fun r2 (_ : Unit) => r2 = r) (fun _ t => POST g A (cl_X12 g a_T u_T v_T ++ X) t) A) (List.toArray [.ref (a_T 0), .int x1, .int x2]) s 0 0 A) (F0 m 52 ls [.int t1, .int t0]) := by
    intro K5 hK5 w1 w2 w4 t0 t1 H locs ls hf hw hl
    unfold f_X12_there_J52 at hf
    refine lv_iadd hx hb dX12_there_52 ?_
    refine lv_topi (fun y_6 ey_6 => ?_)
    replace hf := tx_let_e hf ey_6
    refine lv_istore_n (lv' := [(3, .int y_6), (0, .ref (a_T 0)), (1, .int w1), (2, .int w2), (4, .int w4)]) hx hb dX12_there_53 rfl hl (by decide) rfl (fun ls hl => ?_)
    obtain ⟨y_7, ey_7⟩ : ∃ y : Int32, y = w4 + (1 : Int32) := ⟨_, rfl⟩
    replace hf := tx_let_e hf ey_7
    refine lv_iinc (v := y_7) (lv' := [(4, .int y_7), (3, .int y_6), (0, .ref (a_T 0)), (1, .int w1), (2, .int w2)]) hx hb dX12_there_54 hl (k := 4) rfl (by rw [ey_7]; rfl) (by decide) rfl (fun ls hl => ?_)
    refine lv_goto (tgt := 5) hx hb dX12_there_57 (by decide) ?_
    exact hK5 hf hw (lv_sub hl [2, 3, 4, 1, 0] rfl)
  have J51 : ∀ {K5 : Int32 → Int32 → Int32 → Int32 → Option (Int32)} (hK5 : ∀ {w1 : Int32} {w2 : Int32} {w3 : Int32} {w4 : Int32} {H : Heap} {locs : List Loc} {ls : Array Slot}, K5 w1 w2 w3 w4 = some r → WD g A s.heap (cl_X12 g a_T u_T v_T ++ X) H locs → lv_has ls 5 [(0, .ref (a_T 0)), (1, .int w1), (2, .int w2), (3, .int w3), (4, .int w4)] → W p l e (rmH 0) s m (List.toArray [.ref (a_T 0), .int x1, .int x2]) below meth c H locs 0 0 (MQ below (va_Qi (fun r2 (_ : Unit) => r2 = r) (fun _ t => POST g A (cl_X12 g a_T u_T v_T ++ X) t) A) (List.toArray [.ref (a_T 0), .int x1, .int x2]) s 0 0 A) (F0 m 5 ls [])), ∀ {w1 : Int32} {w2 : Int32} {w4 : Int32} {t0 : Int32} {H : Heap} {locs : List Loc} {ls : Array Slot}, f_X12_there_J51 fu u_T v_T K5 w1 w2 w4 t0 = some r → WD g A s.heap (cl_X12 g a_T u_T v_T ++ X) H locs → lv_has ls 5 [(0, .ref (a_T 0)), (1, .int w1), (2, .int w2), (4, .int w4)] → W p l e (rmH 0) s m (List.toArray [.ref (a_T 0), .int x1, .int x2]) below meth c H locs 0 0 (MQ below (va_Qi (fun r2 (_ : Unit) => r2 = r) (fun _ t => POST g A (cl_X12 g a_T u_T v_T ++ X) t) A) (List.toArray [.ref (a_T 0), .int x1, .int x2]) s 0 0 A) (F0 m 51 ls [.int t0]) := by
    intro K5 hK5 w1 w2 w4 t0 H locs ls hf hw hl
    unfold f_X12_there_J51 at hf
    refine lv_iconst (v := 0) hx hb dX12_there_51 (by decide) ?_
    exact J52 hK5 hf hw (lv_sub hl [0, 1, 2, 3] rfl)
  have J5 : ∀ {K5 : Int32 → Int32 → Int32 → Int32 → Option (Int32)} (hK5 : ∀ {w1 : Int32} {w2 : Int32} {w3 : Int32} {w4 : Int32} {H : Heap} {locs : List Loc} {ls : Array Slot}, K5 w1 w2 w3 w4 = some r → WD g A s.heap (cl_X12 g a_T u_T v_T ++ X) H locs → lv_has ls 5 [(0, .ref (a_T 0)), (1, .int w1), (2, .int w2), (3, .int w3), (4, .int w4)] → W p l e (rmH 0) s m (List.toArray [.ref (a_T 0), .int x1, .int x2]) below meth c H locs 0 0 (MQ below (va_Qi (fun r2 (_ : Unit) => r2 = r) (fun _ t => POST g A (cl_X12 g a_T u_T v_T ++ X) t) A) (List.toArray [.ref (a_T 0), .int x1, .int x2]) s 0 0 A) (F0 m 5 ls [])), ∀ {w1 : Int32} {w2 : Int32} {w3 : Int32} {w4 : Int32} {H : Heap} {locs : List Loc} {ls : Array Slot}, f_X12_there_J5 fu u_T v_T K5 w1 w2 w3 w4 = some r → WD g A s.heap (cl_X12 g a_T u_T v_T ++ X) H locs → lv_has ls 5 [(0, .ref (a_T 0)), (1, .int w1), (2, .int w2), (3, .int w3), (4, .int w4)] → W p l e (rmH 0) s m (List.toArray [.ref (a_T 0), .int x1, .int x2]) below meth c H locs 0 0 (MQ below (va_Qi (fun r2 (_ : Unit) => r2 = r) (fun _ t => POST g A (cl_X12 g a_T u_T v_T ++ X) t) A) (List.toArray [.ref (a_T 0), .int x1, .int x2]) s 0 0 A) (F0 m 5 ls []) := by
    intro K5 hK5 w1 w2 w3 w4 H locs ls hf hw hl
    unfold f_X12_there_J5 at hf
    refine lv_iload hx hb dX12_there_5 (lv_at hl 4 rfl) ?_
    refine lv_aload_n hx hb dX12_there_7 rfl (lv_at hl 0 rfl) ?_
    refine gf_X12_225 S hE hw 0 rfl rfl dX12_there_8 ?_
    refine lv_icmp_ge (tgt := 60) hx hb dX12_there_11 (by decide) (fun h_1 => ?_) (fun h_1 => ?_)
    · replace hf := tx_pos hf h_1
      refine lv_iload_n hx hb dX12_there_60 rfl (lv_at hl 3 rfl) ?_
      obtain e0 := tx_in1 hf
      rw [← e0]
      exact tx_iret S hr hlk hw dX12_there_61
    · replace hf := tx_neg hf h_1
      refine lv_iload_n hx hb dX12_there_14 rfl (lv_at hl 3 rfl) ?_
      refine lv_aload_n hx hb dX12_there_15 rfl (lv_at hl 0 rfl) ?_
      refine gf_X12_88 S hE hw 0 rfl rfl dX12_there_16 ?_
      refine lv_bipush (v := 12) hx hb dX12_there_19 (by decide) ?_
      refine lv_iload_n hx hb dX12_there_21 rfl (lv_at hl 1 rfl) ?_
      refine lv_imul hx hb dX12_there_22 ?_
      refine lv_iload hx hb dX12_there_23 (lv_at hl 4 rfl) ?_
      refine lv_iadd hx hb dX12_there_25 ?_
      obtain ⟨h_2, hf⟩ := tx_ck_e hf
      refine tx_iald S hE hw 25 rfl h_2 dX12_there_26 ?_
      refine lv_iconst (v := 1) hx hb dX12_there_27 (by decide) ?_
      refine lv_icmp_ne (tgt := 51) hx hb dX12_there_28 (by decide) (fun h_3 => ?_) (fun h_3 => ?_)
      · replace hf := tx_neg hf h_3
        exact J51 hK5 hf hw (lv_sub hl [0, 1, 2, 4] rfl)
      · replace hf := tx_pos hf h_3
        refine lv_aload_n hx hb dX12_there_31 rfl (lv_at hl 0 rfl) ?_
        refine gf_X12_91 S hE hw 0 rfl rfl dX12_there_32 ?_
        refine lv_bipush (v := 12) hx hb dX12_there_35 (by decide) ?_
        refine lv_iload_n hx hb dX12_there_37 rfl (lv_at hl 1 rfl) ?_
        refine lv_imul hx hb dX12_there_38 ?_
        refine lv_iload hx hb dX12_there_39 (lv_at hl 4 rfl) ?_
        refine lv_iadd hx hb dX12_there_41 ?_
        obtain ⟨h_4, hf⟩ := tx_ck_e hf
        refine tx_iald S hE hw 26 rfl h_4 dX12_there_42 ?_
        refine lv_iload_n hx hb dX12_there_43 rfl (lv_at hl 2 rfl) ?_
        refine lv_icmp_ne (tgt := 51) hx hb dX12_there_44 (by decide) (fun h_5 => ?_) (fun h_5 => ?_)
        · replace hf := tx_neg hf h_5
          exact J51 hK5 hf hw (lv_sub hl [0, 1, 2, 4] rfl)
        · replace hf := tx_pos hf h_5
          refine lv_iconst (v := 1) hx hb dX12_there_47 (by decide) ?_
          refine lv_goto (tgt := 52) hx hb dX12_there_48 (by decide) ?_
          exact J52 hK5 hf hw (lv_sub hl [0, 1, 2, 4] rfl)
  have L5 : ∀ (n : Nat), ∀ {w1 : Int32} {w2 : Int32} {w3 : Int32} {w4 : Int32} {H : Heap} {locs : List Loc} {ls : Array Slot}, f_X12_there_L5 fu u_T v_T n w1 w2 w3 w4 = some r → WD g A s.heap (cl_X12 g a_T u_T v_T ++ X) H locs → lv_has ls 5 [(0, .ref (a_T 0)), (1, .int w1), (2, .int w2), (3, .int w3), (4, .int w4)] → W p l e (rmH 0) s m (List.toArray [.ref (a_T 0), .int x1, .int x2]) below meth c H locs 0 0 (MQ below (va_Qi (fun r2 (_ : Unit) => r2 = r) (fun _ t => POST g A (cl_X12 g a_T u_T v_T ++ X) t) A) (List.toArray [.ref (a_T 0), .int x1, .int x2]) s 0 0 A) (F0 m 5 ls []) := by
    intro  n
    induction n with
    | zero => intro w1 w2 w3 w4 H locs ls hf; exact absurd hf (by intro q; cases q)
    | succ n ih => exact fun hf hw hl => J5 ih hf hw hl
  unfold f_X12_there at hf
  refine lv_iconst (v := 0) hx hb dX12_there_0 (by decide) ?_
  refine lv_istore_n (lv' := [(3, .int (0 : Int32)), (0, .ref (a_T 0)), (1, .int x1), (2, .int x2)]) hx hb dX12_there_1 rfl hl (by decide) rfl (fun ls hl => ?_)
  refine lv_iconst (v := 0) hx hb dX12_there_2 (by decide) ?_
  refine lv_istore (lv' := [(4, .int (0 : Int32)), (3, .int (0 : Int32)), (0, .ref (a_T 0)), (1, .int x1), (2, .int x2)]) hx hb dX12_there_3 hl (by decide) rfl (fun ls hl => ?_)
  exact L5 fu hf hw (lv_sub hl [2, 3, 4, 1, 0] rfl)
def f_X12_layNames (fu : Nat) (u_T : S32) (v_T : S64) (x1 : Int32) (x2 : Int32) (x3 : Int32) (x4 : Int32) : Option (S64) := tx_let (up4 v_T 47 (0 : Int32).toNatClampNeg (x2.toInt64)) fun (v_T_1 : S64) => tx_let (up4 v_T_1 47 (1 : Int32).toNatClampNeg (x3.toInt64)) fun (v_T_2 : S64) => tx_ck (((6 : Int32) * x1) + x4) 12 <| tx_let (up4 v_T_2 47 (2 : Int32).toNatClampNeg ((u_T 53 (((6 : Int32) * x1) + x4).toNatClampNeg).toInt64)) fun (v_T_4 : S64) => tx_b1 (f_X12_wilesOf fu u_T v_T_4 x4) fun (r_6 : Int32) => tx_let (up4 v_T_4 47 (3 : Int32).toNatClampNeg (r_6.toInt64)) fun (v_T_7 : S64) => tx_ck (((6 : Int32) * x1) + x4) 12 <| tx_let (up4 v_T_7 47 (4 : Int32).toNatClampNeg ((u_T 56 (((6 : Int32) * x1) + x4).toNatClampNeg).toInt64)) fun (v_T_9 : S64) => tx_b1 (f_X12_there fu u_T v_T_9 x1 x4) fun (r_11 : Int32) => tx_let (up4 v_T_9 47 (5 : Int32).toNatClampNeg (r_11.toInt64)) fun (v_T_12 : S64) => tx_ck x1 2 <| tx_let (up4 v_T_12 47 (6 : Int32).toNatClampNeg ((u_T 59 x1.toNatClampNeg).toInt64)) fun (v_T_14 : S64) => some v_T_14
set_option maxHeartbeats 4000000 in
set_option maxRecDepth 100000 in
theorem c_X12_layNames {l : Launch} {g : GG} {A : Nat → Prop} {X : va_W} {fu : Nat} {a_T : Nat → Nat} {u_T : S32} {v_T : S64} {x1 : Int32} {x2 : Int32} {x3 : Int32} {x4 : Int32} {zv_T : S64} (hf : f_X12_layNames fu u_T v_T x1 x2 x3 x4 = some zv_T) : MV l yX12_layNames cX12_layNames 5 none 1 g A (cl_X12 g a_T u_T v_T ++ X) [.ref (a_T 0), .int x1, .int x2, .int x3, .int x4] (cl_X12 g a_T u_T zv_T ++ X) := by
  refine tx_start (av := [.ref (a_T 0), .int x1, .int x2, .int x3, .int x4]) (by decide) (Nat.le_of_ble_eq_true rfl) ?_
  intro p e s m below meth c ls S hr hlk hE hw hl
  have S : CallFix p m c cX12_layNames 5 s (List.toArray [.ref (a_T 0), .int x1, .int x2, .int x3, .int x4]) (Cond.code yX12_layNames cX12_layNames 5 none :: allW) RX12 := S
  have hx := S.1
  have hb := S.2.1
  have hown := S.2.2.2.1
  have hts : ∀ w ∈ allW, w.before (List.toArray [.ref (a_T 0), .int x1, .int x2, .int x3, .int x4]) s = true := fun w h => S.2.2.2.2 w (List.mem_cons_of_mem _ h)
  have hl : lv_has ls 5 [(0, .ref (a_T 0)), (1, .int x1), (2, .int x2), (3, .int x3), (4, .int x4)] := hl
  unfold f_X12_layNames at hf
  refine lv_aload_n hx hb dX12_layNames_0 rfl (lv_at hl 0 rfl) ?_
  refine gf_X12_81 S hE hw 0 rfl rfl dX12_layNames_1 ?_
  refine lv_iconst (v := 0) hx hb dX12_layNames_4 (by decide) ?_
  refine lv_iload_n hx hb dX12_layNames_5 rfl (lv_at hl 2 rfl) ?_
  refine lv_i2l (v := x2.toInt64) hx hb dX12_layNames_6 rfl ?_
  obtain ⟨v_T_1, ev_T_1⟩ : ∃ z : S64, z = up4 v_T 47 (0 : Int32).toNatClampNeg (x2.toInt64) := ⟨_, rfl⟩
  replace hf := tx_let_e hf ev_T_1
  refine tx_last (ws' := cl_X12 g a_T u_T v_T_1 ++ X) S hE hw 23 rfl (by unfold vp_in; decide) (by rw [ev_T_1]; rfl) dX12_layNames_7 (fun H locs hw => ?_)
  refine lv_aload_n hx hb dX12_layNames_8 rfl (lv_at hl 0 rfl) ?_
  refine gf_X12_81 S hE hw 0 rfl rfl dX12_layNames_9 ?_
  refine lv_iconst (v := 1) hx hb dX12_layNames_12 (by decide) ?_
  refine lv_iload_n hx hb dX12_layNames_13 rfl (lv_at hl 3 rfl) ?_
  refine lv_i2l (v := x3.toInt64) hx hb dX12_layNames_14 rfl ?_
  obtain ⟨v_T_2, ev_T_2⟩ : ∃ z : S64, z = up4 v_T_1 47 (1 : Int32).toNatClampNeg (x3.toInt64) := ⟨_, rfl⟩
  replace hf := tx_let_e hf ev_T_2
  refine tx_last (ws' := cl_X12 g a_T u_T v_T_2 ++ X) S hE hw 23 rfl (by unfold vp_in; decide) (by rw [ev_T_2]; rfl) dX12_layNames_15 (fun H locs hw => ?_)
  refine lv_aload_n hx hb dX12_layNames_16 rfl (lv_at hl 0 rfl) ?_
  refine gf_X12_81 S hE hw 0 rfl rfl dX12_layNames_17 ?_
  refine lv_iconst (v := 2) hx hb dX12_layNames_20 (by decide) ?_
  refine lv_aload_n hx hb dX12_layNames_21 rfl (lv_at hl 0 rfl) ?_
  refine gf_X12_97 S hE hw 0 rfl rfl dX12_layNames_22 ?_
  refine lv_bipush (v := 6) hx hb dX12_layNames_25 (by decide) ?_
  refine lv_iload_n hx hb dX12_layNames_27 rfl (lv_at hl 1 rfl) ?_
  refine lv_imul hx hb dX12_layNames_28 ?_
  refine lv_iload hx hb dX12_layNames_29 (lv_at hl 4 rfl) ?_
  refine lv_iadd hx hb dX12_layNames_31 ?_
  obtain ⟨h_3, hf⟩ := tx_ck_e hf
  refine tx_iald S hE hw 28 rfl h_3 dX12_layNames_32 ?_
  refine lv_i2l (v := (u_T 53 (((6 : Int32) * x1) + x4).toNatClampNeg).toInt64) hx hb dX12_layNames_33 rfl ?_
  obtain ⟨v_T_4, ev_T_4⟩ : ∃ z : S64, z = up4 v_T_2 47 (2 : Int32).toNatClampNeg ((u_T 53 (((6 : Int32) * x1) + x4).toNatClampNeg).toInt64) := ⟨_, rfl⟩
  replace hf := tx_let_e hf ev_T_4
  refine tx_last (ws' := cl_X12 g a_T u_T v_T_4 ++ X) S hE hw 23 rfl (by unfold vp_in; decide) (by rw [ev_T_4]; rfl) dX12_layNames_34 (fun H locs hw => ?_)
  refine lv_aload_n hx hb dX12_layNames_35 rfl (lv_at hl 0 rfl) ?_
  refine gf_X12_81 S hE hw 0 rfl rfl dX12_layNames_36 ?_
  refine lv_iconst (v := 3) hx hb dX12_layNames_39 (by decide) ?_
  refine lv_aload_n hx hb dX12_layNames_40 rfl (lv_at hl 0 rfl) ?_
  refine lv_iload hx hb dX12_layNames_41 (lv_at hl 4 rfl) ?_
  obtain ⟨r_6, h_5, hf⟩ := tx_b1_e hf
  refine tx_ci hw (tx_runV S hE hw (c_X12_wilesOf h_5) lk_X12_386 (q0 := 0) rfl rfl rfl hl.1 (rest := [.int (3 : Int32), .ref (a_T 47)]) rfl (Nat.le_of_ble_eq_true rfl) ⟨by decide, by decide⟩ dX12_layNames_43 ⟨Nat.zero_le _, Nat.zero_le _⟩) (fun H locs hw => ?_)
  refine lv_i2l (v := r_6.toInt64) hx hb dX12_layNames_46 rfl ?_
  obtain ⟨v_T_7, ev_T_7⟩ : ∃ z : S64, z = up4 v_T_4 47 (3 : Int32).toNatClampNeg (r_6.toInt64) := ⟨_, rfl⟩
  replace hf := tx_let_e hf ev_T_7
  refine tx_last (ws' := cl_X12 g a_T u_T v_T_7 ++ X) S hE hw 23 rfl (by unfold vp_in; decide) (by rw [ev_T_7]; rfl) dX12_layNames_47 (fun H locs hw => ?_)
  refine lv_aload_n hx hb dX12_layNames_48 rfl (lv_at hl 0 rfl) ?_
  refine gf_X12_81 S hE hw 0 rfl rfl dX12_layNames_49 ?_
  refine lv_iconst (v := 4) hx hb dX12_layNames_52 (by decide) ?_
  refine lv_aload_n hx hb dX12_layNames_53 rfl (lv_at hl 0 rfl) ?_
  refine gf_X12_106 S hE hw 0 rfl rfl dX12_layNames_54 ?_
  refine lv_bipush (v := 6) hx hb dX12_layNames_57 (by decide) ?_
  refine lv_iload_n hx hb dX12_layNames_59 rfl (lv_at hl 1 rfl) ?_
  refine lv_imul hx hb dX12_layNames_60 ?_
  refine lv_iload hx hb dX12_layNames_61 (lv_at hl 4 rfl) ?_
  refine lv_iadd hx hb dX12_layNames_63 ?_
  obtain ⟨h_8, hf⟩ := tx_ck_e hf
  refine tx_iald S hE hw 31 rfl h_8 dX12_layNames_64 ?_
  refine lv_i2l (v := (u_T 56 (((6 : Int32) * x1) + x4).toNatClampNeg).toInt64) hx hb dX12_layNames_65 rfl ?_
  obtain ⟨v_T_9, ev_T_9⟩ : ∃ z : S64, z = up4 v_T_7 47 (4 : Int32).toNatClampNeg ((u_T 56 (((6 : Int32) * x1) + x4).toNatClampNeg).toInt64) := ⟨_, rfl⟩
  replace hf := tx_let_e hf ev_T_9
  refine tx_last (ws' := cl_X12 g a_T u_T v_T_9 ++ X) S hE hw 23 rfl (by unfold vp_in; decide) (by rw [ev_T_9]; rfl) dX12_layNames_66 (fun H locs hw => ?_)
  refine lv_aload_n hx hb dX12_layNames_67 rfl (lv_at hl 0 rfl) ?_
  refine gf_X12_81 S hE hw 0 rfl rfl dX12_layNames_68 ?_
  refine lv_iconst (v := 5) hx hb dX12_layNames_71 (by decide) ?_
  refine lv_aload_n hx hb dX12_layNames_72 rfl (lv_at hl 0 rfl) ?_
  refine lv_iload_n hx hb dX12_layNames_73 rfl (lv_at hl 1 rfl) ?_
  refine lv_iload hx hb dX12_layNames_74 (lv_at hl 4 rfl) ?_
  obtain ⟨r_11, h_10, hf⟩ := tx_b1_e hf
  refine tx_ci hw (tx_runV S hE hw (c_X12_there h_10) lk_X12_389 (q0 := 0) rfl rfl rfl hl.1 (rest := [.int (5 : Int32), .ref (a_T 47)]) rfl (Nat.le_of_ble_eq_true rfl) ⟨by decide, by decide⟩ dX12_layNames_76 ⟨Nat.zero_le _, Nat.zero_le _⟩) (fun H locs hw => ?_)
  refine lv_i2l (v := r_11.toInt64) hx hb dX12_layNames_79 rfl ?_
  obtain ⟨v_T_12, ev_T_12⟩ : ∃ z : S64, z = up4 v_T_9 47 (5 : Int32).toNatClampNeg (r_11.toInt64) := ⟨_, rfl⟩
  replace hf := tx_let_e hf ev_T_12
  refine tx_last (ws' := cl_X12 g a_T u_T v_T_12 ++ X) S hE hw 23 rfl (by unfold vp_in; decide) (by rw [ev_T_12]; rfl) dX12_layNames_80 (fun H locs hw => ?_)
  refine lv_aload_n hx hb dX12_layNames_81 rfl (lv_at hl 0 rfl) ?_
  refine gf_X12_81 S hE hw 0 rfl rfl dX12_layNames_82 ?_
  refine lv_bipush (v := 6) hx hb dX12_layNames_85 (by decide) ?_
  refine lv_aload_n hx hb dX12_layNames_87 rfl (lv_at hl 0 rfl) ?_
  refine gf_X12_115 S hE hw 0 rfl rfl dX12_layNames_88 ?_
  refine lv_iload_n hx hb dX12_layNames_91 rfl (lv_at hl 1 rfl) ?_
  obtain ⟨h_13, hf⟩ := tx_ck_e hf
  refine tx_iald S hE hw 34 rfl h_13 dX12_layNames_92 ?_
  refine lv_i2l (v := (u_T 59 x1.toNatClampNeg).toInt64) hx hb dX12_layNames_93 rfl ?_
  obtain ⟨v_T_14, ev_T_14⟩ : ∃ z : S64, z = up4 v_T_12 47 (6 : Int32).toNatClampNeg ((u_T 59 x1.toNatClampNeg).toInt64) := ⟨_, rfl⟩
  replace hf := tx_let_e hf ev_T_14
  refine tx_last (ws' := cl_X12 g a_T u_T v_T_14 ++ X) S hE hw 23 rfl (by unfold vp_in; decide) (by rw [ev_T_14]; rfl) dX12_layNames_94 (fun H locs hw => ?_)
  obtain e0 := tx_in1 hf
  rw [← e0]
  exact tx_vret S hr hlk hw dX12_layNames_95
def f_X12_lawOf_J12 (fu : Nat) (K12 : S32 → S64 → Int32 → Int32 → Option (Int64 × S32 × S64)) (u_T : S32) (v_T : S64) (w1 : Int32) (w2 : Int32) : Option (Int64 × S32 × S64) := tx_ck w1 6 <| if (u_T 35 w1.toNatClampNeg) ≤ w2 then (if (u_T 0 48) = (0 : Int32) then (tx_ck w1 6 <| tx_ck ((u_T 35 w1.toNatClampNeg) - (1 : Int32)) 64 <| some (v_T 48 ((u_T 35 w1.toNatClampNeg) - (1 : Int32)).toNatClampNeg, u_T, v_T)) else (some ((0 : Int64), u_T, v_T))) else (tx_b2 (f_X12_valueOf fu v_T u_T w2) fun (r_10 : Int64) (u_T_11 : S32) => tx_ck w2 64 <| tx_let (up4 v_T 48 w2.toNatClampNeg r_10) fun (v_T_13 : S64) => tx_let (w2 + (1 : Int32)) fun (y_14 : Int32) => K12 u_T_11 v_T_13 w1 y_14)
def f_X12_lawOf_L12 (fu : Nat) : Nat → S32 → S64 → Int32 → Int32 → Option (Int64 × S32 × S64)
  | 0 => fun _ _ _ _ => none
  | n + 1 => f_X12_lawOf_J12 fu (f_X12_lawOf_L12 fu n)
def f_X12_lawOf (fu : Nat) (u_T : S32) (v_T : S64) (x1 : Int32) : Option (Int64 × S32 × S64) := tx_let (up2 u_T 0 48 (0 : Int32)) fun (u_T_1 : S32) => tx_ck x1 6 <| tx_let (u_T_1 34 x1.toNatClampNeg) fun (y_3 : Int32) => f_X12_lawOf_L12 fu fu u_T_1 v_T x1 y_3
set_option maxHeartbeats 4000000 in
set_option maxRecDepth 100000 in
theorem c_X12_lawOf {l : Launch} {g : GG} {A : Nat → Prop} {X : va_W} {fu : Nat} {a_T : Nat → Nat} {u_T : S32} {v_T : S64} {x1 : Int32} {r : Int64} {zu_T : S32} {zv_T : S64} (hf : f_X12_lawOf fu  u_T v_T x1 = some (r, zu_T, zv_T)) : ML l yX12_lawOf cX12_lawOf 3 (some .long) 2 g A (cl_X12 g a_T u_T v_T ++ X) [.ref (a_T 0), .int x1] r (cl_X12 g a_T zu_T zv_T ++ X) := by
  refine tx_start (av := [.ref (a_T 0), .int x1]) (by decide) (Nat.le_of_ble_eq_true rfl) ?_
  intro p e s m below meth c ls S hr hlk hE hw hl
  have S : CallFix p m c cX12_lawOf 3 s (List.toArray [.ref (a_T 0), .int x1]) (Cond.code yX12_lawOf cX12_lawOf 3 (some .long) :: allW) RX12 := S
  have hx := S.1
  have hb := S.2.1
  have hown := S.2.2.2.1
  have hts : ∀ w ∈ allW, w.before (List.toArray [.ref (a_T 0), .int x1]) s = true := fun w h => S.2.2.2.2 w (List.mem_cons_of_mem _ h)
  have hl : lv_has ls 3 [(0, .ref (a_T 0)), (1, .int x1)] := hl
  have J12 : ∀ {K12 : S32 → S64 → Int32 → Int32 → Option (Int64 × S32 × S64)} (hK12 : ∀ {u_T : S32} {v_T : S64} {w1 : Int32} {w2 : Int32} {H : Heap} {locs : List Loc} {ls : Array Slot}, K12 u_T v_T w1 w2 = some (r, zu_T, zv_T) → WD g A s.heap (cl_X12 g a_T u_T v_T ++ X) H locs → lv_has ls 3 [(0, .ref (a_T 0)), (1, .int w1), (2, .int w2)] → W p l e (rmH 2) s m (List.toArray [.ref (a_T 0), .int x1]) below meth c H locs 0 0 (MQ below (va_Ql (fun r2 (_ : Unit) => r2 = r) (fun _ t => POST g A (cl_X12 g a_T zu_T zv_T ++ X) t) A) (List.toArray [.ref (a_T 0), .int x1]) s 0 0 A) (F0 m 12 ls [])), ∀ {u_T : S32} {v_T : S64} {w1 : Int32} {w2 : Int32} {H : Heap} {locs : List Loc} {ls : Array Slot}, f_X12_lawOf_J12 fu K12 u_T v_T w1 w2 = some (r, zu_T, zv_T) → WD g A s.heap (cl_X12 g a_T u_T v_T ++ X) H locs → lv_has ls 3 [(0, .ref (a_T 0)), (1, .int w1), (2, .int w2)] → W p l e (rmH 2) s m (List.toArray [.ref (a_T 0), .int x1]) below meth c H locs 0 0 (MQ below (va_Ql (fun r2 (_ : Unit) => r2 = r) (fun _ t => POST g A (cl_X12 g a_T zu_T zv_T ++ X) t) A) (List.toArray [.ref (a_T 0), .int x1]) s 0 0 A) (F0 m 12 ls []) := by
    intro K12 hK12 u_T v_T w1 w2 H locs ls hf hw hl
    unfold f_X12_lawOf_J12 at hf
    refine lv_iload_n hx hb dX12_lawOf_12 rfl (lv_at hl 2 rfl) ?_
    refine lv_aload_n hx hb dX12_lawOf_13 rfl (lv_at hl 0 rfl) ?_
    refine gf_X12_63 S hE hw 0 rfl rfl dX12_lawOf_14 ?_
    refine lv_iload_n hx hb dX12_lawOf_17 rfl (lv_at hl 1 rfl) ?_
    obtain ⟨h_4, hf⟩ := tx_ck_e hf
    refine tx_iald S hE hw 17 rfl h_4 dX12_lawOf_18 ?_
    refine lv_icmp_ge (tgt := 39) hx hb dX12_lawOf_19 (by decide) (fun h_5 => ?_) (fun h_5 => ?_)
    · replace hf := tx_pos hf h_5
      refine lv_aload_n hx hb dX12_lawOf_39 rfl (lv_at hl 0 rfl) ?_
      refine gf_X12_318 S hE hw 0 rfl rfl dX12_lawOf_40 ?_
      refine lv_if_eq (tgt := 50) hx hb dX12_lawOf_43 (by decide) (fun h_6 => ?_) (fun h_6 => ?_)
      · replace hf := tx_pos hf h_6
        refine lv_aload_n hx hb dX12_lawOf_50 rfl (lv_at hl 0 rfl) ?_
        refine gf_X12_85 S hE hw 0 rfl rfl dX12_lawOf_51 ?_
        refine lv_aload_n hx hb dX12_lawOf_54 rfl (lv_at hl 0 rfl) ?_
        refine gf_X12_63 S hE hw 0 rfl rfl dX12_lawOf_55 ?_
        refine lv_iload_n hx hb dX12_lawOf_58 rfl (lv_at hl 1 rfl) ?_
        obtain ⟨h_7, hf⟩ := tx_ck_e hf
        refine tx_iald S hE hw 17 rfl h_7 dX12_lawOf_59 ?_
        refine lv_iconst (v := 1) hx hb dX12_lawOf_60 (by decide) ?_
        refine lv_isub hx hb dX12_lawOf_61 ?_
        obtain ⟨h_8, hf⟩ := tx_ck_e hf
        refine tx_lald S hE hw 24 rfl h_8 dX12_lawOf_62 ?_
        obtain ⟨e0, e1, e2⟩ := tx_in3 hf
        rw [← e0, ← e1, ← e2]
        exact tx_lret S hr hlk hw dX12_lawOf_63
      · replace hf := tx_neg hf h_6
        refine lv_lconst (v := 0) hx hb dX12_lawOf_46 (by decide) ?_
        refine lv_goto (tgt := 63) hx hb dX12_lawOf_47 (by decide) ?_
        obtain ⟨e0, e1, e2⟩ := tx_in3 hf
        rw [← e0, ← e1, ← e2]
        exact tx_lret S hr hlk hw dX12_lawOf_63
    · replace hf := tx_neg hf h_5
      refine lv_aload_n hx hb dX12_lawOf_22 rfl (lv_at hl 0 rfl) ?_
      refine gf_X12_85 S hE hw 0 rfl rfl dX12_lawOf_23 ?_
      refine lv_iload_n hx hb dX12_lawOf_26 rfl (lv_at hl 2 rfl) ?_
      refine lv_aload_n hx hb dX12_lawOf_27 rfl (lv_at hl 0 rfl) ?_
      refine lv_iload_n hx hb dX12_lawOf_28 rfl (lv_at hl 2 rfl) ?_
      obtain ⟨r_10, u_T_11, h_9, hf⟩ := tx_b2_e hf
      refine tx_cl hw (tx_runV S hE hw (c_X12_valueOf h_9) lk_X12_392 (q0 := 0) rfl rfl rfl hl.1 (rest := [.int w2, .ref (a_T 48)]) rfl (Nat.le_of_ble_eq_true rfl) ⟨by decide, by decide⟩ dX12_lawOf_29 ⟨Nat.zero_le _, Nat.zero_le _⟩) (fun H locs hw => ?_)
      obtain ⟨h_12, hf⟩ := tx_ck_e hf
      obtain ⟨v_T_13, ev_T_13⟩ : ∃ z : S64, z = up4 v_T 48 w2.toNatClampNeg r_10 := ⟨_, rfl⟩
      replace hf := tx_let_e hf ev_T_13
      refine tx_last (ws' := cl_X12 g a_T u_T_11 v_T_13 ++ X) S hE hw 24 rfl h_12 (by rw [ev_T_13]; rfl) dX12_lawOf_32 (fun H locs hw => ?_)
      obtain ⟨y_14, ey_14⟩ : ∃ y : Int32, y = w2 + (1 : Int32) := ⟨_, rfl⟩
      replace hf := tx_let_e hf ey_14
      refine lv_iinc (v := y_14) (lv' := [(2, .int y_14), (0, .ref (a_T 0)), (1, .int w1)]) hx hb dX12_lawOf_33 hl (k := 2) rfl (by rw [ey_14]; rfl) (by decide) rfl (fun ls hl => ?_)
      refine lv_goto (tgt := 12) hx hb dX12_lawOf_36 (by decide) ?_
      exact hK12 hf hw (lv_sub hl [1, 2, 0] rfl)
  have L12 : ∀ (n : Nat), ∀ {u_T : S32} {v_T : S64} {w1 : Int32} {w2 : Int32} {H : Heap} {locs : List Loc} {ls : Array Slot}, f_X12_lawOf_L12 fu n u_T v_T w1 w2 = some (r, zu_T, zv_T) → WD g A s.heap (cl_X12 g a_T u_T v_T ++ X) H locs → lv_has ls 3 [(0, .ref (a_T 0)), (1, .int w1), (2, .int w2)] → W p l e (rmH 2) s m (List.toArray [.ref (a_T 0), .int x1]) below meth c H locs 0 0 (MQ below (va_Ql (fun r2 (_ : Unit) => r2 = r) (fun _ t => POST g A (cl_X12 g a_T zu_T zv_T ++ X) t) A) (List.toArray [.ref (a_T 0), .int x1]) s 0 0 A) (F0 m 12 ls []) := by
    intro  n
    induction n with
    | zero => intro u_T v_T w1 w2 H locs ls hf; exact absurd hf (by intro q; cases q)
    | succ n ih => exact fun hf hw hl => J12 ih hf hw hl
  unfold f_X12_lawOf at hf
  refine lv_aload_n hx hb dX12_lawOf_0 rfl (lv_at hl 0 rfl) ?_
  refine lv_iconst (v := 0) hx hb dX12_lawOf_1 (by decide) ?_
  obtain ⟨u_T_1, eu_T_1⟩ : ∃ z : S32, z = up2 u_T 0 48 (0 : Int32) := ⟨_, rfl⟩
  replace hf := tx_let_e hf eu_T_1
  refine pf_X12_318 (ws' := cl_X12 g a_T u_T_1 v_T ++ X) S hE hw (by decide) (by decide) 0 rfl (Nat.le_of_ble_eq_true rfl) (by rw [eu_T_1]; rfl) dX12_lawOf_2 (fun H locs hw => ?_)
  refine lv_aload_n hx hb dX12_lawOf_5 rfl (lv_at hl 0 rfl) ?_
  refine gf_X12_60 S hE hw 0 rfl rfl dX12_lawOf_6 ?_
  refine lv_iload_n hx hb dX12_lawOf_9 rfl (lv_at hl 1 rfl) ?_
  obtain ⟨h_2, hf⟩ := tx_ck_e hf
  refine tx_iald S hE hw 16 rfl h_2 dX12_lawOf_10 ?_
  refine lv_topi (fun y_3 ey_3 => ?_)
  replace hf := tx_let_e hf ey_3
  refine lv_istore_n (lv' := [(2, .int y_3), (0, .ref (a_T 0)), (1, .int x1)]) hx hb dX12_lawOf_11 rfl hl (by decide) rfl (fun ls hl => ?_)
  exact L12 fu hf hw (lv_sub hl [1, 2, 0] rfl)
def f_X12_within (fu : Nat) (x0 : Int32) (x1 : Int32) : Option (Int32) := if (0 : Int32) ≤ x0 then (if x0 ≤ x1 then (some x0) else (some x1)) else (some (0 : Int32))
set_option maxHeartbeats 4000000 in
set_option maxRecDepth 100000 in
theorem c_X12_within {l : Launch} {g : GG} {A : Nat → Prop} {X : va_W} {fu : Nat} {x0 : Int32} {x1 : Int32} {r : Int32} (hf : f_X12_within fu  x0 x1 = some r) : MI l yX12_within cX12_within 2 (some .int) 0 g A (X) [.int x0, .int x1] r (X) := by
  refine tx_start (av := [.int x0, .int x1]) (by decide) (Nat.le_of_ble_eq_true rfl) ?_
  intro p e s m below meth c ls S hr hlk hE hw hl
  have S : CallFix p m c cX12_within 2 s (List.toArray [.int x0, .int x1]) (Cond.code yX12_within cX12_within 2 (some .int) :: allW) RX12 := S
  have hx := S.1
  have hb := S.2.1
  have hown := S.2.2.2.1
  have hts : ∀ w ∈ allW, w.before (List.toArray [.int x0, .int x1]) s = true := fun w h => S.2.2.2.2 w (List.mem_cons_of_mem _ h)
  have hl : lv_has ls 2 [(0, .int x0), (1, .int x1)] := hl
  unfold f_X12_within at hf
  refine lv_iload_n hx hb dX12_within_0 rfl (lv_at hl 0 rfl) ?_
  refine lv_if_ge (tgt := 8) hx hb dX12_within_1 (by decide) (fun h_1 => ?_) (fun h_1 => ?_)
  · replace hf := tx_pos hf h_1
    refine lv_iload_n hx hb dX12_within_8 rfl (lv_at hl 0 rfl) ?_
    refine lv_iload_n hx hb dX12_within_9 rfl (lv_at hl 1 rfl) ?_
    refine lv_icmp_le (tgt := 17) hx hb dX12_within_10 (by decide) (fun h_2 => ?_) (fun h_2 => ?_)
    · replace hf := tx_pos hf h_2
      refine lv_iload_n hx hb dX12_within_17 rfl (lv_at hl 0 rfl) ?_
      obtain e0 := tx_in1 hf
      rw [← e0]
      exact tx_iret S hr hlk hw dX12_within_18
    · replace hf := tx_neg hf h_2
      refine lv_iload_n hx hb dX12_within_13 rfl (lv_at hl 1 rfl) ?_
      refine lv_goto (tgt := 18) hx hb dX12_within_14 (by decide) ?_
      obtain e0 := tx_in1 hf
      rw [← e0]
      exact tx_iret S hr hlk hw dX12_within_18
  · replace hf := tx_neg hf h_1
    refine lv_iconst (v := 0) hx hb dX12_within_4 (by decide) ?_
    refine lv_goto (tgt := 18) hx hb dX12_within_5 (by decide) ?_
    obtain e0 := tx_in1 hf
    rw [← e0]
    exact tx_iret S hr hlk hw dX12_within_18
def f_X12_boundLaw (fu : Nat) (u_T : S32) (v_T : S64) (x1 : Int32) (x2 : Int32) (x3 : Int32) : Option (Int32 × S32 × S64) := tx_ck x1 6 <| if (u_T 33 x1.toNatClampNeg) = (0 : Int32) then (some (x2, u_T, v_T)) else (tx_b3 (f_X12_lawOf fu u_T v_T x1) fun (r_4 : Int64) (u_T_5 : S32) (v_T_6 : S64) => if (u_T_5 0 48) = (0 : Int32) then (if (0 : Int32) ≤ (lg_cmp r_4 (0 : Int64)) then (if (lg_cmp r_4 (x3.toInt64)) ≤ (0 : Int32) then (some (r_4.toInt32, u_T_5, v_T_6)) else (some (x3, u_T_5, v_T_6))) else (some ((0 : Int32), u_T_5, v_T_6))) else (some (x2, u_T_5, v_T_6)))
set_option maxHeartbeats 4000000 in
set_option maxRecDepth 100000 in
theorem c_X12_boundLaw {l : Launch} {g : GG} {A : Nat → Prop} {X : va_W} {fu : Nat} {a_T : Nat → Nat} {u_T : S32} {v_T : S64} {x1 : Int32} {x2 : Int32} {x3 : Int32} {r : Int32} {zu_T : S32} {zv_T : S64} (hf : f_X12_boundLaw fu  u_T v_T x1 x2 x3 = some (r, zu_T, zv_T)) : MI l yX12_boundLaw cX12_boundLaw 6 (some .int) 3 g A (cl_X12 g a_T u_T v_T ++ X) [.ref (a_T 0), .int x1, .int x2, .int x3] r (cl_X12 g a_T zu_T zv_T ++ X) := by
  refine tx_start (av := [.ref (a_T 0), .int x1, .int x2, .int x3]) (by decide) (Nat.le_of_ble_eq_true rfl) ?_
  intro p e s m below meth c ls S hr hlk hE hw hl
  have S : CallFix p m c cX12_boundLaw 6 s (List.toArray [.ref (a_T 0), .int x1, .int x2, .int x3]) (Cond.code yX12_boundLaw cX12_boundLaw 6 (some .int) :: allW) RX12 := S
  have hx := S.1
  have hb := S.2.1
  have hown := S.2.2.2.1
  have hts : ∀ w ∈ allW, w.before (List.toArray [.ref (a_T 0), .int x1, .int x2, .int x3]) s = true := fun w h => S.2.2.2.2 w (List.mem_cons_of_mem _ h)
  have hl : lv_has ls 6 [(0, .ref (a_T 0)), (1, .int x1), (2, .int x2), (3, .int x3)] := hl
  unfold f_X12_boundLaw at hf
  refine lv_aload_n hx hb dX12_boundLaw_0 rfl (lv_at hl 0 rfl) ?_
  refine gf_X12_57 S hE hw 0 rfl rfl dX12_boundLaw_1 ?_
  refine lv_iload_n hx hb dX12_boundLaw_4 rfl (lv_at hl 1 rfl) ?_
  obtain ⟨h_1, hf⟩ := tx_ck_e hf
  refine tx_zald S hE hw 15 rfl h_1 dX12_boundLaw_5 ?_
  refine lv_if_ne (tgt := 11) hx hb dX12_boundLaw_6 (by decide) (fun h_2 => ?_) (fun h_2 => ?_)
  · replace hf := tx_neg hf h_2
    refine lv_aload_n hx hb dX12_boundLaw_11 rfl (lv_at hl 0 rfl) ?_
    refine lv_iload_n hx hb dX12_boundLaw_12 rfl (lv_at hl 1 rfl) ?_
    obtain ⟨r_4, u_T_5, v_T_6, h_3, hf⟩ := tx_b3_e hf
    refine tx_cl hw (tx_runV S hE hw (c_X12_lawOf h_3) lk_X12_396 (q0 := 0) rfl rfl rfl hl.1 (rest := []) rfl (Nat.le_of_ble_eq_true rfl) ⟨by decide, by decide⟩ dX12_boundLaw_13 ⟨Nat.zero_le _, Nat.zero_le _⟩) (fun H locs hw => ?_)
    refine lv_lstore (lv' := [(4, .long r_4), (0, .ref (a_T 0)), (1, .int x1), (2, .int x2), (3, .int x3)]) hx hb dX12_boundLaw_16 hl (by decide) rfl (fun ls hl => ?_)
    refine lv_aload_n hx hb dX12_boundLaw_18 rfl (lv_at hl 1 rfl) ?_
    refine gf_X12_318 S hE hw 0 rfl rfl dX12_boundLaw_19 ?_
    refine lv_if_eq (tgt := 27) hx hb dX12_boundLaw_22 (by decide) (fun h_7 => ?_) (fun h_7 => ?_)
    · replace hf := tx_pos hf h_7
      refine lv_lload hx hb dX12_boundLaw_27 (lv_at hl 0 rfl) ?_
      refine lv_lconst (v := 0) hx hb dX12_boundLaw_29 (by decide) ?_
      refine W.lcmp hx hb dX12_boundLaw_30 ?_
      refine lv_if_ge (tgt := 38) hx hb dX12_boundLaw_31 (by decide) (fun h_8 => ?_) (fun h_8 => ?_)
      · replace hf := tx_pos hf h_8
        refine lv_lload hx hb dX12_boundLaw_38 (lv_at hl 0 rfl) ?_
        refine lv_iload_n hx hb dX12_boundLaw_40 rfl (lv_at hl 4 rfl) ?_
        refine lv_i2l (v := x3.toInt64) hx hb dX12_boundLaw_41 rfl ?_
        refine W.lcmp hx hb dX12_boundLaw_42 ?_
        refine lv_if_le (tgt := 50) hx hb dX12_boundLaw_43 (by decide) (fun h_9 => ?_) (fun h_9 => ?_)
        · replace hf := tx_pos hf h_9
          refine lv_lload hx hb dX12_boundLaw_50 (lv_at hl 0 rfl) ?_
          refine lv_l2i (v := r_4.toInt32) hx hb dX12_boundLaw_52 rfl ?_
          obtain ⟨e0, e1, e2⟩ := tx_in3 hf
          rw [← e0, ← e1, ← e2]
          exact tx_iret S hr hlk hw dX12_boundLaw_53
        · replace hf := tx_neg hf h_9
          refine lv_iload_n hx hb dX12_boundLaw_46 rfl (lv_at hl 4 rfl) ?_
          refine lv_goto (tgt := 53) hx hb dX12_boundLaw_47 (by decide) ?_
          obtain ⟨e0, e1, e2⟩ := tx_in3 hf
          rw [← e0, ← e1, ← e2]
          exact tx_iret S hr hlk hw dX12_boundLaw_53
      · replace hf := tx_neg hf h_8
        refine lv_iconst (v := 0) hx hb dX12_boundLaw_34 (by decide) ?_
        refine lv_goto (tgt := 53) hx hb dX12_boundLaw_35 (by decide) ?_
        obtain ⟨e0, e1, e2⟩ := tx_in3 hf
        rw [← e0, ← e1, ← e2]
        exact tx_iret S hr hlk hw dX12_boundLaw_53
    · replace hf := tx_neg hf h_7
      refine lv_iload_n hx hb dX12_boundLaw_25 rfl (lv_at hl 3 rfl) ?_
      obtain ⟨e0, e1, e2⟩ := tx_in3 hf
      rw [← e0, ← e1, ← e2]
      exact tx_iret S hr hlk hw dX12_boundLaw_26
  · replace hf := tx_pos hf h_2
    refine lv_iload_n hx hb dX12_boundLaw_9 rfl (lv_at hl 2 rfl) ?_
    obtain ⟨e0, e1, e2⟩ := tx_in3 hf
    rw [← e0, ← e1, ← e2]
    exact tx_iret S hr hlk hw dX12_boundLaw_10
def f_X12_readOf (fu : Nat) (u_T : S32) (v_T : S64) (x1 : Int32) (x2 : Int32) (x3 : Int32) (x4 : Int32) : Option (Int32 × S32 × S64) := tx_ck x2 24 <| tx_b1 (f_X12_skillIn fu u_T v_T x4) fun (r_3 : Int32) => tx_b1 (f_X12_layNames fu u_T v_T x1 (u_T 27 x2.toNatClampNeg) r_3 x3) fun (v_T_5 : S64) => tx_b1 (f_X12_skillIn fu u_T v_T_5 x4) fun (r_7 : Int32) => tx_b1 (f_X12_wilesOf fu u_T v_T_5 x3) fun (r_9 : Int32) => tx_ck (((6 : Int32) * x1) + x3) 12 <| tx_b1 (f_X12_within fu ((((10 : Int32) * r_7) - ((5 : Int32) * r_9)) - ((10 : Int32) * (u_T 56 (((6 : Int32) * x1) + x3).toNatClampNeg))) (100 : Int32)) fun (r_12 : Int32) => tx_b3 (f_X12_boundLaw fu u_T v_T_5 (0 : Int32) r_12 (100 : Int32)) fun (r_14 : Int32) (u_T_15 : S32) (v_T_16 : S64) => some (r_14, u_T_15, v_T_16)
set_option maxHeartbeats 4000000 in
set_option maxRecDepth 100000 in
theorem c_X12_readOf {l : Launch} {g : GG} {A : Nat → Prop} {X : va_W} {fu : Nat} {a_T : Nat → Nat} {u_T : S32} {v_T : S64} {x1 : Int32} {x2 : Int32} {x3 : Int32} {x4 : Int32} {r : Int32} {zu_T : S32} {zv_T : S64} (hf : f_X12_readOf fu  u_T v_T x1 x2 x3 x4 = some (r, zu_T, zv_T)) : MI l yX12_readOf cX12_readOf 5 (some .int) 4 g A (cl_X12 g a_T u_T v_T ++ X) [.ref (a_T 0), .int x1, .int x2, .int x3, .int x4] r (cl_X12 g a_T zu_T zv_T ++ X) := by
  refine tx_start (av := [.ref (a_T 0), .int x1, .int x2, .int x3, .int x4]) (by decide) (Nat.le_of_ble_eq_true rfl) ?_
  intro p e s m below meth c ls S hr hlk hE hw hl
  have S : CallFix p m c cX12_readOf 5 s (List.toArray [.ref (a_T 0), .int x1, .int x2, .int x3, .int x4]) (Cond.code yX12_readOf cX12_readOf 5 (some .int) :: allW) RX12 := S
  have hx := S.1
  have hb := S.2.1
  have hown := S.2.2.2.1
  have hts : ∀ w ∈ allW, w.before (List.toArray [.ref (a_T 0), .int x1, .int x2, .int x3, .int x4]) s = true := fun w h => S.2.2.2.2 w (List.mem_cons_of_mem _ h)
  have hl : lv_has ls 5 [(0, .ref (a_T 0)), (1, .int x1), (2, .int x2), (3, .int x3), (4, .int x4)] := hl
  unfold f_X12_readOf at hf
  refine lv_aload_n hx hb dX12_readOf_0 rfl (lv_at hl 0 rfl) ?_
  refine lv_iload_n hx hb dX12_readOf_1 rfl (lv_at hl 1 rfl) ?_
  refine lv_aload_n hx hb dX12_readOf_2 rfl (lv_at hl 0 rfl) ?_
  refine gf_X12_39 S hE hw 0 rfl rfl dX12_readOf_3 ?_
  refine lv_iload_n hx hb dX12_readOf_6 rfl (lv_at hl 2 rfl) ?_
  obtain ⟨h_1, hf⟩ := tx_ck_e hf
  refine tx_iald S hE hw 9 rfl h_1 dX12_readOf_7 ?_
  refine lv_aload_n hx hb dX12_readOf_8 rfl (lv_at hl 0 rfl) ?_
  refine lv_iload hx hb dX12_readOf_9 (lv_at hl 4 rfl) ?_
  obtain ⟨r_3, h_2, hf⟩ := tx_b1_e hf
  refine tx_ci hw (tx_runV S hE hw (c_X12_skillIn h_2) lk_X12_399 (q0 := 0) rfl rfl rfl hl.1 (rest := [.int (u_T 27 x2.toNatClampNeg), .int x1, .ref (a_T 0)]) rfl (Nat.le_of_ble_eq_true rfl) ⟨by decide, by decide⟩ dX12_readOf_11 ⟨Nat.zero_le _, Nat.zero_le _⟩) (fun H locs hw => ?_)
  refine lv_iload_n hx hb dX12_readOf_14 rfl (lv_at hl 3 rfl) ?_
  obtain ⟨v_T_5, h_4, hf⟩ := tx_b1_e hf
  refine tx_cv hw (tx_runV S hE hw (c_X12_layNames h_4) lk_X12_402 (q0 := 0) rfl rfl rfl hl.1 (rest := []) rfl (Nat.le_of_ble_eq_true rfl) ⟨by decide, by decide⟩ dX12_readOf_15 ⟨Nat.zero_le _, Nat.zero_le _⟩) (fun H locs hw => ?_)
  refine lv_aload_n hx hb dX12_readOf_18 rfl (lv_at hl 0 rfl) ?_
  refine lv_iconst (v := 0) hx hb dX12_readOf_19 (by decide) ?_
  refine lv_bipush (v := 10) hx hb dX12_readOf_20 (by decide) ?_
  refine lv_aload_n hx hb dX12_readOf_22 rfl (lv_at hl 0 rfl) ?_
  refine lv_iload hx hb dX12_readOf_23 (lv_at hl 4 rfl) ?_
  obtain ⟨r_7, h_6, hf⟩ := tx_b1_e hf
  refine tx_ci hw (tx_runV S hE hw (c_X12_skillIn h_6) lk_X12_399 (q0 := 0) rfl rfl rfl hl.1 (rest := [.int (10 : Int32), .int (0 : Int32), .ref (a_T 0)]) rfl (Nat.le_of_ble_eq_true rfl) ⟨by decide, by decide⟩ dX12_readOf_25 ⟨Nat.zero_le _, Nat.zero_le _⟩) (fun H locs hw => ?_)
  refine lv_imul hx hb dX12_readOf_28 ?_
  refine lv_iconst (v := 5) hx hb dX12_readOf_29 (by decide) ?_
  refine lv_aload_n hx hb dX12_readOf_30 rfl (lv_at hl 0 rfl) ?_
  refine lv_iload_n hx hb dX12_readOf_31 rfl (lv_at hl 3 rfl) ?_
  obtain ⟨r_9, h_8, hf⟩ := tx_b1_e hf
  refine tx_ci hw (tx_runV S hE hw (c_X12_wilesOf h_8) lk_X12_386 (q0 := 0) rfl rfl rfl hl.1 (rest := [.int (5 : Int32), .int ((10 : Int32) * r_7), .int (0 : Int32), .ref (a_T 0)]) rfl (Nat.le_of_ble_eq_true rfl) ⟨by decide, by decide⟩ dX12_readOf_32 ⟨Nat.zero_le _, Nat.zero_le _⟩) (fun H locs hw => ?_)
  refine lv_imul hx hb dX12_readOf_35 ?_
  refine lv_isub hx hb dX12_readOf_36 ?_
  refine lv_bipush (v := 10) hx hb dX12_readOf_37 (by decide) ?_
  refine lv_aload_n hx hb dX12_readOf_39 rfl (lv_at hl 0 rfl) ?_
  refine gf_X12_106 S hE hw 0 rfl rfl dX12_readOf_40 ?_
  refine lv_bipush (v := 6) hx hb dX12_readOf_43 (by decide) ?_
  refine lv_iload_n hx hb dX12_readOf_45 rfl (lv_at hl 1 rfl) ?_
  refine lv_imul hx hb dX12_readOf_46 ?_
  refine lv_iload_n hx hb dX12_readOf_47 rfl (lv_at hl 3 rfl) ?_
  refine lv_iadd hx hb dX12_readOf_48 ?_
  obtain ⟨h_10, hf⟩ := tx_ck_e hf
  refine tx_iald S hE hw 31 rfl h_10 dX12_readOf_49 ?_
  refine lv_imul hx hb dX12_readOf_50 ?_
  refine lv_isub hx hb dX12_readOf_51 ?_
  refine lv_bipush (v := 100) hx hb dX12_readOf_52 (by decide) ?_
  obtain ⟨r_12, h_11, hf⟩ := tx_b1_e hf
  refine tx_ci hw (tx_runS S hE hw (c_X12_within h_11) lk_X12_406 rfl hl.1 (rest := [.int (0 : Int32), .ref (a_T 0)]) rfl (Nat.le_of_ble_eq_true rfl) ⟨by decide, by decide⟩ dX12_readOf_54 ⟨Nat.zero_le _, Nat.zero_le _⟩) (fun H locs hw => ?_)
  refine lv_bipush (v := 100) hx hb dX12_readOf_57 (by decide) ?_
  obtain ⟨r_14, u_T_15, v_T_16, h_13, hf⟩ := tx_b3_e hf
  refine tx_ci hw (tx_runV S hE hw (c_X12_boundLaw h_13) lk_X12_409 (q0 := 0) rfl rfl rfl hl.1 (rest := []) rfl (Nat.le_of_ble_eq_true rfl) ⟨by decide, by decide⟩ dX12_readOf_59 ⟨Nat.zero_le _, Nat.zero_le _⟩) (fun H locs hw => ?_)
  obtain ⟨e0, e1, e2⟩ := tx_in3 hf
  rw [← e0, ← e1, ← e2]
  exact tx_iret S hr hlk hw dX12_readOf_62
