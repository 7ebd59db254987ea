def f_X12_holds_J55 (fu : Nat) (v_T : S64) (K19 : S32 → Int32 → Int32 → Int32 → Option (Int32 × S32)) (u_T : S32) (w1 : Int32) (w3 : Int32) (t0 : Int32) (t1 : Int32) : Option (Int32 × S32) := tx_let (t0 ||| t1) fun (y_10 : Int32) => tx_let (w3 + (1 : Int32)) fun (y_11 : Int32) => K19 u_T w1 y_10 y_11
def f_X12_holds_J54 (fu : Nat) (v_T : S64) (K19 : S32 → Int32 → Int32 → Int32 → Option (Int32 × S32)) (u_T : S32) (w1 : Int32) (w3 : Int32) (t0 : Int32) : Option (Int32 × S32) := f_X12_holds_J55 fu v_T K19 u_T w1 w3 t0 (0 : Int32)
def f_X12_holds_J19 (fu : Nat) (v_T : S64) (K19 : S32 → Int32 → Int32 → Int32 → Option (Int32 × S32)) (u_T : S32) (w1 : Int32) (w2 : Int32) (w3 : Int32) : Option (Int32 × S32) := if (u_T 0 13) ≤ w3 then (some (w2, u_T)) else (tx_ck w3 24 <| if (u_T 50 w3.toNatClampNeg) = (1 : Int32) then (tx_ck w3 24 <| if (u_T 51 w3.toNatClampNeg) = w1 then (f_X12_holds_J55 fu v_T K19 u_T w1 w3 w2 ((1 : Int32) <<< (w3 &&& 31))) else (f_X12_holds_J54 fu v_T K19 u_T w1 w3 w2)) else (f_X12_holds_J54 fu v_T K19 u_T w1 w3 w2))
def f_X12_holds_L19 (fu : Nat) (v_T : S64) : Nat → S32 → Int32 → Int32 → Int32 → Option (Int32 × S32)
  | 0 => fun _ _ _ _ => none
  | n + 1 => f_X12_holds_J19 fu v_T (f_X12_holds_L19 fu v_T n)
def f_X12_holds (fu : Nat) (v_T : S64) (u_T : S32) (x1 : Int32) : Option (Int32 × S32) := tx_let (up2 u_T 0 2 (0 : Int32)) fun (u_T_1 : S32) => tx_b1 (f_X12_isMan fu u_T_1 v_T x1) fun (r_3 : Int32) => if r_3 = (0 : Int32) then (some ((-1 : Int32), u_T_1)) else (f_X12_holds_L19 fu v_T fu u_T_1 x1 (0 : Int32) (0 : Int32))
set_option maxHeartbeats 4000000 in
set_option maxRecDepth 100000 in
theorem c_X12_holds {l : Launch} {g : GG} {A : Nat → Prop} {X : va_W} {fu : Nat} {a_T : Nat → Nat} {u_T : S32} {v_T : S64} {x1 : Int32} {r : Int32} {zu_T : S32} (hf : f_X12_holds fu v_T u_T x1 = some (r, zu_T)) : MI l yX12_holds cX12_holds 4 (some .int) 1 g A (cl_X12 g a_T u_T v_T ++ X) [.ref (a_T 0), .int x1] r (cl_X12 g a_T zu_T v_T ++ X) := by
  refine tx_start (av := [.ref (a_T 0), .int x1]) (by decide) (Nat.le_of_ble_eq_true rfl) ?_
  intro p e s m below meth c ls S hr hlk hE hw hl
  have S : CallFix p m c cX12_holds 4 s (List.toArray [.ref (a_T 0), .int x1]) (Cond.code yX12_holds cX12_holds 4 (some .int) :: allW) RX12 := S
  have hx := S.1
  have hb := S.2.1
  have hown := S.2.2.2.1
  have hts : ∀ w ∈ allW, w.before (List.toArray [.ref (a_T 0), .int x1]) s = true := fun w h => S.2.2.2.2 w (List.mem_cons_of_mem _ h)
  have hl : lv_has ls 4 [(0, .ref (a_T 0)), (1, .int x1)] := hl
  have J55 : ∀ {K19 : S32 → Int32 → Int32 → Int32 → Option (Int32 × S32)} (hK19 : ∀ {u_T : S32} {w1 : Int32} {w2 : Int32} {w3 : Int32} {H : Heap} {locs : List Loc} {ls : Array Slot}, K19 u_T w1 w2 w3 = some (r, zu_T) → WD g A s.heap (cl_X12 g a_T u_T v_T ++ X) H locs → lv_has ls 4 [(0, .ref (a_T 0)), (1, .int w1), (2, .int w2), (3, .int w3)] → W p l e (rmH 1) s m (List.toArray [.ref (a_T 0), .int x1]) below meth c H locs 0 0 (MQ below (va_Qi (fun r2 (_ : Unit) => r2 = r) (fun _ t => POST g A (cl_X12 g a_T zu_T v_T ++ X) t) A) (List.toArray [.ref (a_T 0), .int x1]) s 0 0 A) (F0 m 19 ls [])), ∀ {u_T : S32} {w1 : Int32} {w3 : Int32} {t0 : Int32} {t1 : Int32} {H : Heap} {locs : List Loc} {ls : Array Slot}, f_X12_holds_J55 fu v_T K19 u_T w1 w3 t0 t1 = some (r, zu_T) → WD g A s.heap (cl_X12 g a_T u_T v_T ++ X) H locs → lv_has ls 4 [(0, .ref (a_T 0)), (1, .int w1), (3, .int w3)] → W p l e (rmH 1) s m (List.toArray [.ref (a_T 0), .int x1]) below meth c H locs 0 0 (MQ below (va_Qi (fun r2 (_ : Unit) => r2 = r) (fun _ t => POST g A (cl_X12 g a_T zu_T v_T ++ X) t) A) (List.toArray [.ref (a_T 0), .int x1]) s 0 0 A) (F0 m 55 ls [.int t1, .int t0]) := by
    intro K19 hK19 u_T w1 w3 t0 t1 H locs ls hf hw hl
    unfold f_X12_holds_J55 at hf
    refine lv_ior hx hb dX12_holds_55 ?_
    refine lv_topi (fun y_10 ey_10 => ?_)
    replace hf := tx_let_e hf ey_10
    refine lv_istore_n (lv' := [(2, .int y_10), (0, .ref (a_T 0)), (1, .int w1), (3, .int w3)]) hx hb dX12_holds_56 rfl hl (by decide) rfl (fun ls hl => ?_)
    obtain ⟨y_11, ey_11⟩ : ∃ y : Int32, y = w3 + (1 : Int32) := ⟨_, rfl⟩
    replace hf := tx_let_e hf ey_11
    refine lv_iinc (v := y_11) (lv' := [(3, .int y_11), (2, .int y_10), (0, .ref (a_T 0)), (1, .int w1)]) hx hb dX12_holds_57 hl (k := 3) rfl (by rw [ey_11]; rfl) (by decide) rfl (fun ls hl => ?_)
    refine lv_goto (tgt := 19) hx hb dX12_holds_60 (by decide) ?_
    exact hK19 hf hw (lv_sub hl [2, 3, 1, 0] rfl)
  have J54 : ∀ {K19 : S32 → Int32 → Int32 → Int32 → Option (Int32 × S32)} (hK19 : ∀ {u_T : S32} {w1 : Int32} {w2 : Int32} {w3 : Int32} {H : Heap} {locs : List Loc} {ls : Array Slot}, K19 u_T w1 w2 w3 = some (r, zu_T) → WD g A s.heap (cl_X12 g a_T u_T v_T ++ X) H locs → lv_has ls 4 [(0, .ref (a_T 0)), (1, .int w1), (2, .int w2), (3, .int w3)] → W p l e (rmH 1) s m (List.toArray [.ref (a_T 0), .int x1]) below meth c H locs 0 0 (MQ below (va_Qi (fun r2 (_ : Unit) => r2 = r) (fun _ t => POST g A (cl_X12 g a_T zu_T v_T ++ X) t) A) (List.toArray [.ref (a_T 0), .int x1]) s 0 0 A) (F0 m 19 ls [])), ∀ {u_T : S32} {w1 : Int32} {w3 : Int32} {t0 : Int32} {H : Heap} {locs : List Loc} {ls : Array Slot}, f_X12_holds_J54 fu v_T K19 u_T w1 w3 t0 = some (r, zu_T) → WD g A s.heap (cl_X12 g a_T u_T v_T ++ X) H locs → lv_has ls 4 [(0, .ref (a_T 0)), (1, .int w1), (3, .int w3)] → W p l e (rmH 1) s m (List.toArray [.ref (a_T 0), .int x1]) below meth c H locs 0 0 (MQ below (va_Qi (fun r2 (_ : Unit) => r2 = r) (fun _ t => POST g A (cl_X12 g a_T zu_T v_T ++ X) t) A) (List.toArray [.ref (a_T 0), .int x1]) s 0 0 A) (F0 m 54 ls [.int t0]) := by
    intro K19 hK19 u_T w1 w3 t0 H locs ls hf hw hl
    unfold f_X12_holds_J54 at hf
    refine lv_iconst (v := 0) hx hb dX12_holds_54 (by decide) ?_
    exact J55 hK19 hf hw (lv_sub hl [0, 1, 2] rfl)
  have J19 : ∀ {K19 : S32 → Int32 → Int32 → Int32 → Option (Int32 × S32)} (hK19 : ∀ {u_T : S32} {w1 : Int32} {w2 : Int32} {w3 : Int32} {H : Heap} {locs : List Loc} {ls : Array Slot}, K19 u_T w1 w2 w3 = some (r, zu_T) → WD g A s.heap (cl_X12 g a_T u_T v_T ++ X) H locs → lv_has ls 4 [(0, .ref (a_T 0)), (1, .int w1), (2, .int w2), (3, .int w3)] → W p l e (rmH 1) s m (List.toArray [.ref (a_T 0), .int x1]) below meth c H locs 0 0 (MQ below (va_Qi (fun r2 (_ : Unit) => r2 = r) (fun _ t => POST g A (cl_X12 g a_T zu_T v_T ++ X) t) A) (List.toArray [.ref (a_T 0), .int x1]) s 0 0 A) (F0 m 19 ls [])), ∀ {u_T : S32} {w1 : Int32} {w2 : Int32} {w3 : Int32} {H : Heap} {locs : List Loc} {ls : Array Slot}, f_X12_holds_J19 fu v_T K19 u_T w1 w2 w3 = some (r, zu_T) → WD g A s.heap (cl_X12 g a_T u_T v_T ++ X) H locs → lv_has ls 4 [(0, .ref (a_T 0)), (1, .int w1), (2, .int w2), (3, .int w3)] → W p l e (rmH 1) s m (List.toArray [.ref (a_T 0), .int x1]) below meth c H locs 0 0 (MQ below (va_Qi (fun r2 (_ : Unit) => r2 = r) (fun _ t => POST g A (cl_X12 g a_T zu_T v_T ++ X) t) A) (List.toArray [.ref (a_T 0), .int x1]) s 0 0 A) (F0 m 19 ls []) := by
    intro K19 hK19 u_T w1 w2 w3 H locs ls hf hw hl
    unfold f_X12_holds_J19 at hf
    refine lv_iload_n hx hb dX12_holds_19 rfl (lv_at hl 3 rfl) ?_
    refine lv_aload_n hx hb dX12_holds_20 rfl (lv_at hl 0 rfl) ?_
    refine gf_X12_225 S hE hw 0 rfl rfl dX12_holds_21 ?_
    refine lv_icmp_ge (tgt := 63) hx hb dX12_holds_24 (by decide) (fun h_5 => ?_) (fun h_5 => ?_)
    · replace hf := tx_pos hf h_5
      refine lv_iload_n hx hb dX12_holds_63 rfl (lv_at hl 2 rfl) ?_
      obtain ⟨e0, e1⟩ := tx_in2 hf
      rw [← e0, ← e1]
      exact tx_iret S hr hlk hw dX12_holds_64
    · replace hf := tx_neg hf h_5
      refine lv_iload_n hx hb dX12_holds_27 rfl (lv_at hl 2 rfl) ?_
      refine lv_aload_n hx hb dX12_holds_28 rfl (lv_at hl 0 rfl) ?_
      refine gf_X12_88 S hE hw 0 rfl rfl dX12_holds_29 ?_
      refine lv_iload_n hx hb dX12_holds_32 rfl (lv_at hl 3 rfl) ?_
      obtain ⟨h_6, hf⟩ := tx_ck_e hf
      refine tx_iald S hE hw 25 rfl h_6 dX12_holds_33 ?_
      refine lv_iconst (v := 1) hx hb dX12_holds_34 (by decide) ?_
      refine lv_icmp_ne (tgt := 54) hx hb dX12_holds_35 (by decide) (fun h_7 => ?_) (fun h_7 => ?_)
      · replace hf := tx_neg hf h_7
        exact J54 hK19 hf hw (lv_sub hl [0, 1, 3] rfl)
      · replace hf := tx_pos hf h_7
        refine lv_aload_n hx hb dX12_holds_38 rfl (lv_at hl 0 rfl) ?_
        refine gf_X12_91 S hE hw 0 rfl rfl dX12_holds_39 ?_
        refine lv_iload_n hx hb dX12_holds_42 rfl (lv_at hl 3 rfl) ?_
        obtain ⟨h_8, hf⟩ := tx_ck_e hf
        refine tx_iald S hE hw 26 rfl h_8 dX12_holds_43 ?_
        refine lv_iload_n hx hb dX12_holds_44 rfl (lv_at hl 1 rfl) ?_
        refine lv_icmp_ne (tgt := 54) hx hb dX12_holds_45 (by decide) (fun h_9 => ?_) (fun h_9 => ?_)
        · replace hf := tx_neg hf h_9
          exact J54 hK19 hf hw (lv_sub hl [0, 1, 3] rfl)
        · replace hf := tx_pos hf h_9
          refine lv_iconst (v := 1) hx hb dX12_holds_48 (by decide) ?_
          refine lv_iload_n hx hb dX12_holds_49 rfl (lv_at hl 3 rfl) ?_
          refine lv_ishl hx hb dX12_holds_50 ?_
          refine lv_goto (tgt := 55) hx hb dX12_holds_51 (by decide) ?_
          exact J55 hK19 hf hw (lv_sub hl [0, 1, 3] rfl)
  have L19 : ∀ (n : Nat), ∀ {u_T : S32} {w1 : Int32} {w2 : Int32} {w3 : Int32} {H : Heap} {locs : List Loc} {ls : Array Slot}, f_X12_holds_L19 fu v_T n u_T w1 w2 w3 = some (r, zu_T) → WD g A s.heap (cl_X12 g a_T u_T v_T ++ X) H locs → lv_has ls 4 [(0, .ref (a_T 0)), (1, .int w1), (2, .int w2), (3, .int w3)] → W p l e (rmH 1) s m (List.toArray [.ref (a_T 0), .int x1]) below meth c H locs 0 0 (MQ below (va_Qi (fun r2 (_ : Unit) => r2 = r) (fun _ t => POST g A (cl_X12 g a_T zu_T v_T ++ X) t) A) (List.toArray [.ref (a_T 0), .int x1]) s 0 0 A) (F0 m 19 ls []) := by
    intro  n
    induction n with
    | zero => intro u_T w1 w2 w3 H locs ls hf; exact absurd hf (by intro q; cases q)
    | succ n ih => exact fun hf hw hl => J19 ih hf hw hl
  unfold f_X12_holds at hf
  refine lv_aload_n hx hb dX12_holds_0 rfl (lv_at hl 0 rfl) ?_
  refine lv_iconst (v := 0) hx hb dX12_holds_1 (by decide) ?_
  obtain ⟨u_T_1, eu_T_1⟩ : ∃ z : S32, z = up2 u_T 0 2 (0 : Int32) := ⟨_, rfl⟩
  replace hf := tx_let_e hf eu_T_1
  refine pf_X12_145 (ws' := cl_X12 g a_T u_T_1 v_T ++ X) S hE hw rfl rfl 0 rfl (Nat.le_of_ble_eq_true rfl) (by rw [eu_T_1]; rfl) dX12_holds_2 (fun H locs hw => ?_)
  refine lv_aload_n hx hb dX12_holds_5 rfl (lv_at hl 0 rfl) ?_
  refine lv_iload_n hx hb dX12_holds_6 rfl (lv_at hl 1 rfl) ?_
  obtain ⟨r_3, h_2, hf⟩ := tx_b1_e hf
  refine tx_ci hw (tx_runV S hE hw (c_X12_isMan h_2) lk_X12_460 (q0 := 0) rfl rfl rfl hl.1 (rest := []) rfl (Nat.le_of_ble_eq_true rfl) ⟨by decide, by decide⟩ dX12_holds_7 ⟨Nat.zero_le _, Nat.zero_le _⟩) (fun H locs hw => ?_)
  refine lv_if_ne (tgt := 15) hx hb dX12_holds_10 (by decide) (fun h_4 => ?_) (fun h_4 => ?_)
  · replace hf := tx_neg hf h_4
    refine lv_iconst (v := 0) hx hb dX12_holds_15 (by decide) ?_
    refine lv_istore_n (lv' := [(2, .int (0 : Int32)), (0, .ref (a_T 0)), (1, .int x1)]) hx hb dX12_holds_16 rfl hl (by decide) rfl (fun ls hl => ?_)
    refine lv_iconst (v := 0) hx hb dX12_holds_17 (by decide) ?_
    refine lv_istore_n (lv' := [(3, .int (0 : Int32)), (2, .int (0 : Int32)), (0, .ref (a_T 0)), (1, .int x1)]) hx hb dX12_holds_18 rfl hl (by decide) rfl (fun ls hl => ?_)
    exact L19 fu hf hw (lv_sub hl [2, 3, 1, 0] rfl)
  · replace hf := tx_pos hf h_4
    refine lv_iconst (v := -1) hx hb dX12_holds_13 (by decide) ?_
    obtain ⟨e0, e1⟩ := tx_in2 hf
    rw [← e0, ← e1]
    exact tx_iret S hr hlk hw dX12_holds_14
def f_X12_hidden_J50 (fu : Nat) (v_T : S64) (K9 : S32 → Int32 → Int32 → Option (Int32 × S32)) (u_T : S32) (w2 : Int32) (t0 : Int32) (t1 : Int32) : Option (Int32 × S32) := tx_let (t0 ||| t1) fun (y_8 : Int32) => tx_let (w2 + (1 : Int32)) fun (y_9 : Int32) => K9 u_T y_8 y_9
def f_X12_hidden_J49 (fu : Nat) (v_T : S64) (K9 : S32 → Int32 → Int32 → Option (Int32 × S32)) (u_T : S32) (w2 : Int32) (t0 : Int32) : Option (Int32 × S32) := f_X12_hidden_J50 fu v_T K9 u_T w2 t0 (0 : Int32)
def f_X12_hidden_J9 (fu : Nat) (v_T : S64) (K9 : S32 → Int32 → Int32 → Option (Int32 × S32)) (u_T : S32) (w1 : Int32) (w2 : Int32) : Option (Int32 × S32) := if (u_T 0 13) ≤ w2 then (some (w1, u_T)) else (tx_ck w2 24 <| if (u_T 50 w2.toNatClampNeg) = (1 : Int32) then (tx_ck w2 24 <| tx_ck w2 24 <| if (u_T 51 w2.toNatClampNeg) = (u_T 26 w2.toNatClampNeg) then (f_X12_hidden_J49 fu v_T K9 u_T w2 w1) else (f_X12_hidden_J50 fu v_T K9 u_T w2 w1 ((1 : Int32) <<< (w2 &&& 31)))) else (f_X12_hidden_J49 fu v_T K9 u_T w2 w1))
def f_X12_hidden_L9 (fu : Nat) (v_T : S64) : Nat → S32 → Int32 → Int32 → Option (Int32 × S32)
  | 0 => fun _ _ _ => none
  | n + 1 => f_X12_hidden_J9 fu v_T (f_X12_hidden_L9 fu v_T n)
def f_X12_hidden (fu : Nat) (v_T : S64) (u_T : S32) : Option (Int32 × S32) := tx_let (up2 u_T 0 2 (0 : Int32)) fun (u_T_1 : S32) => f_X12_hidden_L9 fu v_T fu u_T_1 (0 : Int32) (0 : Int32)
set_option maxHeartbeats 4000000 in
set_option maxRecDepth 100000 in
theorem c_X12_hidden {l : Launch} {g : GG} {A : Nat → Prop} {X : va_W} {fu : Nat} {a_T : Nat → Nat} {u_T : S32} {v_T : S64} {r : Int32} {zu_T : S32} (hf : f_X12_hidden fu v_T u_T = some (r, zu_T)) : MI l yX12_hidden cX12_hidden 3 (some .int) 0 g A (cl_X12 g a_T u_T v_T ++ X) [.ref (a_T 0)] r (cl_X12 g a_T zu_T v_T ++ X) := by
  refine tx_start (av := [.ref (a_T 0)]) (by decide) (Nat.le_of_ble_eq_true rfl) ?_
  intro p e s m below meth c ls S hr hlk hE hw hl
  have S : CallFix p m c cX12_hidden 3 s (List.toArray [.ref (a_T 0)]) (Cond.code yX12_hidden cX12_hidden 3 (some .int) :: allW) RX12 := S
  have hx := S.1
  have hb := S.2.1
  have hown := S.2.2.2.1
  have hts : ∀ w ∈ allW, w.before (List.toArray [.ref (a_T 0)]) s = true := fun w h => S.2.2.2.2 w (List.mem_cons_of_mem _ h)
  have hl : lv_has ls 3 [(0, .ref (a_T 0))] := hl
  have J50 : ∀ {K9 : S32 → Int32 → Int32 → Option (Int32 × S32)} (hK9 : ∀ {u_T : S32} {w1 : Int32} {w2 : Int32} {H : Heap} {locs : List Loc} {ls : Array Slot}, K9 u_T w1 w2 = some (r, zu_T) → WD g A s.heap (cl_X12 g a_T u_T v_T ++ X) H locs → lv_has ls 3 [(0, .ref (a_T 0)), (1, .int w1), (2, .int w2)] → W p l e (rmH 0) s m (List.toArray [.ref (a_T 0)]) below meth c H locs 0 0 (MQ below (va_Qi (fun r2 (_ : Unit) => r2 = r) (fun _ t => POST g A (cl_X12 g a_T zu_T v_T ++ X) t) A) (List.toArray [.ref (a_T 0)]) s 0 0 A) (F0 m 9 ls [])), ∀ {u_T : S32} {w2 : Int32} {t0 : Int32} {t1 : Int32} {H : Heap} {locs : List Loc} {ls : Array Slot}, f_X12_hidden_J50 fu v_T K9 u_T w2 t0 t1 = some (r, zu_T) → WD g A s.heap (cl_X12 g a_T u_T v_T ++ X) H locs → lv_has ls 3 [(0, .ref (a_T 0)), (2, .int w2)] → W p l e (rmH 0) s m (List.toArray [.ref (a_T 0)]) below meth c H locs 0 0 (MQ below (va_Qi (fun r2 (_ : Unit) => r2 = r) (fun _ t => POST g A (cl_X12 g a_T zu_T v_T ++ X) t) A) (List.toArray [.ref (a_T 0)]) s 0 0 A) (F0 m 50 ls [.int t1, .int t0]) := by
    intro K9 hK9 u_T w2 t0 t1 H locs ls hf hw hl
    unfold f_X12_hidden_J50 at hf
    refine lv_ior hx hb dX12_hidden_50 ?_
    refine lv_topi (fun y_8 ey_8 => ?_)
    replace hf := tx_let_e hf ey_8
    refine lv_istore_n (lv' := [(1, .int y_8), (0, .ref (a_T 0)), (2, .int w2)]) hx hb dX12_hidden_51 rfl hl (by decide) rfl (fun ls hl => ?_)
    obtain ⟨y_9, ey_9⟩ : ∃ y : Int32, y = w2 + (1 : Int32) := ⟨_, rfl⟩
    replace hf := tx_let_e hf ey_9
    refine lv_iinc (v := y_9) (lv' := [(2, .int y_9), (1, .int y_8), (0, .ref (a_T 0))]) hx hb dX12_hidden_52 hl (k := 2) rfl (by rw [ey_9]; rfl) (by decide) rfl (fun ls hl => ?_)
    refine lv_goto (tgt := 9) hx hb dX12_hidden_55 (by decide) ?_
    exact hK9 hf hw (lv_sub hl [2, 1, 0] rfl)
  have J49 : ∀ {K9 : S32 → Int32 → Int32 → Option (Int32 × S32)} (hK9 : ∀ {u_T : S32} {w1 : Int32} {w2 : Int32} {H : Heap} {locs : List Loc} {ls : Array Slot}, K9 u_T w1 w2 = some (r, zu_T) → WD g A s.heap (cl_X12 g a_T u_T v_T ++ X) H locs → lv_has ls 3 [(0, .ref (a_T 0)), (1, .int w1), (2, .int w2)] → W p l e (rmH 0) s m (List.toArray [.ref (a_T 0)]) below meth c H locs 0 0 (MQ below (va_Qi (fun r2 (_ : Unit) => r2 = r) (fun _ t => POST g A (cl_X12 g a_T zu_T v_T ++ X) t) A) (List.toArray [.ref (a_T 0)]) s 0 0 A) (F0 m 9 ls [])), ∀ {u_T : S32} {w2 : Int32} {t0 : Int32} {H : Heap} {locs : List Loc} {ls : Array Slot}, f_X12_hidden_J49 fu v_T K9 u_T w2 t0 = some (r, zu_T) → WD g A s.heap (cl_X12 g a_T u_T v_T ++ X) H locs → lv_has ls 3 [(0, .ref (a_T 0)), (2, .int w2)] → W p l e (rmH 0) s m (List.toArray [.ref (a_T 0)]) below meth c H locs 0 0 (MQ below (va_Qi (fun r2 (_ : Unit) => r2 = r) (fun _ t => POST g A (cl_X12 g a_T zu_T v_T ++ X) t) A) (List.toArray [.ref (a_T 0)]) s 0 0 A) (F0 m 49 ls [.int t0]) := by
    intro K9 hK9 u_T w2 t0 H locs ls hf hw hl
    unfold f_X12_hidden_J49 at hf
    refine lv_iconst (v := 0) hx hb dX12_hidden_49 (by decide) ?_
    exact J50 hK9 hf hw (lv_sub hl [0, 1] rfl)
  have J9 : ∀ {K9 : S32 → Int32 → Int32 → Option (Int32 × S32)} (hK9 : ∀ {u_T : S32} {w1 : Int32} {w2 : Int32} {H : Heap} {locs : List Loc} {ls : Array Slot}, K9 u_T w1 w2 = some (r, zu_T) → WD g A s.heap (cl_X12 g a_T u_T v_T ++ X) H locs → lv_has ls 3 [(0, .ref (a_T 0)), (1, .int w1), (2, .int w2)] → W p l e (rmH 0) s m (List.toArray [.ref (a_T 0)]) below meth c H locs 0 0 (MQ below (va_Qi (fun r2 (_ : Unit) => r2 = r) (fun _ t => POST g A (cl_X12 g a_T zu_T v_T ++ X) t) A) (List.toArray [.ref (a_T 0)]) s 0 0 A) (F0 m 9 ls [])), ∀ {u_T : S32} {w1 : Int32} {w2 : Int32} {H : Heap} {locs : List Loc} {ls : Array Slot}, f_X12_hidden_J9 fu v_T K9 u_T w1 w2 = some (r, zu_T) → WD g A s.heap (cl_X12 g a_T u_T v_T ++ X) H locs → lv_has ls 3 [(0, .ref (a_T 0)), (1, .int w1), (2, .int w2)] → W p l e (rmH 0) s m (List.toArray [.ref (a_T 0)]) below meth c H locs 0 0 (MQ below (va_Qi (fun r2 (_ : Unit) => r2 = r) (fun _ t => POST g A (cl_X12 g a_T zu_T v_T ++ X) t) A) (List.toArray [.ref (a_T 0)]) s 0 0 A) (F0 m 9 ls []) := by
    intro K9 hK9 u_T w1 w2 H locs ls hf hw hl
    unfold f_X12_hidden_J9 at hf
    refine lv_iload_n hx hb dX12_hidden_9 rfl (lv_at hl 2 rfl) ?_
    refine lv_aload_n hx hb dX12_hidden_10 rfl (lv_at hl 0 rfl) ?_
    refine gf_X12_225 S hE hw 0 rfl rfl dX12_hidden_11 ?_
    refine lv_icmp_ge (tgt := 58) hx hb dX12_hidden_14 (by decide) (fun h_2 => ?_) (fun h_2 => ?_)
    · replace hf := tx_pos hf h_2
      refine lv_iload_n hx hb dX12_hidden_58 rfl (lv_at hl 1 rfl) ?_
      obtain ⟨e0, e1⟩ := tx_in2 hf
      rw [← e0, ← e1]
      exact tx_iret S hr hlk hw dX12_hidden_59
    · replace hf := tx_neg hf h_2
      refine lv_iload_n hx hb dX12_hidden_17 rfl (lv_at hl 1 rfl) ?_
      refine lv_aload_n hx hb dX12_hidden_18 rfl (lv_at hl 0 rfl) ?_
      refine gf_X12_88 S hE hw 0 rfl rfl dX12_hidden_19 ?_
      refine lv_iload_n hx hb dX12_hidden_22 rfl (lv_at hl 2 rfl) ?_
      obtain ⟨h_3, hf⟩ := tx_ck_e hf
      refine tx_iald S hE hw 25 rfl h_3 dX12_hidden_23 ?_
      refine lv_iconst (v := 1) hx hb dX12_hidden_24 (by decide) ?_
      refine lv_icmp_ne (tgt := 49) hx hb dX12_hidden_25 (by decide) (fun h_4 => ?_) (fun h_4 => ?_)
      · replace hf := tx_neg hf h_4
        exact J49 hK9 hf hw (lv_sub hl [0, 2] rfl)
      · replace hf := tx_pos hf h_4
        refine lv_aload_n hx hb dX12_hidden_28 rfl (lv_at hl 0 rfl) ?_
        refine gf_X12_91 S hE hw 0 rfl rfl dX12_hidden_29 ?_
        refine lv_iload_n hx hb dX12_hidden_32 rfl (lv_at hl 2 rfl) ?_
        obtain ⟨h_5, hf⟩ := tx_ck_e hf
        refine tx_iald S hE hw 26 rfl h_5 dX12_hidden_33 ?_
        refine lv_aload_n hx hb dX12_hidden_34 rfl (lv_at hl 0 rfl) ?_
        refine gf_X12_36 S hE hw 0 rfl rfl dX12_hidden_35 ?_
        refine lv_iload_n hx hb dX12_hidden_38 rfl (lv_at hl 2 rfl) ?_
        obtain ⟨h_6, hf⟩ := tx_ck_e hf
        refine tx_iald S hE hw 8 rfl h_6 dX12_hidden_39 ?_
        refine lv_icmp_eq (tgt := 49) hx hb dX12_hidden_40 (by decide) (fun h_7 => ?_) (fun h_7 => ?_)
        · replace hf := tx_pos hf h_7
          exact J49 hK9 hf hw (lv_sub hl [0, 2] rfl)
        · replace hf := tx_neg hf h_7
          refine lv_iconst (v := 1) hx hb dX12_hidden_43 (by decide) ?_
          refine lv_iload_n hx hb dX12_hidden_44 rfl (lv_at hl 2 rfl) ?_
          refine lv_ishl hx hb dX12_hidden_45 ?_
          refine lv_goto (tgt := 50) hx hb dX12_hidden_46 (by decide) ?_
          exact J50 hK9 hf hw (lv_sub hl [0, 2] rfl)
  have L9 : ∀ (n : Nat), ∀ {u_T : S32} {w1 : Int32} {w2 : Int32} {H : Heap} {locs : List Loc} {ls : Array Slot}, f_X12_hidden_L9 fu v_T n u_T w1 w2 = some (r, zu_T) → WD g A s.heap (cl_X12 g a_T u_T v_T ++ X) H locs → lv_has ls 3 [(0, .ref (a_T 0)), (1, .int w1), (2, .int w2)] → W p l e (rmH 0) s m (List.toArray [.ref (a_T 0)]) below meth c H locs 0 0 (MQ below (va_Qi (fun r2 (_ : Unit) => r2 = r) (fun _ t => POST g A (cl_X12 g a_T zu_T v_T ++ X) t) A) (List.toArray [.ref (a_T 0)]) s 0 0 A) (F0 m 9 ls []) := by
    intro  n
    induction n with
    | zero => intro u_T w1 w2 H locs ls hf; exact absurd hf (by intro q; cases q)
    | succ n ih => exact fun hf hw hl => J9 ih hf hw hl
  unfold f_X12_hidden at hf
  refine lv_aload_n hx hb dX12_hidden_0 rfl (lv_at hl 0 rfl) ?_
  refine lv_iconst (v := 0) hx hb dX12_hidden_1 (by decide) ?_
  obtain ⟨u_T_1, eu_T_1⟩ : ∃ z : S32, z = up2 u_T 0 2 (0 : Int32) := ⟨_, rfl⟩
  replace hf := tx_let_e hf eu_T_1
  refine pf_X12_145 (ws' := cl_X12 g a_T u_T_1 v_T ++ X) S hE hw rfl rfl 0 rfl (Nat.le_of_ble_eq_true rfl) (by rw [eu_T_1]; rfl) dX12_hidden_2 (fun H locs hw => ?_)
  refine lv_iconst (v := 0) hx hb dX12_hidden_5 (by decide) ?_
  refine lv_istore_n (lv' := [(1, .int (0 : Int32)), (0, .ref (a_T 0))]) hx hb dX12_hidden_6 rfl hl (by decide) rfl (fun ls hl => ?_)
  refine lv_iconst (v := 0) hx hb dX12_hidden_7 (by decide) ?_
  refine lv_istore_n (lv' := [(2, .int (0 : Int32)), (1, .int (0 : Int32)), (0, .ref (a_T 0))]) hx hb dX12_hidden_8 rfl hl (by decide) rfl (fun ls hl => ?_)
  exact L9 fu hf hw (lv_sub hl [2, 1, 0] rfl)
def f_X12_debtor_J51 (fu : Nat) (v_T : S64) (K10 : S32 → Int32 → Int32 → Option (Int32 × S32)) (u_T : S32) (w2 : Int32) (t0 : Int32) : Option (Int32 × S32) := tx_let (w2 + (1 : Int32)) fun (y_9 : Int32) => K10 u_T t0 y_9
def f_X12_debtor_J46 (fu : Nat) (v_T : S64) (K10 : S32 → Int32 → Int32 → Option (Int32 × S32)) (u_T : S32) (w2 : Int32) : Option (Int32 × S32) := f_X12_debtor_J51 fu v_T K10 u_T w2 w2
def f_X12_debtor_J50 (fu : Nat) (v_T : S64) (K10 : S32 → Int32 → Int32 → Option (Int32 × S32)) (u_T : S32) (w1 : Int32) (w2 : Int32) : Option (Int32 × S32) := f_X12_debtor_J51 fu v_T K10 u_T w2 w1
def f_X12_debtor_J10 (fu : Nat) (v_T : S64) (K10 : S32 → Int32 → Int32 → Option (Int32 × S32)) (u_T : S32) (w1 : Int32) (w2 : Int32) : Option (Int32 × S32) := if (u_T 0 12) ≤ w2 then (some (w1, u_T)) else (tx_ck w2 12 <| if (u_T 55 w2.toNatClampNeg) ≤ (0 : Int32) then (f_X12_debtor_J50 fu v_T K10 u_T w1 w2) else (if w1 < (0 : Int32) then (f_X12_debtor_J46 fu v_T K10 u_T w2) else (tx_ck w2 12 <| tx_ck w1 12 <| if (u_T 55 w2.toNatClampNeg) ≤ (u_T 55 w1.toNatClampNeg) then (f_X12_debtor_J50 fu v_T K10 u_T w1 w2) else (f_X12_debtor_J46 fu v_T K10 u_T w2))))
def f_X12_debtor_L10 (fu : Nat) (v_T : S64) : Nat → S32 → Int32 → Int32 → Option (Int32 × S32)
  | 0 => fun _ _ _ => none
  | n + 1 => f_X12_debtor_J10 fu v_T (f_X12_debtor_L10 fu v_T n)
def f_X12_debtor (fu : Nat) (v_T : S64) (u_T : S32) : Option (Int32 × S32) := tx_let (up2 u_T 0 2 (0 : Int32)) fun (u_T_1 : S32) => f_X12_debtor_L10 fu v_T fu u_T_1 (-2 : Int32) (0 : Int32)
set_option maxHeartbeats 4000000 in
set_option maxRecDepth 100000 in
theorem c_X12_debtor {l : Launch} {g : GG} {A : Nat → Prop} {X : va_W} {fu : Nat} {a_T : Nat → Nat} {u_T : S32} {v_T : S64} {r : Int32} {zu_T : S32} (hf : f_X12_debtor fu v_T u_T = some (r, zu_T)) : MI l yX12_debtor cX12_debtor 3 (some .int) 0 g A (cl_X12 g a_T u_T v_T ++ X) [.ref (a_T 0)] r (cl_X12 g a_T zu_T v_T ++ X) := by
  refine tx_start (av := [.ref (a_T 0)]) (by decide) (Nat.le_of_ble_eq_true rfl) ?_
  intro p e s m below meth c ls S hr hlk hE hw hl
  have S : CallFix p m c cX12_debtor 3 s (List.toArray [.ref (a_T 0)]) (Cond.code yX12_debtor cX12_debtor 3 (some .int) :: allW) RX12 := S
  have hx := S.1
  have hb := S.2.1
  have hown := S.2.2.2.1
  have hts : ∀ w ∈ allW, w.before (List.toArray [.ref (a_T 0)]) s = true := fun w h => S.2.2.2.2 w (List.mem_cons_of_mem _ h)
  have hl : lv_has ls 3 [(0, .ref (a_T 0))] := hl
  have J51 : ∀ {K10 : S32 → Int32 → Int32 → Option (Int32 × S32)} (hK10 : ∀ {u_T : S32} {w1 : Int32} {w2 : Int32} {H : Heap} {locs : List Loc} {ls : Array Slot}, K10 u_T w1 w2 = some (r, zu_T) → WD g A s.heap (cl_X12 g a_T u_T v_T ++ X) H locs → lv_has ls 3 [(0, .ref (a_T 0)), (1, .int w1), (2, .int w2)] → W p l e (rmH 0) s m (List.toArray [.ref (a_T 0)]) below meth c H locs 0 0 (MQ below (va_Qi (fun r2 (_ : Unit) => r2 = r) (fun _ t => POST g A (cl_X12 g a_T zu_T v_T ++ X) t) A) (List.toArray [.ref (a_T 0)]) s 0 0 A) (F0 m 10 ls [])), ∀ {u_T : S32} {w2 : Int32} {t0 : Int32} {H : Heap} {locs : List Loc} {ls : Array Slot}, f_X12_debtor_J51 fu v_T K10 u_T w2 t0 = some (r, zu_T) → WD g A s.heap (cl_X12 g a_T u_T v_T ++ X) H locs → lv_has ls 3 [(0, .ref (a_T 0)), (2, .int w2)] → W p l e (rmH 0) s m (List.toArray [.ref (a_T 0)]) below meth c H locs 0 0 (MQ below (va_Qi (fun r2 (_ : Unit) => r2 = r) (fun _ t => POST g A (cl_X12 g a_T zu_T v_T ++ X) t) A) (List.toArray [.ref (a_T 0)]) s 0 0 A) (F0 m 51 ls [.int t0]) := by
    intro K10 hK10 u_T w2 t0 H locs ls hf hw hl
    unfold f_X12_debtor_J51 at hf
    refine lv_istore_n (lv' := [(1, .int t0), (0, .ref (a_T 0)), (2, .int w2)]) hx hb dX12_debtor_51 rfl hl (by decide) rfl (fun ls hl => ?_)
    obtain ⟨y_9, ey_9⟩ : ∃ y : Int32, y = w2 + (1 : Int32) := ⟨_, rfl⟩
    replace hf := tx_let_e hf ey_9
    refine lv_iinc (v := y_9) (lv' := [(2, .int y_9), (1, .int t0), (0, .ref (a_T 0))]) hx hb dX12_debtor_52 hl (k := 2) rfl (by rw [ey_9]; rfl) (by decide) rfl (fun ls hl => ?_)
    refine lv_goto (tgt := 10) hx hb dX12_debtor_55 (by decide) ?_
    exact hK10 hf hw (lv_sub hl [2, 1, 0] rfl)
  have J46 : ∀ {K10 : S32 → Int32 → Int32 → Option (Int32 × S32)} (hK10 : ∀ {u_T : S32} {w1 : Int32} {w2 : Int32} {H : Heap} {locs : List Loc} {ls : Array Slot}, K10 u_T w1 w2 = some (r, zu_T) → WD g A s.heap (cl_X12 g a_T u_T v_T ++ X) H locs → lv_has ls 3 [(0, .ref (a_T 0)), (1, .int w1), (2, .int w2)] → W p l e (rmH 0) s m (List.toArray [.ref (a_T 0)]) below meth c H locs 0 0 (MQ below (va_Qi (fun r2 (_ : Unit) => r2 = r) (fun _ t => POST g A (cl_X12 g a_T zu_T v_T ++ X) t) A) (List.toArray [.ref (a_T 0)]) s 0 0 A) (F0 m 10 ls [])), ∀ {u_T : S32} {w2 : Int32} {H : Heap} {locs : List Loc} {ls : Array Slot}, f_X12_debtor_J46 fu v_T K10 u_T w2 = some (r, zu_T) → WD g A s.heap (cl_X12 g a_T u_T v_T ++ X) H locs → lv_has ls 3 [(0, .ref (a_T 0)), (2, .int w2)] → W p l e (rmH 0) s m (List.toArray [.ref (a_T 0)]) below meth c H locs 0 0 (MQ below (va_Qi (fun r2 (_ : Unit) => r2 = r) (fun _ t => POST g A (cl_X12 g a_T zu_T v_T ++ X) t) A) (List.toArray [.ref (a_T 0)]) s 0 0 A) (F0 m 46 ls []) := by
    intro K10 hK10 u_T w2 H locs ls hf hw hl
    unfold f_X12_debtor_J46 at hf
    refine lv_iload_n hx hb dX12_debtor_46 rfl (lv_at hl 1 rfl) ?_
    refine lv_goto (tgt := 51) hx hb dX12_debtor_47 (by decide) ?_
    exact J51 hK10 hf hw (lv_sub hl [0, 1] rfl)
  have J50 : ∀ {K10 : S32 → Int32 → Int32 → Option (Int32 × S32)} (hK10 : ∀ {u_T : S32} {w1 : Int32} {w2 : Int32} {H : Heap} {locs : List Loc} {ls : Array Slot}, K10 u_T w1 w2 = some (r, zu_T) → WD g A s.heap (cl_X12 g a_T u_T v_T ++ X) H locs → lv_has ls 3 [(0, .ref (a_T 0)), (1, .int w1), (2, .int w2)] → W p l e (rmH 0) s m (List.toArray [.ref (a_T 0)]) below meth c H locs 0 0 (MQ below (va_Qi (fun r2 (_ : Unit) => r2 = r) (fun _ t => POST g A (cl_X12 g a_T zu_T v_T ++ X) t) A) (List.toArray [.ref (a_T 0)]) s 0 0 A) (F0 m 10 ls [])), ∀ {u_T : S32} {w1 : Int32} {w2 : Int32} {H : Heap} {locs : List Loc} {ls : Array Slot}, f_X12_debtor_J50 fu v_T K10 u_T w1 w2 = some (r, zu_T) → WD g A s.heap (cl_X12 g a_T u_T v_T ++ X) H locs → lv_has ls 3 [(0, .ref (a_T 0)), (1, .int w1), (2, .int w2)] → W p l e (rmH 0) s m (List.toArray [.ref (a_T 0)]) below meth c H locs 0 0 (MQ below (va_Qi (fun r2 (_ : Unit) => r2 = r) (fun _ t => POST g A (cl_X12 g a_T zu_T v_T ++ X) t) A) (List.toArray [.ref (a_T 0)]) s 0 0 A) (F0 m 50 ls []) := by
    intro K10 hK10 u_T w1 w2 H locs ls hf hw hl
    unfold f_X12_debtor_J50 at hf
    refine lv_iload_n hx hb dX12_debtor_50 rfl (lv_at hl 1 rfl) ?_
    exact J51 hK10 hf hw (lv_sub hl [0, 2] rfl)
  have J10 : ∀ {K10 : S32 → Int32 → Int32 → Option (Int32 × S32)} (hK10 : ∀ {u_T : S32} {w1 : Int32} {w2 : Int32} {H : Heap} {locs : List Loc} {ls : Array Slot}, K10 u_T w1 w2 = some (r, zu_T) → WD g A s.heap (cl_X12 g a_T u_T v_T ++ X) H locs → lv_has ls 3 [(0, .ref (a_T 0)), (1, .int w1), (2, .int w2)] → W p l e (rmH 0) s m (List.toArray [.ref (a_T 0)]) below meth c H locs 0 0 (MQ below (va_Qi (fun r2 (_ : Unit) => r2 = r) (fun _ t => POST g A (cl_X12 g a_T zu_T v_T ++ X) t) A) (List.toArray [.ref (a_T 0)]) s 0 0 A) (F0 m 10 ls [])), ∀ {u_T : S32} {w1 : Int32} {w2 : Int32} {H : Heap} {locs : List Loc} {ls : Array Slot}, f_X12_debtor_J10 fu v_T K10 u_T w1 w2 = some (r, zu_T) → WD g A s.heap (cl_X12 g a_T u_T v_T ++ X) H locs → lv_has ls 3 [(0, .ref (a_T 0)), (1, .int w1), (2, .int w2)] → W p l e (rmH 0) s m (List.toArray [.ref (a_T 0)]) below meth c H locs 0 0 (MQ below (va_Qi (fun r2 (_ : Unit) => r2 = r) (fun _ t => POST g A (cl_X12 g a_T zu_T v_T ++ X) t) A) (List.toArray [.ref (a_T 0)]) s 0 0 A) (F0 m 10 ls []) := by
    intro K10 hK10 u_T w1 w2 H locs ls hf hw hl
    unfold f_X12_debtor_J10 at hf
    refine lv_iload_n hx hb dX12_debtor_10 rfl (lv_at hl 2 rfl) ?_
    refine lv_aload_n hx hb dX12_debtor_11 rfl (lv_at hl 0 rfl) ?_
    refine gf_X12_222 S hE hw 0 rfl rfl dX12_debtor_12 ?_
    refine lv_icmp_ge (tgt := 58) hx hb dX12_debtor_15 (by decide) (fun h_2 => ?_) (fun h_2 => ?_)
    · replace hf := tx_pos hf h_2
      refine lv_iload_n hx hb dX12_debtor_58 rfl (lv_at hl 1 rfl) ?_
      obtain ⟨e0, e1⟩ := tx_in2 hf
      rw [← e0, ← e1]
      exact tx_iret S hr hlk hw dX12_debtor_59
    · replace hf := tx_neg hf h_2
      refine lv_aload_n hx hb dX12_debtor_18 rfl (lv_at hl 0 rfl) ?_
      refine gf_X12_103 S hE hw 0 rfl rfl dX12_debtor_19 ?_
      refine lv_iload_n hx hb dX12_debtor_22 rfl (lv_at hl 2 rfl) ?_
      obtain ⟨h_3, hf⟩ := tx_ck_e hf
      refine tx_iald S hE hw 30 rfl h_3 dX12_debtor_23 ?_
      refine lv_if_le (tgt := 50) hx hb dX12_debtor_24 (by decide) (fun h_4 => ?_) (fun h_4 => ?_)
      · replace hf := tx_pos hf h_4
        exact J50 hK10 hf hw (lv_sub hl [0, 1, 2] rfl)
      · replace hf := tx_neg hf h_4
        refine lv_iload_n hx hb dX12_debtor_27 rfl (lv_at hl 1 rfl) ?_
        refine lv_if_lt (tgt := 46) hx hb dX12_debtor_28 (by decide) (fun h_5 => ?_) (fun h_5 => ?_)
        · replace hf := tx_pos hf h_5
          exact J46 hK10 hf hw (lv_sub hl [0, 2] rfl)
        · replace hf := tx_neg hf h_5
          refine lv_aload_n hx hb dX12_debtor_31 rfl (lv_at hl 0 rfl) ?_
          refine gf_X12_103 S hE hw 0 rfl rfl dX12_debtor_32 ?_
          refine lv_iload_n hx hb dX12_debtor_35 rfl (lv_at hl 2 rfl) ?_
          obtain ⟨h_6, hf⟩ := tx_ck_e hf
          refine tx_iald S hE hw 30 rfl h_6 dX12_debtor_36 ?_
          refine lv_aload_n hx hb dX12_debtor_37 rfl (lv_at hl 0 rfl) ?_
          refine gf_X12_103 S hE hw 0 rfl rfl dX12_debtor_38 ?_
          refine lv_iload_n hx hb dX12_debtor_41 rfl (lv_at hl 1 rfl) ?_
          obtain ⟨h_7, hf⟩ := tx_ck_e hf
          refine tx_iald S hE hw 30 rfl h_7 dX12_debtor_42 ?_
          refine lv_icmp_le (tgt := 50) hx hb dX12_debtor_43 (by decide) (fun h_8 => ?_) (fun h_8 => ?_)
          · replace hf := tx_pos hf h_8
            exact J50 hK10 hf hw (lv_sub hl [0, 1, 2] rfl)
          · replace hf := tx_neg hf h_8
            exact J46 hK10 hf hw (lv_sub hl [0, 2] rfl)
  have L10 : ∀ (n : Nat), ∀ {u_T : S32} {w1 : Int32} {w2 : Int32} {H : Heap} {locs : List Loc} {ls : Array Slot}, f_X12_debtor_L10 fu v_T n u_T w1 w2 = some (r, zu_T) → WD g A s.heap (cl_X12 g a_T u_T v_T ++ X) H locs → lv_has ls 3 [(0, .ref (a_T 0)), (1, .int w1), (2, .int w2)] → W p l e (rmH 0) s m (List.toArray [.ref (a_T 0)]) below meth c H locs 0 0 (MQ below (va_Qi (fun r2 (_ : Unit) => r2 = r) (fun _ t => POST g A (cl_X12 g a_T zu_T v_T ++ X) t) A) (List.toArray [.ref (a_T 0)]) s 0 0 A) (F0 m 10 ls []) := by
    intro  n
    induction n with
    | zero => intro u_T w1 w2 H locs ls hf; exact absurd hf (by intro q; cases q)
    | succ n ih => exact fun hf hw hl => J10 ih hf hw hl
  unfold f_X12_debtor at hf
  refine lv_aload_n hx hb dX12_debtor_0 rfl (lv_at hl 0 rfl) ?_
  refine lv_iconst (v := 0) hx hb dX12_debtor_1 (by decide) ?_
  obtain ⟨u_T_1, eu_T_1⟩ : ∃ z : S32, z = up2 u_T 0 2 (0 : Int32) := ⟨_, rfl⟩
  replace hf := tx_let_e hf eu_T_1
  refine pf_X12_145 (ws' := cl_X12 g a_T u_T_1 v_T ++ X) S hE hw rfl rfl 0 rfl (Nat.le_of_ble_eq_true rfl) (by rw [eu_T_1]; rfl) dX12_debtor_2 (fun H locs hw => ?_)
  refine lv_bipush (v := -2) hx hb dX12_debtor_5 (by decide) ?_
  refine lv_istore_n (lv' := [(1, .int (-2 : Int32)), (0, .ref (a_T 0))]) hx hb dX12_debtor_7 rfl hl (by decide) rfl (fun ls hl => ?_)
  refine lv_iconst (v := 0) hx hb dX12_debtor_8 (by decide) ?_
  refine lv_istore_n (lv' := [(2, .int (0 : Int32)), (1, .int (-2 : Int32)), (0, .ref (a_T 0))]) hx hb dX12_debtor_9 rfl hl (by decide) rfl (fun ls hl => ?_)
  exact L10 fu hf hw (lv_sub hl [2, 1, 0] rfl)
def f_X12_nextRead_J21 (fu : Nat) (K21 : S32 → S64 → Int32 → Int32 → Option (Int32 × S32 × S64)) (u_T : S32) (v_T : S64) (w1 : Int32) (w2 : Int32) : Option (Int32 × S32 × S64) := if (99 : Int32) < w2 then (some ((-2 : Int32), u_T, v_T)) else (tx_b2 (f_X12_weekGoes fu u_T v_T (1 : Int32)) fun (u_T_9 : S32) (v_T_10 : S64) => tx_b1 (f_X12_isOf fu (u_T_9 0 60) w1) fun (r_12 : Int32) => if r_12 = (0 : Int32) then (tx_let (w2 + (1 : Int32)) fun (y_14 : Int32) => K21 u_T_9 v_T_10 w1 y_14) else (some (w2, u_T_9, v_T_10)))
def f_X12_nextRead_L21 (fu : Nat) : Nat → S32 → S64 → Int32 → Int32 → Option (Int32 × S32 × S64)
  | 0 => fun _ _ _ _ => none
  | n + 1 => f_X12_nextRead_J21 fu (f_X12_nextRead_L21 fu n)
def f_X12_nextRead (fu : Nat) (u_T : S32) (v_T : S64) (x1 : Int32) : Option (Int32 × S32 × S64) := tx_let (up2 u_T 0 2 (0 : Int32)) fun (u_T_1 : S32) => tx_b1 (f_X12_isThought fu u_T_1 v_T x1) fun (r_3 : Int32) => if r_3 = (0 : Int32) then (some ((-1 : Int32), u_T_1, v_T)) else (tx_b1 (f_X12_layTried fu v_T u_T_1) fun (u_T_6 : S32) => f_X12_nextRead_L21 fu fu u_T_6 v_T x1 (1 : Int32))
set_option maxHeartbeats 4000000 in
set_option maxRecDepth 100000 in
theorem c_X12_nextRead {l : Launch} {g : GG} {A : Nat → Prop} {X : va_W} {fu : Nat} {a_T : Nat → Nat} {u_T : S32} {v_T : S64} {x1 : Int32} {r : Int32} {zu_T : S32} {zv_T : S64} (hf : f_X12_nextRead fu  u_T v_T x1 = some (r, zu_T, zv_T)) : MI l yX12_nextRead cX12_nextRead 3 (some .int) 8 g A (cl_X12 g a_T u_T v_T ++ X) [.ref (a_T 0), .int x1] r (cl_X12 g a_T zu_T zv_T ++ X) := by
  refine tx_start (av := [.ref (a_T 0), .int x1]) (by decide) (Nat.le_of_ble_eq_true rfl) ?_
  intro p e s m below meth c ls S hr hlk hE hw hl
  have S : CallFix p m c cX12_nextRead 3 s (List.toArray [.ref (a_T 0), .int x1]) (Cond.code yX12_nextRead cX12_nextRead 3 (some .int) :: allW) RX12 := S
  have hx := S.1
  have hb := S.2.1
  have hown := S.2.2.2.1
  have hts : ∀ w ∈ allW, w.before (List.toArray [.ref (a_T 0), .int x1]) s = true := fun w h => S.2.2.2.2 w (List.mem_cons_of_mem _ h)
  have hl : lv_has ls 3 [(0, .ref (a_T 0)), (1, .int x1)] := hl
  have J21 : ∀ {K21 : S32 → S64 → Int32 → Int32 → Option (Int32 × S32 × S64)} (hK21 : ∀ {u_T : S32} {v_T : S64} {w1 : Int32} {w2 : Int32} {H : Heap} {locs : List Loc} {ls : Array Slot}, K21 u_T v_T w1 w2 = some (r, zu_T, zv_T) → WD g A s.heap (cl_X12 g a_T u_T v_T ++ X) H locs → lv_has ls 3 [(0, .ref (a_T 0)), (1, .int w1), (2, .int w2)] → W p l e (rmH 8) s m (List.toArray [.ref (a_T 0), .int x1]) below meth c H locs 0 0 (MQ below (va_Qi (fun r2 (_ : Unit) => r2 = r) (fun _ t => POST g A (cl_X12 g a_T zu_T zv_T ++ X) t) A) (List.toArray [.ref (a_T 0), .int x1]) s 0 0 A) (F0 m 21 ls [])), ∀ {u_T : S32} {v_T : S64} {w1 : Int32} {w2 : Int32} {H : Heap} {locs : List Loc} {ls : Array Slot}, f_X12_nextRead_J21 fu K21 u_T v_T w1 w2 = some (r, zu_T, zv_T) → WD g A s.heap (cl_X12 g a_T u_T v_T ++ X) H locs → lv_has ls 3 [(0, .ref (a_T 0)), (1, .int w1), (2, .int w2)] → W p l e (rmH 8) s m (List.toArray [.ref (a_T 0), .int x1]) below meth c H locs 0 0 (MQ below (va_Qi (fun r2 (_ : Unit) => r2 = r) (fun _ t => POST g A (cl_X12 g a_T zu_T zv_T ++ X) t) A) (List.toArray [.ref (a_T 0), .int x1]) s 0 0 A) (F0 m 21 ls []) := by
    intro K21 hK21 u_T v_T w1 w2 H locs ls hf hw hl
    unfold f_X12_nextRead_J21 at hf
    refine lv_iload_n hx hb dX12_nextRead_21 rfl (lv_at hl 2 rfl) ?_
    refine lv_bipush (v := 99) hx hb dX12_nextRead_22 (by decide) ?_
    refine lv_icmp_gt (tgt := 51) hx hb dX12_nextRead_24 (by decide) (fun h_7 => ?_) (fun h_7 => ?_)
    · replace hf := tx_pos hf h_7
      refine lv_bipush (v := -2) hx hb dX12_nextRead_51 (by decide) ?_
      obtain ⟨e0, e1, e2⟩ := tx_in3 hf
      rw [← e0, ← e1, ← e2]
      exact tx_iret S hr hlk hw dX12_nextRead_53
    · replace hf := tx_neg hf h_7
      refine lv_aload_n hx hb dX12_nextRead_27 rfl (lv_at hl 0 rfl) ?_
      refine lv_iconst (v := 1) hx hb dX12_nextRead_28 (by decide) ?_
      obtain ⟨u_T_9, v_T_10, h_8, hf⟩ := tx_b2_e hf
      refine tx_cv hw (tx_runV S hE hw (c_X12_weekGoes h_8) lk_X12_445 (q0 := 0) rfl rfl rfl hl.1 (rest := []) rfl (Nat.le_of_ble_eq_true rfl) ⟨by decide, by decide⟩ dX12_nextRead_29 ⟨Nat.zero_le _, Nat.zero_le _⟩) (fun H locs hw => ?_)
      refine lv_aload_n hx hb dX12_nextRead_32 rfl (lv_at hl 0 rfl) ?_
      refine gf_X12_435 S hE hw 0 rfl rfl dX12_nextRead_33 ?_
      refine lv_iload_n hx hb dX12_nextRead_36 rfl (lv_at hl 1 rfl) ?_
      obtain ⟨r_12, h_11, hf⟩ := tx_b1_e hf
      refine tx_ci hw (tx_runS S hE hw (c_X12_isOf h_11) lk_X12_383 rfl hl.1 (rest := []) rfl (Nat.le_of_ble_eq_true rfl) ⟨by decide, by decide⟩ dX12_nextRead_37 ⟨Nat.zero_le _, Nat.zero_le _⟩) (fun H locs hw => ?_)
      refine lv_if_eq (tgt := 45) hx hb dX12_nextRead_40 (by decide) (fun h_13 => ?_) (fun h_13 => ?_)
      · replace hf := tx_pos hf h_13
        obtain ⟨y_14, ey_14⟩ : ∃ y : Int32, y = w2 + (1 : Int32) := ⟨_, rfl⟩
        replace hf := tx_let_e hf ey_14
        refine lv_iinc (v := y_14) (lv' := [(2, .int y_14), (0, .ref (a_T 0)), (1, .int w1)]) hx hb dX12_nextRead_45 hl (k := 2) rfl (by rw [ey_14]; rfl) (by decide) rfl (fun ls hl => ?_)
        refine lv_goto (tgt := 21) hx hb dX12_nextRead_48 (by decide) ?_
        exact hK21 hf hw (lv_sub hl [1, 2, 0] rfl)
      · replace hf := tx_neg hf h_13
        refine lv_iload_n hx hb dX12_nextRead_43 rfl (lv_at hl 2 rfl) ?_
        obtain ⟨e0, e1, e2⟩ := tx_in3 hf
        rw [← e0, ← e1, ← e2]
        exact tx_iret S hr hlk hw dX12_nextRead_44
  have L21 : ∀ (n : Nat), ∀ {u_T : S32} {v_T : S64} {w1 : Int32} {w2 : Int32} {H : Heap} {locs : List Loc} {ls : Array Slot}, f_X12_nextRead_L21 fu n u_T v_T w1 w2 = some (r, zu_T, zv_T) → WD g A s.heap (cl_X12 g a_T u_T v_T ++ X) H locs → lv_has ls 3 [(0, .ref (a_T 0)), (1, .int w1), (2, .int w2)] → W p l e (rmH 8) s m (List.toArray [.ref (a_T 0), .int x1]) below meth c H locs 0 0 (MQ below (va_Qi (fun r2 (_ : Unit) => r2 = r) (fun _ t => POST g A (cl_X12 g a_T zu_T zv_T ++ X) t) A) (List.toArray [.ref (a_T 0), .int x1]) s 0 0 A) (F0 m 21 ls []) := by
    intro  n
    induction n with
    | zero => intro u_T v_T w1 w2 H locs ls hf; exact absurd hf (by intro q; cases q)
    | succ n ih => exact fun hf hw hl => J21 ih hf hw hl
  unfold f_X12_nextRead at hf
  refine lv_aload_n hx hb dX12_nextRead_0 rfl (lv_at hl 0 rfl) ?_
  refine lv_iconst (v := 0) hx hb dX12_nextRead_1 (by decide) ?_
  obtain ⟨u_T_1, eu_T_1⟩ : ∃ z : S32, z = up2 u_T 0 2 (0 : Int32) := ⟨_, rfl⟩
  replace hf := tx_let_e hf eu_T_1
  refine pf_X12_145 (ws' := cl_X12 g a_T u_T_1 v_T ++ X) S hE hw rfl rfl 0 rfl (Nat.le_of_ble_eq_true rfl) (by rw [eu_T_1]; rfl) dX12_nextRead_2 (fun H locs hw => ?_)
  refine lv_aload_n hx hb dX12_nextRead_5 rfl (lv_at hl 0 rfl) ?_
  refine lv_iload_n hx hb dX12_nextRead_6 rfl (lv_at hl 1 rfl) ?_
  obtain ⟨r_3, h_2, hf⟩ := tx_b1_e hf
  refine tx_ci hw (tx_runV S hE hw (c_X12_isThought h_2) lk_X12_454 (q0 := 0) rfl rfl rfl hl.1 (rest := []) rfl (Nat.le_of_ble_eq_true rfl) ⟨by decide, by decide⟩ dX12_nextRead_7 ⟨Nat.zero_le _, Nat.zero_le _⟩) (fun H locs hw => ?_)
  refine lv_if_ne (tgt := 15) hx hb dX12_nextRead_10 (by decide) (fun h_4 => ?_) (fun h_4 => ?_)
  · replace hf := tx_neg hf h_4
    refine lv_aload_n hx hb dX12_nextRead_15 rfl (lv_at hl 0 rfl) ?_
    obtain ⟨u_T_6, h_5, hf⟩ := tx_b1_e hf
    refine tx_cv hw (tx_runV S hE hw (c_X12_layTried h_5) lk_X12_474 (q0 := 0) rfl rfl rfl hl.1 (rest := []) rfl (Nat.le_of_ble_eq_true rfl) ⟨by decide, by decide⟩ dX12_nextRead_16 ⟨Nat.zero_le _, Nat.zero_le _⟩) (fun H locs hw => ?_)
    refine lv_iconst (v := 1) hx hb dX12_nextRead_19 (by decide) ?_
    refine lv_istore_n (lv' := [(2, .int (1 : Int32)), (0, .ref (a_T 0)), (1, .int x1)]) hx hb dX12_nextRead_20 rfl hl (by decide) rfl (fun ls hl => ?_)
    exact L21 fu hf hw (lv_sub hl [1, 2, 0] rfl)
  · replace hf := tx_pos hf h_4
    refine lv_iconst (v := -1) hx hb dX12_nextRead_13 (by decide) ?_
    obtain ⟨e0, e1, e2⟩ := tx_in3 hf
    rw [← e0, ← e1, ← e2]
    exact tx_iret S hr hlk hw dX12_nextRead_14
def f_X12_richest_J68 (fu : Nat) (K30 : S32 → S64 → Int32 → Int32 → Option (Int32 × S32 × S64)) (u_T : S32) (v_T : S64) (w3 : Int32) (t0 : Int32) : Option (Int32 × S32 × S64) := tx_let (w3 + (1 : Int32)) fun (y_15 : Int32) => K30 u_T v_T t0 y_15
def f_X12_richest_J63 (fu : Nat) (K30 : S32 → S64 → Int32 → Int32 → Option (Int32 × S32 × S64)) (u_T : S32) (v_T : S64) (w3 : Int32) : Option (Int32 × S32 × S64) := f_X12_richest_J68 fu K30 u_T v_T w3 w3
def f_X12_richest_J30 (fu : Nat) (K30 : S32 → S64 → Int32 → Int32 → Option (Int32 × S32 × S64)) (u_T : S32) (v_T : S64) (w2 : Int32) (w3 : Int32) : Option (Int32 × S32 × S64) := if (u_T 0 12) ≤ w3 then (some (w2, u_T, v_T)) else (if w2 < (0 : Int32) then (f_X12_richest_J63 fu K30 u_T v_T w3) else (tx_ck ((6 : Int32) + w3) 12 <| tx_ck ((6 : Int32) + w2) 12 <| if (u_T 53 ((6 : Int32) + w3).toNatClampNeg) ≤ (u_T 53 ((6 : Int32) + w2).toNatClampNeg) then (f_X12_richest_J68 fu K30 u_T v_T w3 w2) else (f_X12_richest_J63 fu K30 u_T v_T w3)))
def f_X12_richest_L30 (fu : Nat) : Nat → S32 → S64 → Int32 → Int32 → Option (Int32 × S32 × S64)
  | 0 => fun _ _ _ _ => none
  | n + 1 => f_X12_richest_J30 fu (f_X12_richest_L30 fu n)
def f_X12_richest (fu : Nat) (u_T : S32) (v_T : S64) (x1 : Int32) : Option (Int32 × S32 × S64) := tx_let (up2 u_T 0 2 (0 : Int32)) fun (u_T_1 : S32) => tx_b1 (f_X12_isIn fu x1 (0 : Int32) (99 : Int32)) fun (r_3 : Int32) => if r_3 = (0 : Int32) then (some ((-1 : Int32), u_T_1, v_T)) else (tx_b1 (f_X12_layTried fu v_T u_T_1) fun (u_T_6 : S32) => tx_b2 (f_X12_goMany fu u_T_6 v_T x1) fun (u_T_8 : S32) (v_T_9 : S64) => f_X12_richest_L30 fu fu u_T_8 v_T_9 (-1 : Int32) (0 : Int32))
set_option maxHeartbeats 4000000 in
set_option maxRecDepth 100000 in
theorem c_X12_richest {l : Launch} {g : GG} {A : Nat → Prop} {X : va_W} {fu : Nat} {a_T : Nat → Nat} {u_T : S32} {v_T : S64} {x1 : Int32} {r : Int32} {zu_T : S32} {zv_T : S64} (hf : f_X12_richest fu  u_T v_T x1 = some (r, zu_T, zv_T)) : MI l yX12_richest cX12_richest 4 (some .int) 9 g A (cl_X12 g a_T u_T v_T ++ X) [.ref (a_T 0), .int x1] r (cl_X12 g a_T zu_T zv_T ++ X) := by
  refine tx_start (av := [.ref (a_T 0), .int x1]) (by decide) (Nat.le_of_ble_eq_true rfl) ?_
  intro p e s m below meth c ls S hr hlk hE hw hl
  have S : CallFix p m c cX12_richest 4 s (List.toArray [.ref (a_T 0), .int x1]) (Cond.code yX12_richest cX12_richest 4 (some .int) :: allW) RX12 := S
  have hx := S.1
  have hb := S.2.1
  have hown := S.2.2.2.1
  have hts : ∀ w ∈ allW, w.before (List.toArray [.ref (a_T 0), .int x1]) s = true := fun w h => S.2.2.2.2 w (List.mem_cons_of_mem _ h)
  have hl : lv_has ls 4 [(0, .ref (a_T 0)), (1, .int x1)] := hl
  have J68 : ∀ {K30 : S32 → S64 → Int32 → Int32 → Option (Int32 × S32 × S64)} (hK30 : ∀ {u_T : S32} {v_T : S64} {w2 : Int32} {w3 : Int32} {H : Heap} {locs : List Loc} {ls : Array Slot}, K30 u_T v_T w2 w3 = some (r, zu_T, zv_T) → WD g A s.heap (cl_X12 g a_T u_T v_T ++ X) H locs → lv_has ls 4 [(0, .ref (a_T 0)), (2, .int w2), (3, .int w3)] → W p l e (rmH 9) s m (List.toArray [.ref (a_T 0), .int x1]) below meth c H locs 0 0 (MQ below (va_Qi (fun r2 (_ : Unit) => r2 = r) (fun _ t => POST g A (cl_X12 g a_T zu_T zv_T ++ X) t) A) (List.toArray [.ref (a_T 0), .int x1]) s 0 0 A) (F0 m 30 ls [])), ∀ {u_T : S32} {v_T : S64} {w3 : Int32} {t0 : Int32} {H : Heap} {locs : List Loc} {ls : Array Slot}, f_X12_richest_J68 fu K30 u_T v_T w3 t0 = some (r, zu_T, zv_T) → WD g A s.heap (cl_X12 g a_T u_T v_T ++ X) H locs → lv_has ls 4 [(0, .ref (a_T 0)), (3, .int w3)] → W p l e (rmH 9) s m (List.toArray [.ref (a_T 0), .int x1]) below meth c H locs 0 0 (MQ below (va_Qi (fun r2 (_ : Unit) => r2 = r) (fun _ t => POST g A (cl_X12 g a_T zu_T zv_T ++ X) t) A) (List.toArray [.ref (a_T 0), .int x1]) s 0 0 A) (F0 m 68 ls [.int t0]) := by
    intro K30 hK30 u_T v_T w3 t0 H locs ls hf hw hl
    unfold f_X12_richest_J68 at hf
    refine lv_istore_n (lv' := [(2, .int t0), (0, .ref (a_T 0)), (3, .int w3)]) hx hb dX12_richest_68 rfl hl (by decide) rfl (fun ls hl => ?_)
    obtain ⟨y_15, ey_15⟩ : ∃ y : Int32, y = w3 + (1 : Int32) := ⟨_, rfl⟩
    replace hf := tx_let_e hf ey_15
    refine lv_iinc (v := y_15) (lv' := [(3, .int y_15), (2, .int t0), (0, .ref (a_T 0))]) hx hb dX12_richest_69 hl (k := 2) rfl (by rw [ey_15]; rfl) (by decide) rfl (fun ls hl => ?_)
    refine lv_goto (tgt := 30) hx hb dX12_richest_72 (by decide) ?_
    exact hK30 hf hw (lv_sub hl [2, 1, 0] rfl)
  have J63 : ∀ {K30 : S32 → S64 → Int32 → Int32 → Option (Int32 × S32 × S64)} (hK30 : ∀ {u_T : S32} {v_T : S64} {w2 : Int32} {w3 : Int32} {H : Heap} {locs : List Loc} {ls : Array Slot}, K30 u_T v_T w2 w3 = some (r, zu_T, zv_T) → WD g A s.heap (cl_X12 g a_T u_T v_T ++ X) H locs → lv_has ls 4 [(0, .ref (a_T 0)), (2, .int w2), (3, .int w3)] → W p l e (rmH 9) s m (List.toArray [.ref (a_T 0), .int x1]) below meth c H locs 0 0 (MQ below (va_Qi (fun r2 (_ : Unit) => r2 = r) (fun _ t => POST g A (cl_X12 g a_T zu_T zv_T ++ X) t) A) (List.toArray [.ref (a_T 0), .int x1]) s 0 0 A) (F0 m 30 ls [])), ∀ {u_T : S32} {v_T : S64} {w3 : Int32} {H : Heap} {locs : List Loc} {ls : Array Slot}, f_X12_richest_J63 fu K30 u_T v_T w3 = some (r, zu_T, zv_T) → WD g A s.heap (cl_X12 g a_T u_T v_T ++ X) H locs → lv_has ls 4 [(0, .ref (a_T 0)), (3, .int w3)] → W p l e (rmH 9) s m (List.toArray [.ref (a_T 0), .int x1]) below meth c H locs 0 0 (MQ below (va_Qi (fun r2 (_ : Unit) => r2 = r) (fun _ t => POST g A (cl_X12 g a_T zu_T zv_T ++ X) t) A) (List.toArray [.ref (a_T 0), .int x1]) s 0 0 A) (F0 m 63 ls []) := by
    intro K30 hK30 u_T v_T w3 H locs ls hf hw hl
    unfold f_X12_richest_J63 at hf
    refine lv_iload_n hx hb dX12_richest_63 rfl (lv_at hl 1 rfl) ?_
    refine lv_goto (tgt := 68) hx hb dX12_richest_64 (by decide) ?_
    exact J68 hK30 hf hw (lv_sub hl [0, 1] rfl)
  have J30 : ∀ {K30 : S32 → S64 → Int32 → Int32 → Option (Int32 × S32 × S64)} (hK30 : ∀ {u_T : S32} {v_T : S64} {w2 : Int32} {w3 : Int32} {H : Heap} {locs : List Loc} {ls : Array Slot}, K30 u_T v_T w2 w3 = some (r, zu_T, zv_T) → WD g A s.heap (cl_X12 g a_T u_T v_T ++ X) H locs → lv_has ls 4 [(0, .ref (a_T 0)), (2, .int w2), (3, .int w3)] → W p l e (rmH 9) s m (List.toArray [.ref (a_T 0), .int x1]) below meth c H locs 0 0 (MQ below (va_Qi (fun r2 (_ : Unit) => r2 = r) (fun _ t => POST g A (cl_X12 g a_T zu_T zv_T ++ X) t) A) (List.toArray [.ref (a_T 0), .int x1]) s 0 0 A) (F0 m 30 ls [])), ∀ {u_T : S32} {v_T : S64} {w2 : Int32} {w3 : Int32} {H : Heap} {locs : List Loc} {ls : Array Slot}, f_X12_richest_J30 fu K30 u_T v_T w2 w3 = some (r, zu_T, zv_T) → WD g A s.heap (cl_X12 g a_T u_T v_T ++ X) H locs → lv_has ls 4 [(0, .ref (a_T 0)), (2, .int w2), (3, .int w3)] → W p l e (rmH 9) s m (List.toArray [.ref (a_T 0), .int x1]) below meth c H locs 0 0 (MQ below (va_Qi (fun r2 (_ : Unit) => r2 = r) (fun _ t => POST g A (cl_X12 g a_T zu_T zv_T ++ X) t) A) (List.toArray [.ref (a_T 0), .int x1]) s 0 0 A) (F0 m 30 ls []) := by
    intro K30 hK30 u_T v_T w2 w3 H locs ls hf hw hl
    unfold f_X12_richest_J30 at hf
    refine lv_iload_n hx hb dX12_richest_30 rfl (lv_at hl 2 rfl) ?_
    refine lv_aload_n hx hb dX12_richest_31 rfl (lv_at hl 0 rfl) ?_
    refine gf_X12_222 S hE hw 0 rfl rfl dX12_richest_32 ?_
    refine lv_icmp_ge (tgt := 75) hx hb dX12_richest_35 (by decide) (fun h_10 => ?_) (fun h_10 => ?_)
    · replace hf := tx_pos hf h_10
      refine lv_iload_n hx hb dX12_richest_75 rfl (lv_at hl 1 rfl) ?_
      obtain ⟨e0, e1, e2⟩ := tx_in3 hf
      rw [← e0, ← e1, ← e2]
      exact tx_iret S hr hlk hw dX12_richest_76
    · replace hf := tx_neg hf h_10
      refine lv_iload_n hx hb dX12_richest_38 rfl (lv_at hl 1 rfl) ?_
      refine lv_if_lt (tgt := 63) hx hb dX12_richest_39 (by decide) (fun h_11 => ?_) (fun h_11 => ?_)
      · replace hf := tx_pos hf h_11
        exact J63 hK30 hf hw (lv_sub hl [0, 2] rfl)
      · replace hf := tx_neg hf h_11
        refine lv_aload_n hx hb dX12_richest_42 rfl (lv_at hl 0 rfl) ?_
        refine gf_X12_97 S hE hw 0 rfl rfl dX12_richest_43 ?_
        refine lv_bipush (v := 6) hx hb dX12_richest_46 (by decide) ?_
        refine lv_iload_n hx hb dX12_richest_48 rfl (lv_at hl 2 rfl) ?_
        refine lv_iadd hx hb dX12_richest_49 ?_
        obtain ⟨h_12, hf⟩ := tx_ck_e hf
        refine tx_iald S hE hw 28 rfl h_12 dX12_richest_50 ?_
        refine lv_aload_n hx hb dX12_richest_51 rfl (lv_at hl 0 rfl) ?_
        refine gf_X12_97 S hE hw 0 rfl rfl dX12_richest_52 ?_
        refine lv_bipush (v := 6) hx hb dX12_richest_55 (by decide) ?_
        refine lv_iload_n hx hb dX12_richest_57 rfl (lv_at hl 1 rfl) ?_
        refine lv_iadd hx hb dX12_richest_58 ?_
        obtain ⟨h_13, hf⟩ := tx_ck_e hf
        refine tx_iald S hE hw 28 rfl h_13 dX12_richest_59 ?_
        refine lv_icmp_le (tgt := 67) hx hb dX12_richest_60 (by decide) (fun h_14 => ?_) (fun h_14 => ?_)
        · replace hf := tx_pos hf h_14
          refine lv_iload_n hx hb dX12_richest_67 rfl (lv_at hl 1 rfl) ?_
          exact J68 hK30 hf hw (lv_sub hl [0, 2] rfl)
        · replace hf := tx_neg hf h_14
          exact J63 hK30 hf hw (lv_sub hl [0, 2] rfl)
  have L30 : ∀ (n : Nat), ∀ {u_T : S32} {v_T : S64} {w2 : Int32} {w3 : Int32} {H : Heap} {locs : List Loc} {ls : Array Slot}, f_X12_richest_L30 fu n u_T v_T w2 w3 = some (r, zu_T, zv_T) → WD g A s.heap (cl_X12 g a_T u_T v_T ++ X) H locs → lv_has ls 4 [(0, .ref (a_T 0)), (2, .int w2), (3, .int w3)] → W p l e (rmH 9) s m (List.toArray [.ref (a_T 0), .int x1]) below meth c H locs 0 0 (MQ below (va_Qi (fun r2 (_ : Unit) => r2 = r) (fun _ t => POST g A (cl_X12 g a_T zu_T zv_T ++ X) t) A) (List.toArray [.ref (a_T 0), .int x1]) s 0 0 A) (F0 m 30 ls []) := by
    intro  n
    induction n with
    | zero => intro u_T v_T w2 w3 H locs ls hf; exact absurd hf (by intro q; cases q)
    | succ n ih => exact fun hf hw hl => J30 ih hf hw hl
  unfold f_X12_richest at hf
  refine lv_aload_n hx hb dX12_richest_0 rfl (lv_at hl 0 rfl) ?_
  refine lv_iconst (v := 0) hx hb dX12_richest_1 (by decide) ?_
  obtain ⟨u_T_1, eu_T_1⟩ : ∃ z : S32, z = up2 u_T 0 2 (0 : Int32) := ⟨_, rfl⟩
  replace hf := tx_let_e hf eu_T_1
  refine pf_X12_145 (ws' := cl_X12 g a_T u_T_1 v_T ++ X) S hE hw rfl rfl 0 rfl (Nat.le_of_ble_eq_true rfl) (by rw [eu_T_1]; rfl) dX12_richest_2 (fun H locs hw => ?_)
  refine lv_iload_n hx hb dX12_richest_5 rfl (lv_at hl 1 rfl) ?_
  refine lv_iconst (v := 0) hx hb dX12_richest_6 (by decide) ?_
  refine lv_bipush (v := 99) hx hb dX12_richest_7 (by decide) ?_
  obtain ⟨r_3, h_2, hf⟩ := tx_b1_e hf
  refine tx_ci hw (tx_runS S hE hw (c_X12_isIn h_2) lk_X12_190 rfl hl.1 (rest := []) rfl (Nat.le_of_ble_eq_true rfl) ⟨by decide, by decide⟩ dX12_richest_9 ⟨Nat.zero_le _, Nat.zero_le _⟩) (fun H locs hw => ?_)
  refine lv_if_ne (tgt := 17) hx hb dX12_richest_12 (by decide) (fun h_4 => ?_) (fun h_4 => ?_)
  · replace hf := tx_neg hf h_4
    refine lv_aload_n hx hb dX12_richest_17 rfl (lv_at hl 0 rfl) ?_
    obtain ⟨u_T_6, h_5, hf⟩ := tx_b1_e hf
    refine tx_cv hw (tx_runV S hE hw (c_X12_layTried h_5) lk_X12_474 (q0 := 0) rfl rfl rfl hl.1 (rest := []) rfl (Nat.le_of_ble_eq_true rfl) ⟨by decide, by decide⟩ dX12_richest_18 ⟨Nat.zero_le _, Nat.zero_le _⟩) (fun H locs hw => ?_)
    refine lv_aload_n hx hb dX12_richest_21 rfl (lv_at hl 0 rfl) ?_
    refine lv_iload_n hx hb dX12_richest_22 rfl (lv_at hl 1 rfl) ?_
    obtain ⟨u_T_8, v_T_9, h_7, hf⟩ := tx_b2_e hf
    refine tx_cv hw (tx_runV S hE hw (c_X12_goMany h_7) lk_X12_477 (q0 := 0) rfl rfl rfl hl.1 (rest := []) rfl (Nat.le_of_ble_eq_true rfl) ⟨by decide, by decide⟩ dX12_richest_23 ⟨Nat.zero_le _, Nat.zero_le _⟩) (fun H locs hw => ?_)
    refine lv_iconst (v := -1) hx hb dX12_richest_26 (by decide) ?_
    refine lv_istore_n (lv' := [(2, .int (-1 : Int32)), (0, .ref (a_T 0)), (1, .int x1)]) hx hb dX12_richest_27 rfl hl (by decide) rfl (fun ls hl => ?_)
    refine lv_iconst (v := 0) hx hb dX12_richest_28 (by decide) ?_
    refine lv_istore_n (lv' := [(3, .int (0 : Int32)), (2, .int (-1 : Int32)), (0, .ref (a_T 0)), (1, .int x1)]) hx hb dX12_richest_29 rfl hl (by decide) rfl (fun ls hl => ?_)
    exact L30 fu hf hw (lv_sub hl [2, 1, 0] rfl)
  · replace hf := tx_pos hf h_4
    refine lv_iconst (v := -1) hx hb dX12_richest_15 (by decide) ?_
    obtain ⟨e0, e1, e2⟩ := tx_in3 hf
    rw [← e0, ← e1, ← e2]
    exact tx_iret S hr hlk hw dX12_richest_16
def f_X12_noted (fu : Nat) (v_T : S64) (u_T : S32) (x1 : Int32) (x2 : Int32) (x3 : Int32) : Option (Int32 × S32) := tx_ck ((3 : Int32) * (u_T 0 71)) 72 <| tx_let (up2 u_T 74 ((3 : Int32) * (u_T 0 71)).toNatClampNeg x1) fun (u_T_2 : S32) => tx_ck (((3 : Int32) * (u_T_2 0 71)) + (1 : Int32)) 72 <| tx_let (up2 u_T_2 74 (((3 : Int32) * (u_T_2 0 71)) + (1 : Int32)).toNatClampNeg x2) fun (u_T_4 : S32) => tx_ck (((3 : Int32) * (u_T_4 0 71)) + (2 : Int32)) 72 <| tx_let (up2 u_T_4 74 (((3 : Int32) * (u_T_4 0 71)) + (2 : Int32)).toNatClampNeg x3) fun (u_T_6 : S32) => tx_let (up2 u_T_6 0 71 ((u_T_6 0 71) + (1 : Int32))) fun (u_T_7 : S32) => some ((u_T_7 0 71) - (1 : Int32), u_T_7)
set_option maxHeartbeats 4000000 in
set_option maxRecDepth 100000 in
theorem c_X12_noted {l : Launch} {g : GG} {A : Nat → Prop} {X : va_W} {fu : Nat} {a_T : Nat → Nat} {u_T : S32} {v_T : S64} {x1 : Int32} {x2 : Int32} {x3 : Int32} {r : Int32} {zu_T : S32} (hf : f_X12_noted fu v_T u_T x1 x2 x3 = some (r, zu_T)) : MI l yX12_noted cX12_noted 4 (some .int) 0 g A (cl_X12 g a_T u_T v_T ++ X) [.ref (a_T 0), .int x1, .int x2, .int x3] r (cl_X12 g a_T zu_T v_T ++ X) := by
  refine tx_start (av := [.ref (a_T 0), .int x1, .int x2, .int x3]) (by decide) (Nat.le_of_ble_eq_true rfl) ?_
  intro p e s m below meth c ls S hr hlk hE hw hl
  have S : CallFix p m c cX12_noted 4 s (List.toArray [.ref (a_T 0), .int x1, .int x2, .int x3]) (Cond.code yX12_noted cX12_noted 4 (some .int) :: allW) RX12 := S
  have hx := S.1
  have hb := S.2.1
  have hown := S.2.2.2.1
  have hts : ∀ w ∈ allW, w.before (List.toArray [.ref (a_T 0), .int x1, .int x2, .int x3]) s = true := fun w h => S.2.2.2.2 w (List.mem_cons_of_mem _ h)
  have hl : lv_has ls 4 [(0, .ref (a_T 0)), (1, .int x1), (2, .int x2), (3, .int x3)] := hl
  unfold f_X12_noted at hf
  refine lv_aload_n hx hb dX12_noted_0 rfl (lv_at hl 0 rfl) ?_
  refine gf_X12_124 S hE hw 0 rfl rfl dX12_noted_1 ?_
  refine lv_iconst (v := 3) hx hb dX12_noted_4 (by decide) ?_
  refine lv_aload_n hx hb dX12_noted_5 rfl (lv_at hl 0 rfl) ?_
  refine gf_X12_347 S hE hw 0 rfl rfl dX12_noted_6 ?_
  refine lv_imul hx hb dX12_noted_9 ?_
  refine lv_iload_n hx hb dX12_noted_10 rfl (lv_at hl 1 rfl) ?_
  obtain ⟨h_1, hf⟩ := tx_ck_e hf
  obtain ⟨u_T_2, eu_T_2⟩ : ∃ z : S32, z = up2 u_T 74 ((3 : Int32) * (u_T 0 71)).toNatClampNeg x1 := ⟨_, rfl⟩
  replace hf := tx_let_e hf eu_T_2
  refine tx_iast (ws' := cl_X12 g a_T u_T_2 v_T ++ X) S hE hw 36 rfl h_1 (by rw [eu_T_2]; rfl) dX12_noted_11 (fun H locs hw => ?_)
  refine lv_aload_n hx hb dX12_noted_12 rfl (lv_at hl 0 rfl) ?_
  refine gf_X12_124 S hE hw 0 rfl rfl dX12_noted_13 ?_
  refine lv_iconst (v := 3) hx hb dX12_noted_16 (by decide) ?_
  refine lv_aload_n hx hb dX12_noted_17 rfl (lv_at hl 0 rfl) ?_
  refine gf_X12_347 S hE hw 0 rfl rfl dX12_noted_18 ?_
  refine lv_imul hx hb dX12_noted_21 ?_
  refine lv_iconst (v := 1) hx hb dX12_noted_22 (by decide) ?_
  refine lv_iadd hx hb dX12_noted_23 ?_
  refine lv_iload_n hx hb dX12_noted_24 rfl (lv_at hl 2 rfl) ?_
  obtain ⟨h_3, hf⟩ := tx_ck_e hf
  obtain ⟨u_T_4, eu_T_4⟩ : ∃ z : S32, z = up2 u_T_2 74 (((3 : Int32) * (u_T_2 0 71)) + (1 : Int32)).toNatClampNeg x2 := ⟨_, rfl⟩
  replace hf := tx_let_e hf eu_T_4
  refine tx_iast (ws' := cl_X12 g a_T u_T_4 v_T ++ X) S hE hw 36 rfl h_3 (by rw [eu_T_4]; rfl) dX12_noted_25 (fun H locs hw => ?_)
  refine lv_aload_n hx hb dX12_noted_26 rfl (lv_at hl 0 rfl) ?_
  refine gf_X12_124 S hE hw 0 rfl rfl dX12_noted_27 ?_
  refine lv_iconst (v := 3) hx hb dX12_noted_30 (by decide) ?_
  refine lv_aload_n hx hb dX12_noted_31 rfl (lv_at hl 0 rfl) ?_
  refine gf_X12_347 S hE hw 0 rfl rfl dX12_noted_32 ?_
  refine lv_imul hx hb dX12_noted_35 ?_
  refine lv_iconst (v := 2) hx hb dX12_noted_36 (by decide) ?_
  refine lv_iadd hx hb dX12_noted_37 ?_
  refine lv_iload_n hx hb dX12_noted_38 rfl (lv_at hl 3 rfl) ?_
  obtain ⟨h_5, hf⟩ := tx_ck_e hf
  obtain ⟨u_T_6, eu_T_6⟩ : ∃ z : S32, z = up2 u_T_4 74 (((3 : Int32) * (u_T_4 0 71)) + (2 : Int32)).toNatClampNeg x3 := ⟨_, rfl⟩
  replace hf := tx_let_e hf eu_T_6
  refine tx_iast (ws' := cl_X12 g a_T u_T_6 v_T ++ X) S hE hw 36 rfl h_5 (by rw [eu_T_6]; rfl) dX12_noted_39 (fun H locs hw => ?_)
  refine lv_aload_n hx hb dX12_noted_40 rfl (lv_at hl 0 rfl) ?_
  refine lv_dup hx hb dX12_noted_41 rfl ?_
  refine gf_X12_347 S hE hw 0 rfl rfl dX12_noted_42 ?_
  refine lv_iconst (v := 1) hx hb dX12_noted_45 (by decide) ?_
  refine lv_iadd hx hb dX12_noted_46 ?_
  obtain ⟨u_T_7, eu_T_7⟩ : ∃ z : S32, z = up2 u_T_6 0 71 ((u_T_6 0 71) + (1 : Int32)) := ⟨_, rfl⟩
  replace hf := tx_let_e hf eu_T_7
  refine pf_X12_347 (ws' := cl_X12 g a_T u_T_7 v_T ++ X) S hE hw rfl rfl 0 rfl (Nat.le_of_ble_eq_true rfl) (by rw [eu_T_7]; rfl) dX12_noted_47 (fun H locs hw => ?_)
  refine lv_aload_n hx hb dX12_noted_50 rfl (lv_at hl 0 rfl) ?_
  refine gf_X12_347 S hE hw 0 rfl rfl dX12_noted_51 ?_
  refine lv_iconst (v := 1) hx hb dX12_noted_54 (by decide) ?_
  refine lv_isub hx hb dX12_noted_55 ?_
  obtain ⟨e0, e1⟩ := tx_in2 hf
  rw [← e0, ← e1]
  exact tx_iret S hr hlk hw dX12_noted_56
def f_X12_find_J32 (fu : Nat) (v_T : S64) (u_T : S32) : Option (Int32 × S32) := some ((-1 : Int32), u_T)
def f_X12_find_J48 (fu : Nat) (v_T : S64) (u_T : S32) (t1 : Int32) (t2 : Int32) (t3 : Int32) : Option (Int32 × S32) := tx_b2 (f_X12_noted fu v_T u_T t1 t2 t3) fun (r_11 : Int32) (u_T_12 : S32) => some (r_11, u_T_12)
def f_X12_find (fu : Nat) (v_T : S64) (u_T : S32) (x1 : Int32) (x2 : Int32) (x3 : Int32) : Option (Int32 × S32) := tx_let (up2 u_T 0 2 (0 : Int32)) fun (u_T_1 : S32) => if (u_T_1 0 71) = (24 : Int32) then (f_X12_find_J32 fu v_T u_T_1) else (tx_b1 (f_X12_isIn fu x1 (1 : Int32) (40 : Int32)) fun (r_4 : Int32) => if r_4 = (0 : Int32) then (f_X12_find_J32 fu v_T u_T_1) else (tx_b1 (f_X12_isThought fu u_T_1 v_T x2) fun (r_7 : Int32) => if r_7 = (0 : Int32) then (f_X12_find_J32 fu v_T u_T_1) else (if x3 = (0 : Int32) then (f_X12_find_J48 fu v_T u_T_1 x1 x2 (0 : Int32)) else (f_X12_find_J48 fu v_T u_T_1 x1 x2 (1 : Int32)))))
set_option maxHeartbeats 4000000 in
set_option maxRecDepth 100000 in
theorem c_X12_find {l : Launch} {g : GG} {A : Nat → Prop} {X : va_W} {fu : Nat} {a_T : Nat → Nat} {u_T : S32} {v_T : S64} {x1 : Int32} {x2 : Int32} {x3 : Int32} {r : Int32} {zu_T : S32} (hf : f_X12_find fu v_T u_T x1 x2 x3 = some (r, zu_T)) : MI l yX12_find cX12_find 4 (some .int) 1 g A (cl_X12 g a_T u_T v_T ++ X) [.ref (a_T 0), .int x1, .int x2, .int x3] r (cl_X12 g a_T zu_T v_T ++ X) := by
  refine tx_start (av := [.ref (a_T 0), .int x1, .int x2, .int x3]) (by decide) (Nat.le_of_ble_eq_true rfl) ?_
  intro p e s m below meth c ls S hr hlk hE hw hl
  have S : CallFix p m c cX12_find 4 s (List.toArray [.ref (a_T 0), .int x1, .int x2, .int x3]) (Cond.code yX12_find cX12_find 4 (some .int) :: allW) RX12 := S
  have hx := S.1
  have hb := S.2.1
  have hown := S.2.2.2.1
  have hts : ∀ w ∈ allW, w.before (List.toArray [.ref (a_T 0), .int x1, .int x2, .int x3]) s = true := fun w h => S.2.2.2.2 w (List.mem_cons_of_mem _ h)
  have hl : lv_has ls 4 [(0, .ref (a_T 0)), (1, .int x1), (2, .int x2), (3, .int x3)] := hl
  have J32 : ∀ {u_T : S32} {H : Heap} {locs : List Loc} {ls : Array Slot}, f_X12_find_J32 fu v_T u_T = some (r, zu_T) → WD g A s.heap (cl_X12 g a_T u_T v_T ++ X) H locs → lv_has ls 4 [] → W p l e (rmH 1) s m (List.toArray [.ref (a_T 0), .int x1, .int x2, .int x3]) below meth c H locs 0 0 (MQ below (va_Qi (fun r2 (_ : Unit) => r2 = r) (fun _ t => POST g A (cl_X12 g a_T zu_T v_T ++ X) t) A) (List.toArray [.ref (a_T 0), .int x1, .int x2, .int x3]) s 0 0 A) (F0 m 32 ls []) := by
    intro u_T H locs ls hf hw hl
    unfold f_X12_find_J32 at hf
    refine lv_iconst (v := -1) hx hb dX12_find_32 (by decide) ?_
    refine lv_goto (tgt := 51) hx hb dX12_find_33 (by decide) ?_
    obtain ⟨e0, e1⟩ := tx_in2 hf
    rw [← e0, ← e1]
    exact tx_iret S hr hlk hw dX12_find_51
  have J48 : ∀ {u_T : S32} {t1 : Int32} {t2 : Int32} {t3 : Int32} {H : Heap} {locs : List Loc} {ls : Array Slot}, f_X12_find_J48 fu v_T u_T t1 t2 t3 = some (r, zu_T) → WD g A s.heap (cl_X12 g a_T u_T v_T ++ X) H locs → lv_has ls 4 [] → W p l e (rmH 1) s m (List.toArray [.ref (a_T 0), .int x1, .int x2, .int x3]) below meth c H locs 0 0 (MQ below (va_Qi (fun r2 (_ : Unit) => r2 = r) (fun _ t => POST g A (cl_X12 g a_T zu_T v_T ++ X) t) A) (List.toArray [.ref (a_T 0), .int x1, .int x2, .int x3]) s 0 0 A) (F0 m 48 ls [.int t3, .int t2, .int t1, .ref (a_T 0)]) := by
    intro u_T t1 t2 t3 H locs ls hf hw hl
    unfold f_X12_find_J48 at hf
    obtain ⟨r_11, u_T_12, h_10, hf⟩ := tx_b2_e hf
    refine tx_ci hw (tx_runV S hE hw (c_X12_noted h_10) lk_X12_504 (q0 := 0) rfl rfl rfl hl.1 (rest := []) rfl (Nat.le_of_ble_eq_true rfl) ⟨by decide, by decide⟩ dX12_find_48 ⟨Nat.zero_le _, Nat.zero_le _⟩) (fun H locs hw => ?_)
    obtain ⟨e0, e1⟩ := tx_in2 hf
    rw [← e0, ← e1]
    exact tx_iret S hr hlk hw dX12_find_51
  unfold f_X12_find at hf
  refine lv_aload_n hx hb dX12_find_0 rfl (lv_at hl 0 rfl) ?_
  refine lv_iconst (v := 0) hx hb dX12_find_1 (by decide) ?_
  obtain ⟨u_T_1, eu_T_1⟩ : ∃ z : S32, z = up2 u_T 0 2 (0 : Int32) := ⟨_, rfl⟩
  replace hf := tx_let_e hf eu_T_1
  refine pf_X12_145 (ws' := cl_X12 g a_T u_T_1 v_T ++ X) S hE hw rfl rfl 0 rfl (Nat.le_of_ble_eq_true rfl) (by rw [eu_T_1]; rfl) dX12_find_2 (fun H locs hw => ?_)
  refine lv_aload_n hx hb dX12_find_5 rfl (lv_at hl 0 rfl) ?_
  refine gf_X12_347 S hE hw 0 rfl rfl dX12_find_6 ?_
  refine lv_bipush (v := 24) hx hb dX12_find_9 (by decide) ?_
  refine lv_icmp_eq (tgt := 32) hx hb dX12_find_11 (by decide) (fun h_2 => ?_) (fun h_2 => ?_)
  · replace hf := tx_pos hf h_2
    exact J32 hf hw (lv_sub hl [] rfl)
  · replace hf := tx_neg hf h_2
    refine lv_iload_n hx hb dX12_find_14 rfl (lv_at hl 1 rfl) ?_
    refine lv_iconst (v := 1) hx hb dX12_find_15 (by decide) ?_
    refine lv_bipush (v := 40) hx hb dX12_find_16 (by decide) ?_
    obtain ⟨r_4, h_3, hf⟩ := tx_b1_e hf
    refine tx_ci hw (tx_runS S hE hw (c_X12_isIn h_3) lk_X12_190 rfl hl.1 (rest := []) rfl (Nat.le_of_ble_eq_true rfl) ⟨by decide, by decide⟩ dX12_find_18 ⟨Nat.zero_le _, Nat.zero_le _⟩) (fun H locs hw => ?_)
    refine lv_if_eq (tgt := 32) hx hb dX12_find_21 (by decide) (fun h_5 => ?_) (fun h_5 => ?_)
    · replace hf := tx_pos hf h_5
      exact J32 hf hw (lv_sub hl [] rfl)
    · replace hf := tx_neg hf h_5
      refine lv_aload_n hx hb dX12_find_24 rfl (lv_at hl 0 rfl) ?_
      refine lv_iload_n hx hb dX12_find_25 rfl (lv_at hl 2 rfl) ?_
      obtain ⟨r_7, h_6, hf⟩ := tx_b1_e hf
      refine tx_ci hw (tx_runV S hE hw (c_X12_isThought h_6) lk_X12_454 (q0 := 0) rfl rfl rfl hl.1 (rest := []) rfl (Nat.le_of_ble_eq_true rfl) ⟨by decide, by decide⟩ dX12_find_26 ⟨Nat.zero_le _, Nat.zero_le _⟩) (fun H locs hw => ?_)
      refine lv_if_ne (tgt := 36) hx hb dX12_find_29 (by decide) (fun h_8 => ?_) (fun h_8 => ?_)
      · replace hf := tx_neg hf h_8
        refine lv_aload_n hx hb dX12_find_36 rfl (lv_at hl 0 rfl) ?_
        refine lv_iload_n hx hb dX12_find_37 rfl (lv_at hl 1 rfl) ?_
        refine lv_iload_n hx hb dX12_find_38 rfl (lv_at hl 2 rfl) ?_
        refine lv_iload_n hx hb dX12_find_39 rfl (lv_at hl 3 rfl) ?_
        refine lv_if_eq (tgt := 47) hx hb dX12_find_40 (by decide) (fun h_9 => ?_) (fun h_9 => ?_)
        · replace hf := tx_pos hf h_9
          refine lv_iconst (v := 0) hx hb dX12_find_47 (by decide) ?_
          exact J48 hf hw (lv_sub hl [] rfl)
        · replace hf := tx_neg hf h_9
          refine lv_iconst (v := 1) hx hb dX12_find_43 (by decide) ?_
          refine lv_goto (tgt := 48) hx hb dX12_find_44 (by decide) ?_
          exact J48 hf hw (lv_sub hl [] rfl)
      · replace hf := tx_pos hf h_8
        exact J32 hf hw (lv_sub hl [] rfl)
def f_X12_strike_J26 (fu : Nat) (v_T : S64) (u_T : S32) : Option (Int32 × S32) := some ((-1 : Int32), u_T)
def f_X12_strike (fu : Nat) (v_T : S64) (u_T : S32) (x1 : Int32) : Option (Int32 × S32) := tx_let (up2 u_T 0 2 (0 : Int32)) fun (u_T_1 : S32) => if (u_T_1 0 71) = (24 : Int32) then (f_X12_strike_J26 fu v_T u_T_1) else (if x1 < (0 : Int32) then (f_X12_strike_J26 fu v_T u_T_1) else (if x1 < (u_T_1 0 71) then (tx_b2 (f_X12_noted fu v_T u_T_1 (-1 : Int32) x1 (0 : Int32)) fun (r_6 : Int32) (u_T_7 : S32) => some (r_6, u_T_7)) else (f_X12_strike_J26 fu v_T u_T_1)))
set_option maxHeartbeats 4000000 in
set_option maxRecDepth 100000 in
theorem c_X12_strike {l : Launch} {g : GG} {A : Nat → Prop} {X : va_W} {fu : Nat} {a_T : Nat → Nat} {u_T : S32} {v_T : S64} {x1 : Int32} {r : Int32} {zu_T : S32} (hf : f_X12_strike fu v_T u_T x1 = some (r, zu_T)) : MI l yX12_strike cX12_strike 2 (some .int) 1 g A (cl_X12 g a_T u_T v_T ++ X) [.ref (a_T 0), .int x1] r (cl_X12 g a_T zu_T v_T ++ X) := by
  refine tx_start (av := [.ref (a_T 0), .int x1]) (by decide) (Nat.le_of_ble_eq_true rfl) ?_
  intro p e s m below meth c ls S hr hlk hE hw hl
  have S : CallFix p m c cX12_strike 2 s (List.toArray [.ref (a_T 0), .int x1]) (Cond.code yX12_strike cX12_strike 2 (some .int) :: allW) RX12 := S
  have hx := S.1
  have hb := S.2.1
  have hown := S.2.2.2.1
  have hts : ∀ w ∈ allW, w.before (List.toArray [.ref (a_T 0), .int x1]) s = true := fun w h => S.2.2.2.2 w (List.mem_cons_of_mem _ h)
  have hl : lv_has ls 2 [(0, .ref (a_T 0)), (1, .int x1)] := hl
  have J26 : ∀ {u_T : S32} {H : Heap} {locs : List Loc} {ls : Array Slot}, f_X12_strike_J26 fu v_T u_T = some (r, zu_T) → WD g A s.heap (cl_X12 g a_T u_T v_T ++ X) H locs → lv_has ls 2 [] → W p l e (rmH 1) s m (List.toArray [.ref (a_T 0), .int x1]) below meth c H locs 0 0 (MQ below (va_Qi (fun r2 (_ : Unit) => r2 = r) (fun _ t => POST g A (cl_X12 g a_T zu_T v_T ++ X) t) A) (List.toArray [.ref (a_T 0), .int x1]) s 0 0 A) (F0 m 26 ls []) := by
    intro u_T H locs ls hf hw hl
    unfold f_X12_strike_J26 at hf
    refine lv_iconst (v := -1) hx hb dX12_strike_26 (by decide) ?_
    refine lv_goto (tgt := 37) hx hb dX12_strike_27 (by decide) ?_
    obtain ⟨e0, e1⟩ := tx_in2 hf
    rw [← e0, ← e1]
    exact tx_iret S hr hlk hw dX12_strike_37
  unfold f_X12_strike at hf
  refine lv_aload_n hx hb dX12_strike_0 rfl (lv_at hl 0 rfl) ?_
  refine lv_iconst (v := 0) hx hb dX12_strike_1 (by decide) ?_
  obtain ⟨u_T_1, eu_T_1⟩ : ∃ z : S32, z = up2 u_T 0 2 (0 : Int32) := ⟨_, rfl⟩
  replace hf := tx_let_e hf eu_T_1
  refine pf_X12_145 (ws' := cl_X12 g a_T u_T_1 v_T ++ X) S hE hw rfl rfl 0 rfl (Nat.le_of_ble_eq_true rfl) (by rw [eu_T_1]; rfl) dX12_strike_2 (fun H locs hw => ?_)
  refine lv_aload_n hx hb dX12_strike_5 rfl (lv_at hl 0 rfl) ?_
  refine gf_X12_347 S hE hw 0 rfl rfl dX12_strike_6 ?_
  refine lv_bipush (v := 24) hx hb dX12_strike_9 (by decide) ?_
  refine lv_icmp_eq (tgt := 26) hx hb dX12_strike_11 (by decide) (fun h_2 => ?_) (fun h_2 => ?_)
  · replace hf := tx_pos hf h_2
    exact J26 hf hw (lv_sub hl [] rfl)
  · replace hf := tx_neg hf h_2
    refine lv_iload_n hx hb dX12_strike_14 rfl (lv_at hl 1 rfl) ?_
    refine lv_if_lt (tgt := 26) hx hb dX12_strike_15 (by decide) (fun h_3 => ?_) (fun h_3 => ?_)
    · replace hf := tx_pos hf h_3
      exact J26 hf hw (lv_sub hl [] rfl)
    · replace hf := tx_neg hf h_3
      refine lv_iload_n hx hb dX12_strike_18 rfl (lv_at hl 1 rfl) ?_
      refine lv_aload_n hx hb dX12_strike_19 rfl (lv_at hl 0 rfl) ?_
      refine gf_X12_347 S hE hw 0 rfl rfl dX12_strike_20 ?_
      refine lv_icmp_lt (tgt := 30) hx hb dX12_strike_23 (by decide) (fun h_4 => ?_) (fun h_4 => ?_)
      · replace hf := tx_pos hf h_4
        refine lv_aload_n hx hb dX12_strike_30 rfl (lv_at hl 0 rfl) ?_
        refine lv_iconst (v := -1) hx hb dX12_strike_31 (by decide) ?_
        refine lv_iload_n hx hb dX12_strike_32 rfl (lv_at hl 1 rfl) ?_
        refine lv_iconst (v := 0) hx hb dX12_strike_33 (by decide) ?_
        obtain ⟨r_6, u_T_7, h_5, hf⟩ := tx_b2_e hf
        refine tx_ci hw (tx_runV S hE hw (c_X12_noted h_5) lk_X12_504 (q0 := 0) rfl rfl rfl hl.1 (rest := []) rfl (Nat.le_of_ble_eq_true rfl) ⟨by decide, by decide⟩ dX12_strike_34 ⟨Nat.zero_le _, Nat.zero_le _⟩) (fun H locs hw => ?_)
        obtain ⟨e0, e1⟩ := tx_in2 hf
        rw [← e0, ← e1]
        exact tx_iret S hr hlk hw dX12_strike_37
      · replace hf := tx_neg hf h_4
        exact J26 hf hw (lv_sub hl [] rfl)
def f_X12_known (fu : Nat) (v_T : S64) (u_T : S32) (x1 : Int32) : Option (Int32 × S32) := tx_let (up2 u_T 0 2 (0 : Int32)) fun (u_T_1 : S32) => tx_b1 (f_X12_isIn fu x1 (-1 : Int32) (u_T_1 0 71)) fun (r_3 : Int32) => if r_3 = (0 : Int32) then (some ((0 : Int32), u_T_1)) else (tx_let (up2 u_T_1 0 72 x1) fun (u_T_5 : S32) => some ((1 : Int32), u_T_5))
set_option maxHeartbeats 4000000 in
set_option maxRecDepth 100000 in
theorem c_X12_known {l : Launch} {g : GG} {A : Nat → Prop} {X : va_W} {fu : Nat} {a_T : Nat → Nat} {u_T : S32} {v_T : S64} {x1 : Int32} {r : Int32} {zu_T : S32} (hf : f_X12_known fu v_T u_T x1 = some (r, zu_T)) : MI l yX12_known cX12_known 2 (some .boolean) 1 g A (cl_X12 g a_T u_T v_T ++ X) [.ref (a_T 0), .int x1] r (cl_X12 g a_T zu_T v_T ++ X) := by
  refine tx_start (av := [.ref (a_T 0), .int x1]) (by decide) (Nat.le_of_ble_eq_true rfl) ?_
  intro p e s m below meth c ls S hr hlk hE hw hl
  have S : CallFix p m c cX12_known 2 s (List.toArray [.ref (a_T 0), .int x1]) (Cond.code yX12_known cX12_known 2 (some .boolean) :: allW) RX12 := S
  have hx := S.1
  have hb := S.2.1
  have hown := S.2.2.2.1
  have hts : ∀ w ∈ allW, w.before (List.toArray [.ref (a_T 0), .int x1]) s = true := fun w h => S.2.2.2.2 w (List.mem_cons_of_mem _ h)
  have hl : lv_has ls 2 [(0, .ref (a_T 0)), (1, .int x1)] := hl
  unfold f_X12_known at hf
  refine lv_aload_n hx hb dX12_known_0 rfl (lv_at hl 0 rfl) ?_
  refine lv_iconst (v := 0) hx hb dX12_known_1 (by decide) ?_
  obtain ⟨u_T_1, eu_T_1⟩ : ∃ z : S32, z = up2 u_T 0 2 (0 : Int32) := ⟨_, rfl⟩
  replace hf := tx_let_e hf eu_T_1
  refine pf_X12_145 (ws' := cl_X12 g a_T u_T_1 v_T ++ X) S hE hw rfl rfl 0 rfl (Nat.le_of_ble_eq_true rfl) (by rw [eu_T_1]; rfl) dX12_known_2 (fun H locs hw => ?_)
  refine lv_iload_n hx hb dX12_known_5 rfl (lv_at hl 1 rfl) ?_
  refine lv_iconst (v := -1) hx hb dX12_known_6 (by decide) ?_
  refine lv_aload_n hx hb dX12_known_7 rfl (lv_at hl 0 rfl) ?_
  refine gf_X12_347 S hE hw 0 rfl rfl dX12_known_8 ?_
  obtain ⟨r_3, h_2, hf⟩ := tx_b1_e hf
  refine tx_ci hw (tx_runS S hE hw (c_X12_isIn h_2) lk_X12_190 rfl hl.1 (rest := []) rfl (Nat.le_of_ble_eq_true rfl) ⟨by decide, by decide⟩ dX12_known_11 ⟨Nat.zero_le _, Nat.zero_le _⟩) (fun H locs hw => ?_)
  refine lv_if_ne (tgt := 19) hx hb dX12_known_14 (by decide) (fun h_4 => ?_) (fun h_4 => ?_)
  · replace hf := tx_neg hf h_4
    refine lv_aload_n hx hb dX12_known_19 rfl (lv_at hl 0 rfl) ?_
    refine lv_iload_n hx hb dX12_known_20 rfl (lv_at hl 1 rfl) ?_
    obtain ⟨u_T_5, eu_T_5⟩ : ∃ z : S32, z = up2 u_T_1 0 72 x1 := ⟨_, rfl⟩
    replace hf := tx_let_e hf eu_T_5
    refine pf_X12_121 (ws' := cl_X12 g a_T u_T_5 v_T ++ X) S hE hw rfl rfl 0 rfl (Nat.le_of_ble_eq_true rfl) (by rw [eu_T_5]; rfl) dX12_known_21 (fun H locs hw => ?_)
    refine lv_iconst (v := 1) hx hb dX12_known_24 (by decide) ?_
    obtain ⟨e0, e1⟩ := tx_in2 hf
    rw [← e0, ← e1]
    exact tx_zret S hr hlk (by decide) hw dX12_known_25
  · replace hf := tx_pos hf h_4
    refine lv_iconst (v := 0) hx hb dX12_known_17 (by decide) ?_
    obtain ⟨e0, e1⟩ := tx_in2 hf
    rw [← e0, ← e1]
    exact tx_zret S hr hlk (by decide) hw dX12_known_18
def f_X12_knownBy (fu : Nat) (u_T : S32) (v_T : S64) : Option (Int32) := if (0 : Int32) ≤ (u_T 0 72) then (some (u_T 0 72)) else (some (u_T 0 71))
set_option maxHeartbeats 4000000 in
set_option maxRecDepth 100000 in
theorem c_X12_knownBy {l : Launch} {g : GG} {A : Nat → Prop} {X : va_W} {fu : Nat} {a_T : Nat → Nat} {u_T : S32} {v_T : S64} {r : Int32} (hf : f_X12_knownBy fu u_T v_T = some r) : MI l yX12_knownBy cX12_knownBy 1 (some .int) 0 g A (cl_X12 g a_T u_T v_T ++ X) [.ref (a_T 0)] r (cl_X12 g a_T u_T v_T ++ X) := by
  refine tx_start (av := [.ref (a_T 0)]) (by decide) (Nat.le_of_ble_eq_true rfl) ?_
  intro p e s m below meth c ls S hr hlk hE hw hl
  have S : CallFix p m c cX12_knownBy 1 s (List.toArray [.ref (a_T 0)]) (Cond.code yX12_knownBy cX12_knownBy 1 (some .int) :: allW) RX12 := S
  have hx := S.1
  have hb := S.2.1
  have hown := S.2.2.2.1
  have hts : ∀ w ∈ allW, w.before (List.toArray [.ref (a_T 0)]) s = true := fun w h => S.2.2.2.2 w (List.mem_cons_of_mem _ h)
  have hl : lv_has ls 1 [(0, .ref (a_T 0))] := hl
  unfold f_X12_knownBy at hf
  refine lv_aload_n hx hb dX12_knownBy_0 rfl (lv_at hl 0 rfl) ?_
  refine gf_X12_121 S hE hw 0 rfl rfl dX12_knownBy_1 ?_
  refine lv_if_ge (tgt := 14) hx hb dX12_knownBy_4 (by decide) (fun h_1 => ?_) (fun h_1 => ?_)
  · replace hf := tx_pos hf h_1
    refine lv_aload_n hx hb dX12_knownBy_14 rfl (lv_at hl 0 rfl) ?_
    refine gf_X12_121 S hE hw 0 rfl rfl dX12_knownBy_15 ?_
    obtain e0 := tx_in1 hf
    rw [← e0]
    exact tx_iret S hr hlk hw dX12_knownBy_18
  · replace hf := tx_neg hf h_1
    refine lv_aload_n hx hb dX12_knownBy_7 rfl (lv_at hl 0 rfl) ?_
    refine gf_X12_347 S hE hw 0 rfl rfl dX12_knownBy_8 ?_
    refine lv_goto (tgt := 18) hx hb dX12_knownBy_11 (by decide) ?_
    obtain e0 := tx_in1 hf
    rw [← e0]
    exact tx_iret S hr hlk hw dX12_knownBy_18
def f_X12_isSo_J76 (fu : Nat) (u_T : S32) (v_T : S64) (K2 : Int32 → Int32 → Option (Int32)) (w1 : Int32) (w2 : Int32) : Option (Int32) := tx_let (w2 + (1 : Int32)) fun (y_13 : Int32) => K2 w1 y_13
def f_X12_isSo_J71 (fu : Nat) (u_T : S32) (v_T : S64) (K2 : Int32 → Int32 → Option (Int32)) (w1 : Int32) (w2 : Int32) (t0 : Int32) (t1 : Int32) : Option (Int32) := if t0 = t1 then (f_X12_isSo_J76 fu u_T v_T K2 w1 w2) else (some (0 : Int32))
def f_X12_isSo_J2 (fu : Nat) (u_T : S32) (v_T : S64) (K2 : Int32 → Int32 → Option (Int32)) (w1 : Int32) (w2 : Int32) : Option (Int32) := tx_b1 (f_X12_knownBy fu u_T v_T) fun (r_2 : Int32) => if r_2 ≤ w2 then (some (1 : Int32)) else (tx_ck w2 24 <| if (u_T 75 w2.toNatClampNeg) = (0 : Int32) then (f_X12_isSo_J76 fu u_T v_T K2 w1 w2) else (tx_ck ((3 : Int32) * w2) 72 <| if (u_T 74 ((3 : Int32) * w2).toNatClampNeg) = w1 then (tx_ck (((3 : Int32) * w2) + (1 : Int32)) 72 <| tx_ck ((12 : Int32) + (u_T 74 (((3 : Int32) * w2) + (1 : Int32)).toNatClampNeg)) 24 <| tx_ck (((3 : Int32) * w2) + (2 : Int32)) 72 <| if (u_T 74 (((3 : Int32) * w2) + (2 : Int32)).toNatClampNeg) = (1 : Int32) then (f_X12_isSo_J71 fu u_T v_T K2 w1 w2 (u_T 52 ((12 : Int32) + (u_T 74 (((3 : Int32) * w2) + (1 : Int32)).toNatClampNeg)).toNatClampNeg) (1 : Int32)) else (f_X12_isSo_J71 fu u_T v_T K2 w1 w2 (u_T 52 ((12 : Int32) + (u_T 74 (((3 : Int32) * w2) + (1 : Int32)).toNatClampNeg)).toNatClampNeg) (0 : Int32))) else (f_X12_isSo_J76 fu u_T v_T K2 w1 w2)))
def f_X12_isSo_L2 (fu : Nat) (u_T : S32) (v_T : S64) : Nat → Int32 → Int32 → Option (Int32)
  | 0 => fun _ _ => none
  | n + 1 => f_X12_isSo_J2 fu u_T v_T (f_X12_isSo_L2 fu u_T v_T n)
def f_X12_isSo (fu : Nat) (u_T : S32) (v_T : S64) (x1 : Int32) : Option (Int32) := f_X12_isSo_L2 fu u_T v_T fu x1 (0 : Int32)
set_option maxHeartbeats 4000000 in
set_option maxRecDepth 100000 in
theorem c_X12_isSo {l : Launch} {g : GG} {A : Nat → Prop} {X : va_W} {fu : Nat} {a_T : Nat → Nat} {u_T : S32} {v_T : S64} {x1 : Int32} {r : Int32} (hf : f_X12_isSo fu u_T v_T x1 = some r) : MI l yX12_isSo cX12_isSo 3 (some .boolean) 1 g A (cl_X12 g a_T u_T v_T ++ X) [.ref (a_T 0), .int x1] r (cl_X12 g a_T u_T v_T ++ X) := by
  refine tx_start (av := [.ref (a_T 0), .int x1]) (by decide) (Nat.le_of_ble_eq_true rfl) ?_
  intro p e s m below meth c ls S hr hlk hE hw hl
  have S : CallFix p m c cX12_isSo 3 s (List.toArray [.ref (a_T 0), .int x1]) (Cond.code yX12_isSo cX12_isSo 3 (some .boolean) :: allW) RX12 := S
  have hx := S.1
  have hb := S.2.1
  have hown := S.2.2.2.1
  have hts : ∀ w ∈ allW, w.before (List.toArray [.ref (a_T 0), .int x1]) s = true := fun w h => S.2.2.2.2 w (List.mem_cons_of_mem _ h)
  have hl : lv_has ls 3 [(0, .ref (a_T 0)), (1, .int x1)] := hl
  have J76 : ∀ {K2 : Int32 → Int32 → Option (Int32)} (hK2 : ∀ {w1 : Int32} {w2 : Int32} {H : Heap} {locs : List Loc} {ls : Array Slot}, K2 w1 w2 = some r → WD g A s.heap (cl_X12 g a_T u_T v_T ++ X) H locs → lv_has ls 3 [(0, .ref (a_T 0)), (1, .int w1), (2, .int w2)] → W p l e (rmH 1) s m (List.toArray [.ref (a_T 0), .int x1]) below meth c H locs 0 0 (MQ below (va_Qi (fun r2 (_ : Unit) => r2 = r) (fun _ t => POST g A (cl_X12 g a_T u_T v_T ++ X) t) A) (List.toArray [.ref (a_T 0), .int x1]) s 0 0 A) (F0 m 2 ls [])), ∀ {w1 : Int32} {w2 : Int32} {H : Heap} {locs : List Loc} {ls : Array Slot}, f_X12_isSo_J76 fu u_T v_T K2 w1 w2 = some r → WD g A s.heap (cl_X12 g a_T u_T v_T ++ X) H locs → lv_has ls 3 [(0, .ref (a_T 0)), (1, .int w1), (2, .int w2)] → W p l e (rmH 1) s m (List.toArray [.ref (a_T 0), .int x1]) below meth c H locs 0 0 (MQ below (va_Qi (fun r2 (_ : Unit) => r2 = r) (fun _ t => POST g A (cl_X12 g a_T u_T v_T ++ X) t) A) (List.toArray [.ref (a_T 0), .int x1]) s 0 0 A) (F0 m 76 ls []) := by
    intro K2 hK2 w1 w2 H locs ls hf hw hl
    unfold f_X12_isSo_J76 at hf
    obtain ⟨y_13, ey_13⟩ : ∃ y : Int32, y = w2 + (1 : Int32) := ⟨_, rfl⟩
    replace hf := tx_let_e hf ey_13
    refine lv_iinc (v := y_13) (lv' := [(2, .int y_13), (0, .ref (a_T 0)), (1, .int w1)]) hx hb dX12_isSo_76 hl (k := 2) rfl (by rw [ey_13]; rfl) (by decide) rfl (fun ls hl => ?_)
    refine lv_goto (tgt := 2) hx hb dX12_isSo_79 (by decide) ?_
    exact hK2 hf hw (lv_sub hl [1, 2, 0] rfl)
  have J71 : ∀ {K2 : Int32 → Int32 → Option (Int32)} (hK2 : ∀ {w1 : Int32} {w2 : Int32} {H : Heap} {locs : List Loc} {ls : Array Slot}, K2 w1 w2 = some r → WD g A s.heap (cl_X12 g a_T u_T v_T ++ X) H locs → lv_has ls 3 [(0, .ref (a_T 0)), (1, .int w1), (2, .int w2)] → W p l e (rmH 1) s m (List.toArray [.ref (a_T 0), .int x1]) below meth c H locs 0 0 (MQ below (va_Qi (fun r2 (_ : Unit) => r2 = r) (fun _ t => POST g A (cl_X12 g a_T u_T v_T ++ X) t) A) (List.toArray [.ref (a_T 0), .int x1]) s 0 0 A) (F0 m 2 ls [])), ∀ {w1 : Int32} {w2 : Int32} {t0 : Int32} {t1 : Int32} {H : Heap} {locs : List Loc} {ls : Array Slot}, f_X12_isSo_J71 fu u_T v_T K2 w1 w2 t0 t1 = some r → WD g A s.heap (cl_X12 g a_T u_T v_T ++ X) H locs → lv_has ls 3 [(0, .ref (a_T 0)), (1, .int w1), (2, .int w2)] → W p l e (rmH 1) s m (List.toArray [.ref (a_T 0), .int x1]) below meth c H locs 0 0 (MQ below (va_Qi (fun r2 (_ : Unit) => r2 = r) (fun _ t => POST g A (cl_X12 g a_T u_T v_T ++ X) t) A) (List.toArray [.ref (a_T 0), .int x1]) s 0 0 A) (F0 m 71 ls [.int t1, .int t0]) := by
    intro K2 hK2 w1 w2 t0 t1 H locs ls hf hw hl
    unfold f_X12_isSo_J71 at hf
    refine lv_icmp_eq (tgt := 76) hx hb dX12_isSo_71 (by decide) (fun h_12 => ?_) (fun h_12 => ?_)
    · replace hf := tx_pos hf h_12
      exact J76 hK2 hf hw (lv_sub hl [0, 1, 2] rfl)
    · replace hf := tx_neg hf h_12
      refine lv_iconst (v := 0) hx hb dX12_isSo_74 (by decide) ?_
      obtain e0 := tx_in1 hf
      rw [← e0]
      exact tx_zret S hr hlk (by decide) hw dX12_isSo_75
  have J2 : ∀ {K2 : Int32 → Int32 → Option (Int32)} (hK2 : ∀ {w1 : Int32} {w2 : Int32} {H : Heap} {locs : List Loc} {ls : Array Slot}, K2 w1 w2 = some r → WD g A s.heap (cl_X12 g a_T u_T v_T ++ X) H locs → lv_has ls 3 [(0, .ref (a_T 0)), (1, .int w1), (2, .int w2)] → W p l e (rmH 1) s m (List.toArray [.ref (a_T 0), .int x1]) below meth c H locs 0 0 (MQ below (va_Qi (fun r2 (_ : Unit) => r2 = r) (fun _ t => POST g A (cl_X12 g a_T u_T v_T ++ X) t) A) (List.toArray [.ref (a_T 0), .int x1]) s 0 0 A) (F0 m 2 ls [])), ∀ {w1 : Int32} {w2 : Int32} {H : Heap} {locs : List Loc} {ls : Array Slot}, f_X12_isSo_J2 fu u_T v_T K2 w1 w2 = some r → WD g A s.heap (cl_X12 g a_T u_T v_T ++ X) H locs → lv_has ls 3 [(0, .ref (a_T 0)), (1, .int w1), (2, .int w2)] → W p l e (rmH 1) s m (List.toArray [.ref (a_T 0), .int x1]) below meth c H locs 0 0 (MQ below (va_Qi (fun r2 (_ : Unit) => r2 = r) (fun _ t => POST g A (cl_X12 g a_T u_T v_T ++ X) t) A) (List.toArray [.ref (a_T 0), .int x1]) s 0 0 A) (F0 m 2 ls []) := by
    intro K2 hK2 w1 w2 H locs ls hf hw hl
    unfold f_X12_isSo_J2 at hf
    refine lv_iload_n hx hb dX12_isSo_2 rfl (lv_at hl 2 rfl) ?_
    refine lv_aload_n hx hb dX12_isSo_3 rfl (lv_at hl 0 rfl) ?_
    obtain ⟨r_2, h_1, hf⟩ := tx_b1_e hf
    refine tx_ci hw (tx_runV S hE hw (c_X12_knownBy h_1) lk_X12_507 (q0 := 0) rfl rfl rfl hl.1 (rest := [.int w2]) rfl (Nat.le_of_ble_eq_true rfl) ⟨by decide, by decide⟩ dX12_isSo_4 ⟨Nat.zero_le _, Nat.zero_le _⟩) (fun H locs hw => ?_)
    refine lv_icmp_ge (tgt := 82) hx hb dX12_isSo_7 (by decide) (fun h_3 => ?_) (fun h_3 => ?_)
    · replace hf := tx_pos hf h_3
      refine lv_iconst (v := 1) hx hb dX12_isSo_82 (by decide) ?_
      obtain e0 := tx_in1 hf
      rw [← e0]
      exact tx_zret S hr hlk (by decide) hw dX12_isSo_83
    · replace hf := tx_neg hf h_3
      refine lv_aload_n hx hb dX12_isSo_10 rfl (lv_at hl 0 rfl) ?_
      refine gf_X12_127 S hE hw 0 rfl rfl dX12_isSo_11 ?_
      refine lv_iload_n hx hb dX12_isSo_14 rfl (lv_at hl 2 rfl) ?_
      obtain ⟨h_4, hf⟩ := tx_ck_e hf
      refine tx_zald S hE hw 37 rfl h_4 dX12_isSo_15 ?_
      refine lv_if_eq (tgt := 76) hx hb dX12_isSo_16 (by decide) (fun h_5 => ?_) (fun h_5 => ?_)
      · replace hf := tx_pos hf h_5
        exact J76 hK2 hf hw (lv_sub hl [0, 1, 2] rfl)
      · replace hf := tx_neg hf h_5
        refine lv_aload_n hx hb dX12_isSo_19 rfl (lv_at hl 0 rfl) ?_
        refine gf_X12_124 S hE hw 0 rfl rfl dX12_isSo_20 ?_
        refine lv_iconst (v := 3) hx hb dX12_isSo_23 (by decide) ?_
        refine lv_iload_n hx hb dX12_isSo_24 rfl (lv_at hl 2 rfl) ?_
        refine lv_imul hx hb dX12_isSo_25 ?_
        obtain ⟨h_6, hf⟩ := tx_ck_e hf
        refine tx_iald S hE hw 36 rfl h_6 dX12_isSo_26 ?_
        refine lv_iload_n hx hb dX12_isSo_27 rfl (lv_at hl 1 rfl) ?_
        refine lv_icmp_eq (tgt := 34) hx hb dX12_isSo_28 (by decide) (fun h_7 => ?_) (fun h_7 => ?_)
        · replace hf := tx_pos hf h_7
          refine lv_aload_n hx hb dX12_isSo_34 rfl (lv_at hl 0 rfl) ?_
          refine gf_X12_94 S hE hw 0 rfl rfl dX12_isSo_35 ?_
          refine lv_bipush (v := 12) hx hb dX12_isSo_38 (by decide) ?_
          refine lv_aload_n hx hb dX12_isSo_40 rfl (lv_at hl 0 rfl) ?_
          refine gf_X12_124 S hE hw 0 rfl rfl dX12_isSo_41 ?_
          refine lv_iconst (v := 3) hx hb dX12_isSo_44 (by decide) ?_
          refine lv_iload_n hx hb dX12_isSo_45 rfl (lv_at hl 2 rfl) ?_
          refine lv_imul hx hb dX12_isSo_46 ?_
          refine lv_iconst (v := 1) hx hb dX12_isSo_47 (by decide) ?_
          refine lv_iadd hx hb dX12_isSo_48 ?_
          obtain ⟨h_8, hf⟩ := tx_ck_e hf
          refine tx_iald S hE hw 36 rfl h_8 dX12_isSo_49 ?_
          refine lv_iadd hx hb dX12_isSo_50 ?_
          obtain ⟨h_9, hf⟩ := tx_ck_e hf
          refine tx_zald S hE hw 27 rfl h_9 dX12_isSo_51 ?_
          refine lv_aload_n hx hb dX12_isSo_52 rfl (lv_at hl 0 rfl) ?_
          refine gf_X12_124 S hE hw 0 rfl rfl dX12_isSo_53 ?_
          refine lv_iconst (v := 3) hx hb dX12_isSo_56 (by decide) ?_
          refine lv_iload_n hx hb dX12_isSo_57 rfl (lv_at hl 2 rfl) ?_
          refine lv_imul hx hb dX12_isSo_58 ?_
          refine lv_iconst (v := 2) hx hb dX12_isSo_59 (by decide) ?_
          refine lv_iadd hx hb dX12_isSo_60 ?_
          obtain ⟨h_10, hf⟩ := tx_ck_e hf
          refine tx_iald S hE hw 36 rfl h_10 dX12_isSo_61 ?_
          refine lv_iconst (v := 1) hx hb dX12_isSo_62 (by decide) ?_
          refine lv_icmp_ne (tgt := 70) hx hb dX12_isSo_63 (by decide) (fun h_11 => ?_) (fun h_11 => ?_)
          · replace hf := tx_neg hf h_11
            refine lv_iconst (v := 0) hx hb dX12_isSo_70 (by decide) ?_
            exact J71 hK2 hf hw (lv_sub hl [0, 1, 2] rfl)
          · replace hf := tx_pos hf h_11
            refine lv_iconst (v := 1) hx hb dX12_isSo_66 (by decide) ?_
            refine lv_goto (tgt := 71) hx hb dX12_isSo_67 (by decide) ?_
            exact J71 hK2 hf hw (lv_sub hl [0, 1, 2] rfl)
        · replace hf := tx_neg hf h_7
          refine lv_goto (tgt := 76) hx hb dX12_isSo_31 (by decide) ?_
          exact J76 hK2 hf hw (lv_sub hl [0, 1, 2] rfl)
  have L2 : ∀ (n : Nat), ∀ {w1 : Int32} {w2 : Int32} {H : Heap} {locs : List Loc} {ls : Array Slot}, f_X12_isSo_L2 fu u_T v_T n w1 w2 = some r → WD g A s.heap (cl_X12 g a_T u_T v_T ++ X) H locs → lv_has ls 3 [(0, .ref (a_T 0)), (1, .int w1), (2, .int w2)] → W p l e (rmH 1) s m (List.toArray [.ref (a_T 0), .int x1]) below meth c H locs 0 0 (MQ below (va_Qi (fun r2 (_ : Unit) => r2 = r) (fun _ t => POST g A (cl_X12 g a_T u_T v_T ++ X) t) A) (List.toArray [.ref (a_T 0), .int x1]) s 0 0 A) (F0 m 2 ls []) := by
    intro  n
    induction n with
    | zero => intro w1 w2 H locs ls hf; exact absurd hf (by intro q; cases q)
    | succ n ih => exact fun hf hw hl => J2 ih hf hw hl
  unfold f_X12_isSo at hf
  refine lv_iconst (v := 0) hx hb dX12_isSo_0 (by decide) ?_
  refine lv_istore_n (lv' := [(2, .int (0 : Int32)), (0, .ref (a_T 0)), (1, .int x1)]) hx hb dX12_isSo_1 rfl hl (by decide) rfl (fun ls hl => ?_)
  exact L2 fu hf hw (lv_sub hl [1, 2, 0] rfl)
def f_X12_fits_J21 (fu : Nat) (K21 : S32 → S64 → Int32 → Option (Int32 × S32 × S64)) (u_T : S32) (v_T : S64) (w3 : Int32) : Option (Int32 × S32 × S64) := if (40 : Int32) < w3 then (some ((1 : Int32), u_T, v_T)) else (tx_b2 (f_X12_weekGoes fu u_T v_T (1 : Int32)) fun (u_T_9 : S32) (v_T_10 : S64) => tx_b1 (f_X12_isSo fu u_T_9 v_T_10 w3) fun (r_12 : Int32) => if r_12 = (0 : Int32) then (some ((0 : Int32), u_T_9, v_T_10)) else (tx_let (w3 + (1 : Int32)) fun (y_14 : Int32) => K21 u_T_9 v_T_10 y_14))
def f_X12_fits_L21 (fu : Nat) : Nat → S32 → S64 → Int32 → Option (Int32 × S32 × S64)
  | 0 => fun _ _ _ => none
  | n + 1 => f_X12_fits_J21 fu (f_X12_fits_L21 fu n)
def f_X12_fits (fu : Nat) (u_T : S32) (v_T : S64) (x1 : Int32) (x2 : Int32) : Option (Int32 × S32 × S64) := tx_b1 (f_X12_atFirst fu v_T u_T (1 : Int32)) fun (u_T_2 : S32) => tx_b1 (f_X12_plainTried fu v_T u_T_2) fun (u_T_4 : S32) => tx_let (up2 u_T_4 0 68 x1) fun (u_T_5 : S32) => tx_let (up2 u_T_5 0 69 x2) fun (u_T_6 : S32) => f_X12_fits_L21 fu fu u_T_6 v_T (1 : Int32)
set_option maxHeartbeats 4000000 in
set_option maxRecDepth 100000 in
theorem c_X12_fits {l : Launch} {g : GG} {A : Nat → Prop} {X : va_W} {fu : Nat} {a_T : Nat → Nat} {u_T : S32} {v_T : S64} {x1 : Int32} {x2 : Int32} {r : Int32} {zu_T : S32} {zv_T : S64} (hf : f_X12_fits fu  u_T v_T x1 x2 = some (r, zu_T, zv_T)) : MI l yX12_fits cX12_fits 4 (some .boolean) 8 g A (cl_X12 g a_T u_T v_T ++ X) [.ref (a_T 0), .int x1, .int x2] r (cl_X12 g a_T zu_T zv_T ++ X) := by
  refine tx_start (av := [.ref (a_T 0), .int x1, .int x2]) (by decide) (Nat.le_of_ble_eq_true rfl) ?_
  intro p e s m below meth c ls S hr hlk hE hw hl
  have S : CallFix p m c cX12_fits 4 s (List.toArray [.ref (a_T 0), .int x1, .int x2]) (Cond.code yX12_fits cX12_fits 4 (some .boolean) :: allW) RX12 := S
  have hx := S.1
  have hb := S.2.1
  have hown := S.2.2.2.1
  have hts : ∀ w ∈ allW, w.before (List.toArray [.ref (a_T 0), .int x1, .int x2]) s = true := fun w h => S.2.2.2.2 w (List.mem_cons_of_mem _ h)
  have hl : lv_has ls 4 [(0, .ref (a_T 0)), (1, .int x1), (2, .int x2)] := hl
  have J21 : ∀ {K21 : S32 → S64 → Int32 → Option (Int32 × S32 × S64)} (hK21 : ∀ {u_T : S32} {v_T : S64} {w3 : Int32} {H : Heap} {locs : List Loc} {ls : Array Slot}, K21 u_T v_T w3 = some (r, zu_T, zv_T) → WD g A s.heap (cl_X12 g a_T u_T v_T ++ X) H locs → lv_has ls 4 [(0, .ref (a_T 0)), (3, .int w3)] → W p l e (rmH 8) s m (List.toArray [.ref (a_T 0), .int x1, .int x2]) below meth c H locs 0 0 (MQ below (va_Qi (fun r2 (_ : Unit) => r2 = r) (fun _ t => POST g A (cl_X12 g a_T zu_T zv_T ++ X) t) A) (List.toArray [.ref (a_T 0), .int x1, .int x2]) s 0 0 A) (F0 m 21 ls [])), ∀ {u_T : S32} {v_T : S64} {w3 : Int32} {H : Heap} {locs : List Loc} {ls : Array Slot}, f_X12_fits_J21 fu K21 u_T v_T w3 = some (r, zu_T, zv_T) → WD g A s.heap (cl_X12 g a_T u_T v_T ++ X) H locs → lv_has ls 4 [(0, .ref (a_T 0)), (3, .int w3)] → W p l e (rmH 8) s m (List.toArray [.ref (a_T 0), .int x1, .int x2]) below meth c H locs 0 0 (MQ below (va_Qi (fun r2 (_ : Unit) => r2 = r) (fun _ t => POST g A (cl_X12 g a_T zu_T zv_T ++ X) t) A) (List.toArray [.ref (a_T 0), .int x1, .int x2]) s 0 0 A) (F0 m 21 ls []) := by
    intro K21 hK21 u_T v_T w3 H locs ls hf hw hl
    unfold f_X12_fits_J21 at hf
    refine lv_iload_n hx hb dX12_fits_21 rfl (lv_at hl 1 rfl) ?_
    refine lv_bipush (v := 40) hx hb dX12_fits_22 (by decide) ?_
    refine lv_icmp_gt (tgt := 48) hx hb dX12_fits_24 (by decide) (fun h_7 => ?_) (fun h_7 => ?_)
    · replace hf := tx_pos hf h_7
      refine lv_iconst (v := 1) hx hb dX12_fits_48 (by decide) ?_
      obtain ⟨e0, e1, e2⟩ := tx_in3 hf
      rw [← e0, ← e1, ← e2]
      exact tx_zret S hr hlk (by decide) hw dX12_fits_49
    · replace hf := tx_neg hf h_7
      refine lv_aload_n hx hb dX12_fits_27 rfl (lv_at hl 0 rfl) ?_
      refine lv_iconst (v := 1) hx hb dX12_fits_28 (by decide) ?_
      obtain ⟨u_T_9, v_T_10, h_8, hf⟩ := tx_b2_e hf
      refine tx_cv hw (tx_runV S hE hw (c_X12_weekGoes h_8) lk_X12_445 (q0 := 0) rfl rfl rfl hl.1 (rest := []) rfl (Nat.le_of_ble_eq_true rfl) ⟨by decide, by decide⟩ dX12_fits_29 ⟨Nat.zero_le _, Nat.zero_le _⟩) (fun H locs hw => ?_)
      refine lv_aload_n hx hb dX12_fits_32 rfl (lv_at hl 0 rfl) ?_
      refine lv_iload_n hx hb dX12_fits_33 rfl (lv_at hl 1 rfl) ?_
      obtain ⟨r_12, h_11, hf⟩ := tx_b1_e hf
      refine tx_ci hw (tx_runV S hE hw (c_X12_isSo h_11) lk_X12_510 (q0 := 0) rfl rfl rfl hl.1 (rest := []) rfl (Nat.le_of_ble_eq_true rfl) ⟨by decide, by decide⟩ dX12_fits_34 ⟨Nat.zero_le _, Nat.zero_le _⟩) (fun H locs hw => ?_)
      refine lv_if_ne (tgt := 42) hx hb dX12_fits_37 (by decide) (fun h_13 => ?_) (fun h_13 => ?_)
      · replace hf := tx_neg hf h_13
        obtain ⟨y_14, ey_14⟩ : ∃ y : Int32, y = w3 + (1 : Int32) := ⟨_, rfl⟩
        replace hf := tx_let_e hf ey_14
        refine lv_iinc (v := y_14) (lv' := [(3, .int y_14), (0, .ref (a_T 0))]) hx hb dX12_fits_42 hl (k := 1) rfl (by rw [ey_14]; rfl) (by decide) rfl (fun ls hl => ?_)
        refine lv_goto (tgt := 21) hx hb dX12_fits_45 (by decide) ?_
        exact hK21 hf hw (lv_sub hl [1, 0] rfl)
      · replace hf := tx_pos hf h_13
        refine lv_iconst (v := 0) hx hb dX12_fits_40 (by decide) ?_
        obtain ⟨e0, e1, e2⟩ := tx_in3 hf
        rw [← e0, ← e1, ← e2]
        exact tx_zret S hr hlk (by decide) hw dX12_fits_41
  have L21 : ∀ (n : Nat), ∀ {u_T : S32} {v_T : S64} {w3 : Int32} {H : Heap} {locs : List Loc} {ls : Array Slot}, f_X12_fits_L21 fu n u_T v_T w3 = some (r, zu_T, zv_T) → WD g A s.heap (cl_X12 g a_T u_T v_T ++ X) H locs → lv_has ls 4 [(0, .ref (a_T 0)), (3, .int w3)] → W p l e (rmH 8) s m (List.toArray [.ref (a_T 0), .int x1, .int x2]) below meth c H locs 0 0 (MQ below (va_Qi (fun r2 (_ : Unit) => r2 = r) (fun _ t => POST g A (cl_X12 g a_T zu_T zv_T ++ X) t) A) (List.toArray [.ref (a_T 0), .int x1, .int x2]) s 0 0 A) (F0 m 21 ls []) := by
    intro  n
    induction n with
    | zero => intro u_T v_T w3 H locs ls hf; exact absurd hf (by intro q; cases q)
    | succ n ih => exact fun hf hw hl => J21 ih hf hw hl
  unfold f_X12_fits at hf
  refine lv_aload_n hx hb dX12_fits_0 rfl (lv_at hl 0 rfl) ?_
  refine lv_iconst (v := 1) hx hb dX12_fits_1 (by decide) ?_
  obtain ⟨u_T_2, h_1, hf⟩ := tx_b1_e hf
  refine tx_cv hw (tx_runV S hE hw (c_X12_atFirst h_1) lk_X12_337 (q0 := 0) rfl rfl rfl hl.1 (rest := []) rfl (Nat.le_of_ble_eq_true rfl) ⟨by decide, by decide⟩ dX12_fits_2 ⟨Nat.zero_le _, Nat.zero_le _⟩) (fun H locs hw => ?_)
  refine lv_aload_n hx hb dX12_fits_5 rfl (lv_at hl 0 rfl) ?_
  obtain ⟨u_T_4, h_3, hf⟩ := tx_b1_e hf
  refine tx_cv hw (tx_runV S hE hw (c_X12_plainTried h_3) lk_X12_344 (q0 := 0) rfl rfl rfl hl.1 (rest := []) rfl (Nat.le_of_ble_eq_true rfl) ⟨by decide, by decide⟩ dX12_fits_6 ⟨Nat.zero_le _, Nat.zero_le _⟩) (fun H locs hw => ?_)
  refine lv_aload_n hx hb dX12_fits_9 rfl (lv_at hl 0 rfl) ?_
  refine lv_iload_n hx hb dX12_fits_10 rfl (lv_at hl 1 rfl) ?_
  obtain ⟨u_T_5, eu_T_5⟩ : ∃ z : S32, z = up2 u_T_4 0 68 x1 := ⟨_, rfl⟩
  replace hf := tx_let_e hf eu_T_5
  refine pf_X12_377 (ws' := cl_X12 g a_T u_T_5 v_T ++ X) S hE hw rfl rfl 0 rfl (Nat.le_of_ble_eq_true rfl) (by rw [eu_T_5]; rfl) dX12_fits_11 (fun H locs hw => ?_)
  refine lv_aload_n hx hb dX12_fits_14 rfl (lv_at hl 0 rfl) ?_
  refine lv_iload_n hx hb dX12_fits_15 rfl (lv_at hl 2 rfl) ?_
  obtain ⟨u_T_6, eu_T_6⟩ : ∃ z : S32, z = up2 u_T_5 0 69 x2 := ⟨_, rfl⟩
  replace hf := tx_let_e hf eu_T_6
  refine pf_X12_380 (ws' := cl_X12 g a_T u_T_6 v_T ++ X) S hE hw rfl rfl 0 rfl (Nat.le_of_ble_eq_true rfl) (by rw [eu_T_6]; rfl) dX12_fits_16 (fun H locs hw => ?_)
  refine lv_iconst (v := 1) hx hb dX12_fits_19 (by decide) ?_
  refine lv_istore_n (lv' := [(3, .int (1 : Int32)), (0, .ref (a_T 0)), (1, .int x1), (2, .int x2)]) hx hb dX12_fits_20 rfl hl (by decide) rfl (fun ls hl => ?_)
  exact L21 fu hf hw (lv_sub hl [1, 0] rfl)
def f_X12_skills_J85 (fu : Nat) (K45 : S32 → S64 → Int32 → Int32 → Option (Int32 × S32 × S64)) (u_T : S32) (v_T : S64) (w1 : Int32) (w2 : Int32) : Option (Int32 × S32 × S64) := tx_let (w2 + (-1 : Int32)) fun (y_32 : Int32) => K45 u_T v_T w1 y_32
def f_X12_skills_J118 (fu : Nat) (K95 : S32 → S64 → Int32 → Int32 → Int32 → Option (Int32 × S32 × S64)) (u_T : S32) (v_T : S64) (w1 : Int32) (w3 : Int32) (t0 : Int32) (t1 : Int32) : Option (Int32 × S32 × S64) := tx_let (t0 ||| t1) fun (y_30 : Int32) => tx_let (w3 + (1 : Int32)) fun (y_31 : Int32) => K95 u_T v_T w1 y_30 y_31
def f_X12_skills_J95 (fu : Nat) (K95 : S32 → S64 → Int32 → Int32 → Int32 → Option (Int32 × S32 × S64)) (u_T : S32) (v_T : S64) (w1 : Int32) (w2 : Int32) (w3 : Int32) : Option (Int32 × S32 × S64) := if (10 : Int32) ≤ w3 then (tx_b1 (f_X12_plainTried fu v_T u_T) fun (u_T_24 : S32) => some (w2, u_T_24, v_T)) else (tx_b3 (f_X12_fits fu u_T v_T w1 w3) fun (r_26 : Int32) (u_T_27 : S32) (v_T_28 : S64) => if r_26 = (0 : Int32) then (f_X12_skills_J118 fu K95 u_T_27 v_T_28 w1 w3 w2 (0 : Int32)) else (f_X12_skills_J118 fu K95 u_T_27 v_T_28 w1 w3 w2 ((1 : Int32) <<< (w3 &&& 31))))
def f_X12_skills_L95 (fu : Nat) : Nat → S32 → S64 → Int32 → Int32 → Int32 → Option (Int32 × S32 × S64)
  | 0 => fun _ _ _ _ _ => none
  | n + 1 => f_X12_skills_J95 fu (f_X12_skills_L95 fu n)
def f_X12_skills_J45 (fu : Nat) (K45 : S32 → S64 → Int32 → Int32 → Option (Int32 × S32 × S64)) (u_T : S32) (v_T : S64) (w1 : Int32) (w2 : Int32) : Option (Int32 × S32 × S64) := if w2 < (0 : Int32) then (f_X12_skills_L95 fu fu u_T v_T w1 (0 : Int32) (0 : Int32)) else (tx_ck w2 24 <| if (u_T 75 w2.toNatClampNeg) = (0 : Int32) then (f_X12_skills_J85 fu K45 u_T v_T w1 w2) else (tx_ck ((3 : Int32) * w2) 72 <| if (0 : Int32) ≤ (u_T 74 ((3 : Int32) * w2).toNatClampNeg) then (f_X12_skills_J85 fu K45 u_T v_T w1 w2) else (tx_ck (((3 : Int32) * w2) + (1 : Int32)) 72 <| tx_ck (u_T 74 (((3 : Int32) * w2) + (1 : Int32)).toNatClampNeg) 24 <| tx_let (up2 u_T 75 (u_T 74 (((3 : Int32) * w2) + (1 : Int32)).toNatClampNeg).toNatClampNeg ((0 : Int32) &&& 1)) fun (u_T_21 : S32) => f_X12_skills_J85 fu K45 u_T_21 v_T w1 w2)))
def f_X12_skills_L45 (fu : Nat) : Nat → S32 → S64 → Int32 → Int32 → Option (Int32 × S32 × S64)
  | 0 => fun _ _ _ _ => none
  | n + 1 => f_X12_skills_J45 fu (f_X12_skills_L45 fu n)
def f_X12_skills_J17 (fu : Nat) (K17 : S32 → S64 → Int32 → Int32 → Option (Int32 × S32 × S64)) (u_T : S32) (v_T : S64) (w1 : Int32) (w2 : Int32) : Option (Int32 × S32 × S64) := tx_b1 (f_X12_knownBy fu u_T v_T) fun (r_6 : Int32) => if r_6 ≤ w2 then (tx_b1 (f_X12_knownBy fu u_T v_T) fun (r_9 : Int32) => tx_let (r_9 - (1 : Int32)) fun (y_10 : Int32) => f_X12_skills_L45 fu fu u_T v_T w1 y_10) else (tx_ck w2 24 <| tx_let (up2 u_T 75 w2.toNatClampNeg ((1 : Int32) &&& 1)) fun (u_T_12 : S32) => tx_let (w2 + (1 : Int32)) fun (y_13 : Int32) => K17 u_T_12 v_T w1 y_13)
def f_X12_skills_L17 (fu : Nat) : Nat → S32 → S64 → Int32 → Int32 → Option (Int32 × S32 × S64)
  | 0 => fun _ _ _ _ => none
  | n + 1 => f_X12_skills_J17 fu (f_X12_skills_L17 fu n)
def f_X12_skills (fu : Nat) (u_T : S32) (v_T : S64) (x1 : Int32) : Option (Int32 × S32 × S64) := tx_let (up2 u_T 0 2 (0 : Int32)) fun (u_T_1 : S32) => tx_b1 (f_X12_isReader fu u_T_1 v_T x1) fun (r_3 : Int32) => if r_3 = (0 : Int32) then (some ((-1 : Int32), u_T_1, v_T)) else (f_X12_skills_L17 fu fu u_T_1 v_T x1 (0 : Int32))
set_option maxHeartbeats 4000000 in
set_option maxRecDepth 100000 in
theorem c_X12_skills {l : Launch} {g : GG} {A : Nat → Prop} {X : va_W} {fu : Nat} {a_T : Nat → Nat} {u_T : S32} {v_T : S64} {x1 : Int32} {r : Int32} {zu_T : S32} {zv_T : S64} (hf : f_X12_skills fu  u_T v_T x1 = some (r, zu_T, zv_T)) : MI l yX12_skills cX12_skills 4 (some .int) 9 g A (cl_X12 g a_T u_T v_T ++ X) [.ref (a_T 0), .int x1] r (cl_X12 g a_T zu_T zv_T ++ X) := by
  refine tx_start (av := [.ref (a_T 0), .int x1]) (by decide) (Nat.le_of_ble_eq_true rfl) ?_
  intro p e s m below meth c ls S hr hlk hE hw hl
  have S : CallFix p m c cX12_skills 4 s (List.toArray [.ref (a_T 0), .int x1]) (Cond.code yX12_skills cX12_skills 4 (some .int) :: allW) RX12 := S
  have hx := S.1
  have hb := S.2.1
  have hown := S.2.2.2.1
  have hts : ∀ w ∈ allW, w.before (List.toArray [.ref (a_T 0), .int x1]) s = true := fun w h => S.2.2.2.2 w (List.mem_cons_of_mem _ h)
  have hl : lv_has ls 4 [(0, .ref (a_T 0)), (1, .int x1)] := hl
  have J85 : ∀ {K45 : S32 → S64 → Int32 → Int32 → Option (Int32 × S32 × S64)} (hK45 : ∀ {u_T : S32} {v_T : S64} {w1 : Int32} {w2 : Int32} {H : Heap} {locs : List Loc} {ls : Array Slot}, K45 u_T v_T w1 w2 = some (r, zu_T, zv_T) → WD g A s.heap (cl_X12 g a_T u_T v_T ++ X) H locs → lv_has ls 4 [(0, .ref (a_T 0)), (1, .int w1), (2, .int w2)] → W p l e (rmH 9) s m (List.toArray [.ref (a_T 0), .int x1]) below meth c H locs 0 0 (MQ below (va_Qi (fun r2 (_ : Unit) => r2 = r) (fun _ t => POST g A (cl_X12 g a_T zu_T zv_T ++ X) t) A) (List.toArray [.ref (a_T 0), .int x1]) s 0 0 A) (F0 m 45 ls [])), ∀ {u_T : S32} {v_T : S64} {w1 : Int32} {w2 : Int32} {H : Heap} {locs : List Loc} {ls : Array Slot}, f_X12_skills_J85 fu K45 u_T v_T w1 w2 = some (r, zu_T, zv_T) → WD g A s.heap (cl_X12 g a_T u_T v_T ++ X) H locs → lv_has ls 4 [(0, .ref (a_T 0)), (1, .int w1), (2, .int w2)] → W p l e (rmH 9) s m (List.toArray [.ref (a_T 0), .int x1]) below meth c H locs 0 0 (MQ below (va_Qi (fun r2 (_ : Unit) => r2 = r) (fun _ t => POST g A (cl_X12 g a_T zu_T zv_T ++ X) t) A) (List.toArray [.ref (a_T 0), .int x1]) s 0 0 A) (F0 m 85 ls []) := by
    intro K45 hK45 u_T v_T w1 w2 H locs ls hf hw hl
    unfold f_X12_skills_J85 at hf
    obtain ⟨y_32, ey_32⟩ : ∃ y : Int32, y = w2 + (-1 : Int32) := ⟨_, rfl⟩
    replace hf := tx_let_e hf ey_32
    refine lv_iinc (v := y_32) (lv' := [(2, .int y_32), (0, .ref (a_T 0)), (1, .int w1)]) hx hb dX12_skills_85 hl (k := 2) rfl (by rw [ey_32]; rfl) (by decide) rfl (fun ls hl => ?_)
    refine lv_goto (tgt := 45) hx hb dX12_skills_88 (by decide) ?_
    exact hK45 hf hw (lv_sub hl [1, 2, 0] rfl)
  have J118 : ∀ {K95 : S32 → S64 → Int32 → Int32 → Int32 → Option (Int32 × S32 × S64)} (hK95 : ∀ {u_T : S32} {v_T : S64} {w1 : Int32} {w2 : Int32} {w3 : Int32} {H : Heap} {locs : List Loc} {ls : Array Slot}, K95 u_T v_T w1 w2 w3 = some (r, zu_T, zv_T) → WD g A s.heap (cl_X12 g a_T u_T v_T ++ X) H locs → lv_has ls 4 [(0, .ref (a_T 0)), (1, .int w1), (2, .int w2), (3, .int w3)] → W p l e (rmH 9) s m (List.toArray [.ref (a_T 0), .int x1]) below meth c H locs 0 0 (MQ below (va_Qi (fun r2 (_ : Unit) => r2 = r) (fun _ t => POST g A (cl_X12 g a_T zu_T zv_T ++ X) t) A) (List.toArray [.ref (a_T 0), .int x1]) s 0 0 A) (F0 m 95 ls [])), ∀ {u_T : S32} {v_T : S64} {w1 : Int32} {w3 : Int32} {t0 : Int32} {t1 : Int32} {H : Heap} {locs : List Loc} {ls : Array Slot}, f_X12_skills_J118 fu K95 u_T v_T w1 w3 t0 t1 = some (r, zu_T, zv_T) → WD g A s.heap (cl_X12 g a_T u_T v_T ++ X) H locs → lv_has ls 4 [(0, .ref (a_T 0)), (1, .int w1), (3, .int w3)] → W p l e (rmH 9) s m (List.toArray [.ref (a_T 0), .int x1]) below meth c H locs 0 0 (MQ below (va_Qi (fun r2 (_ : Unit) => r2 = r) (fun _ t => POST g A (cl_X12 g a_T zu_T zv_T ++ X) t) A) (List.toArray [.ref (a_T 0), .int x1]) s 0 0 A) (F0 m 118 ls [.int t1, .int t0]) := by
    intro K95 hK95 u_T v_T w1 w3 t0 t1 H locs ls hf hw hl
    unfold f_X12_skills_J118 at hf
    refine lv_ior hx hb dX12_skills_118 ?_
    refine lv_topi (fun y_30 ey_30 => ?_)
    replace hf := tx_let_e hf ey_30
    refine lv_istore_n (lv' := [(2, .int y_30), (0, .ref (a_T 0)), (1, .int w1), (3, .int w3)]) hx hb dX12_skills_119 rfl hl (by decide) rfl (fun ls hl => ?_)
    obtain ⟨y_31, ey_31⟩ : ∃ y : Int32, y = w3 + (1 : Int32) := ⟨_, rfl⟩
    replace hf := tx_let_e hf ey_31
    refine lv_iinc (v := y_31) (lv' := [(3, .int y_31), (2, .int y_30), (0, .ref (a_T 0)), (1, .int w1)]) hx hb dX12_skills_120 hl (k := 3) rfl (by rw [ey_31]; rfl) (by decide) rfl (fun ls hl => ?_)
    refine lv_goto (tgt := 95) hx hb dX12_skills_123 (by decide) ?_
    exact hK95 hf hw (lv_sub hl [2, 3, 1, 0] rfl)
  have J95 : ∀ {K95 : S32 → S64 → Int32 → Int32 → Int32 → Option (Int32 × S32 × S64)} (hK95 : ∀ {u_T : S32} {v_T : S64} {w1 : Int32} {w2 : Int32} {w3 : Int32} {H : Heap} {locs : List Loc} {ls : Array Slot}, K95 u_T v_T w1 w2 w3 = some (r, zu_T, zv_T) → WD g A s.heap (cl_X12 g a_T u_T v_T ++ X) H locs → lv_has ls 4 [(0, .ref (a_T 0)), (1, .int w1), (2, .int w2), (3, .int w3)] → W p l e (rmH 9) s m (List.toArray [.ref (a_T 0), .int x1]) below meth c H locs 0 0 (MQ below (va_Qi (fun r2 (_ : Unit) => r2 = r) (fun _ t => POST g A (cl_X12 g a_T zu_T zv_T ++ X) t) A) (List.toArray [.ref (a_T 0), .int x1]) s 0 0 A) (F0 m 95 ls [])), ∀ {u_T : S32} {v_T : S64} {w1 : Int32} {w2 : Int32} {w3 : Int32} {H : Heap} {locs : List Loc} {ls : Array Slot}, f_X12_skills_J95 fu K95 u_T v_T w1 w2 w3 = some (r, zu_T, zv_T) → WD g A s.heap (cl_X12 g a_T u_T v_T ++ X) H locs → lv_has ls 4 [(0, .ref (a_T 0)), (1, .int w1), (2, .int w2), (3, .int w3)] → W p l e (rmH 9) s m (List.toArray [.ref (a_T 0), .int x1]) below meth c H locs 0 0 (MQ below (va_Qi (fun r2 (_ : Unit) => r2 = r) (fun _ t => POST g A (cl_X12 g a_T zu_T zv_T ++ X) t) A) (List.toArray [.ref (a_T 0), .int x1]) s 0 0 A) (F0 m 95 ls []) := by
    intro K95 hK95 u_T v_T w1 w2 w3 H locs ls hf hw hl
    unfold f_X12_skills_J95 at hf
    refine lv_iload_n hx hb dX12_skills_95 rfl (lv_at hl 3 rfl) ?_
    refine lv_bipush (v := 10) hx hb dX12_skills_96 (by decide) ?_
    refine lv_icmp_ge (tgt := 126) hx hb dX12_skills_98 (by decide) (fun h_22 => ?_) (fun h_22 => ?_)
    · replace hf := tx_pos hf h_22
      refine lv_aload_n hx hb dX12_skills_126 rfl (lv_at hl 0 rfl) ?_
      obtain ⟨u_T_24, h_23, hf⟩ := tx_b1_e hf
      refine tx_cv hw (tx_runV S hE hw (c_X12_plainTried h_23) lk_X12_344 (q0 := 0) rfl rfl rfl hl.1 (rest := []) rfl (Nat.le_of_ble_eq_true rfl) ⟨by decide, by decide⟩ dX12_skills_127 ⟨Nat.zero_le _, Nat.zero_le _⟩) (fun H locs hw => ?_)
      refine lv_iload_n hx hb dX12_skills_130 rfl (lv_at hl 2 rfl) ?_
      obtain ⟨e0, e1, e2⟩ := tx_in3 hf
      rw [← e0, ← e1, ← e2]
      exact tx_iret S hr hlk hw dX12_skills_131
    · replace hf := tx_neg hf h_22
      refine lv_iload_n hx hb dX12_skills_101 rfl (lv_at hl 2 rfl) ?_
      refine lv_aload_n hx hb dX12_skills_102 rfl (lv_at hl 0 rfl) ?_
      refine lv_iload_n hx hb dX12_skills_103 rfl (lv_at hl 1 rfl) ?_
      refine lv_iload_n hx hb dX12_skills_104 rfl (lv_at hl 3 rfl) ?_
      obtain ⟨r_26, u_T_27, v_T_28, h_25, hf⟩ := tx_b3_e hf
      refine tx_ci hw (tx_runV S hE hw (c_X12_fits h_25) lk_X12_513 (q0 := 0) rfl rfl rfl hl.1 (rest := [.int w2]) rfl (Nat.le_of_ble_eq_true rfl) ⟨by decide, by decide⟩ dX12_skills_105 ⟨Nat.zero_le _, Nat.zero_le _⟩) (fun H locs hw => ?_)
      refine lv_if_eq (tgt := 117) hx hb dX12_skills_108 (by decide) (fun h_29 => ?_) (fun h_29 => ?_)
      · replace hf := tx_pos hf h_29
        refine lv_iconst (v := 0) hx hb dX12_skills_117 (by decide) ?_
        exact J118 hK95 hf hw (lv_sub hl [0, 1, 3] rfl)
      · replace hf := tx_neg hf h_29
        refine lv_iconst (v := 1) hx hb dX12_skills_111 (by decide) ?_
        refine lv_iload_n hx hb dX12_skills_112 rfl (lv_at hl 3 rfl) ?_
        refine lv_ishl hx hb dX12_skills_113 ?_
        refine lv_goto (tgt := 118) hx hb dX12_skills_114 (by decide) ?_
        exact J118 hK95 hf hw (lv_sub hl [0, 1, 3] rfl)
  have L95 : ∀ (n : Nat), ∀ {u_T : S32} {v_T : S64} {w1 : Int32} {w2 : Int32} {w3 : Int32} {H : Heap} {locs : List Loc} {ls : Array Slot}, f_X12_skills_L95 fu n u_T v_T w1 w2 w3 = some (r, zu_T, zv_T) → WD g A s.heap (cl_X12 g a_T u_T v_T ++ X) H locs → lv_has ls 4 [(0, .ref (a_T 0)), (1, .int w1), (2, .int w2), (3, .int w3)] → W p l e (rmH 9) s m (List.toArray [.ref (a_T 0), .int x1]) below meth c H locs 0 0 (MQ below (va_Qi (fun r2 (_ : Unit) => r2 = r) (fun _ t => POST g A (cl_X12 g a_T zu_T zv_T ++ X) t) A) (List.toArray [.ref (a_T 0), .int x1]) s 0 0 A) (F0 m 95 ls []) := by
    intro  n
    induction n with
    | zero => intro u_T v_T w1 w2 w3 H locs ls hf; exact absurd hf (by intro q; cases q)
    | succ n ih => exact fun hf hw hl => J95 ih hf hw hl
  have J45 : ∀ {K45 : S32 → S64 → Int32 → Int32 → Option (Int32 × S32 × S64)} (hK45 : ∀ {u_T : S32} {v_T : S64} {w1 : Int32} {w2 : Int32} {H : Heap} {locs : List Loc} {ls : Array Slot}, K45 u_T v_T w1 w2 = some (r, zu_T, zv_T) → WD g A s.heap (cl_X12 g a_T u_T v_T ++ X) H locs → lv_has ls 4 [(0, .ref (a_T 0)), (1, .int w1), (2, .int w2)] → W p l e (rmH 9) s m (List.toArray [.ref (a_T 0), .int x1]) below meth c H locs 0 0 (MQ below (va_Qi (fun r2 (_ : Unit) => r2 = r) (fun _ t => POST g A (cl_X12 g a_T zu_T zv_T ++ X) t) A) (List.toArray [.ref (a_T 0), .int x1]) s 0 0 A) (F0 m 45 ls [])), ∀ {u_T : S32} {v_T : S64} {w1 : Int32} {w2 : Int32} {H : Heap} {locs : List Loc} {ls : Array Slot}, f_X12_skills_J45 fu K45 u_T v_T w1 w2 = some (r, zu_T, zv_T) → WD g A s.heap (cl_X12 g a_T u_T v_T ++ X) H locs → lv_has ls 4 [(0, .ref (a_T 0)), (1, .int w1), (2, .int w2)] → W p l e (rmH 9) s m (List.toArray [.ref (a_T 0), .int x1]) below meth c H locs 0 0 (MQ below (va_Qi (fun r2 (_ : Unit) => r2 = r) (fun _ t => POST g A (cl_X12 g a_T zu_T zv_T ++ X) t) A) (List.toArray [.ref (a_T 0), .int x1]) s 0 0 A) (F0 m 45 ls []) := by
    intro K45 hK45 u_T v_T w1 w2 H locs ls hf hw hl
    unfold f_X12_skills_J45 at hf
    refine lv_iload_n hx hb dX12_skills_45 rfl (lv_at hl 2 rfl) ?_
    refine lv_if_lt (tgt := 91) hx hb dX12_skills_46 (by decide) (fun h_14 => ?_) (fun h_14 => ?_)
    · replace hf := tx_pos hf h_14
      refine lv_iconst (v := 0) hx hb dX12_skills_91 (by decide) ?_
      refine lv_istore_n (lv' := [(2, .int (0 : Int32)), (0, .ref (a_T 0)), (1, .int w1)]) hx hb dX12_skills_92 rfl hl (by decide) rfl (fun ls hl => ?_)
      refine lv_iconst (v := 0) hx hb dX12_skills_93 (by decide) ?_
      refine lv_istore_n (lv' := [(3, .int (0 : Int32)), (2, .int (0 : Int32)), (0, .ref (a_T 0)), (1, .int w1)]) hx hb dX12_skills_94 rfl hl (by decide) rfl (fun ls hl => ?_)
      exact L95 fu hf hw (lv_sub hl [2, 3, 1, 0] rfl)
    · replace hf := tx_neg hf h_14
      refine lv_aload_n hx hb dX12_skills_49 rfl (lv_at hl 0 rfl) ?_
      refine gf_X12_127 S hE hw 0 rfl rfl dX12_skills_50 ?_
      refine lv_iload_n hx hb dX12_skills_53 rfl (lv_at hl 2 rfl) ?_
      obtain ⟨h_15, hf⟩ := tx_ck_e hf
      refine tx_zald S hE hw 37 rfl h_15 dX12_skills_54 ?_
      refine lv_if_eq (tgt := 85) hx hb dX12_skills_55 (by decide) (fun h_16 => ?_) (fun h_16 => ?_)
      · replace hf := tx_pos hf h_16
        exact J85 hK45 hf hw (lv_sub hl [0, 1, 2] rfl)
      · replace hf := tx_neg hf h_16
        refine lv_aload_n hx hb dX12_skills_58 rfl (lv_at hl 0 rfl) ?_
        refine gf_X12_124 S hE hw 0 rfl rfl dX12_skills_59 ?_
        refine lv_iconst (v := 3) hx hb dX12_skills_62 (by decide) ?_
        refine lv_iload_n hx hb dX12_skills_63 rfl (lv_at hl 2 rfl) ?_
        refine lv_imul hx hb dX12_skills_64 ?_
        obtain ⟨h_17, hf⟩ := tx_ck_e hf
        refine tx_iald S hE hw 36 rfl h_17 dX12_skills_65 ?_
        refine lv_if_ge (tgt := 85) hx hb dX12_skills_66 (by decide) (fun h_18 => ?_) (fun h_18 => ?_)
        · replace hf := tx_pos hf h_18
          exact J85 hK45 hf hw (lv_sub hl [0, 1, 2] rfl)
        · replace hf := tx_neg hf h_18
          refine lv_aload_n hx hb dX12_skills_69 rfl (lv_at hl 0 rfl) ?_
          refine gf_X12_127 S hE hw 0 rfl rfl dX12_skills_70 ?_
          refine lv_aload_n hx hb dX12_skills_73 rfl (lv_at hl 0 rfl) ?_
          refine gf_X12_124 S hE hw 0 rfl rfl dX12_skills_74 ?_
          refine lv_iconst (v := 3) hx hb dX12_skills_77 (by decide) ?_
          refine lv_iload_n hx hb dX12_skills_78 rfl (lv_at hl 2 rfl) ?_
          refine lv_imul hx hb dX12_skills_79 ?_
          refine lv_iconst (v := 1) hx hb dX12_skills_80 (by decide) ?_
          refine lv_iadd hx hb dX12_skills_81 ?_
          obtain ⟨h_19, hf⟩ := tx_ck_e hf
          refine tx_iald S hE hw 36 rfl h_19 dX12_skills_82 ?_
          refine lv_iconst (v := 0) hx hb dX12_skills_83 (by decide) ?_
          obtain ⟨h_20, hf⟩ := tx_ck_e hf
          obtain ⟨u_T_21, eu_T_21⟩ : ∃ z : S32, z = up2 u_T 75 (u_T 74 (((3 : Int32) * w2) + (1 : Int32)).toNatClampNeg).toNatClampNeg ((0 : Int32) &&& 1) := ⟨_, rfl⟩
          replace hf := tx_let_e hf eu_T_21
          refine tx_zast (ws' := cl_X12 g a_T u_T_21 v_T ++ X) S hE hw 37 rfl h_20 (by rw [eu_T_21]; rfl) dX12_skills_84 (fun H locs hw => ?_)
          exact J85 hK45 hf hw (lv_sub hl [0, 1, 2] rfl)
  have L45 : ∀ (n : Nat), ∀ {u_T : S32} {v_T : S64} {w1 : Int32} {w2 : Int32} {H : Heap} {locs : List Loc} {ls : Array Slot}, f_X12_skills_L45 fu n u_T v_T w1 w2 = some (r, zu_T, zv_T) → WD g A s.heap (cl_X12 g a_T u_T v_T ++ X) H locs → lv_has ls 4 [(0, .ref (a_T 0)), (1, .int w1), (2, .int w2)] → W p l e (rmH 9) s m (List.toArray [.ref (a_T 0), .int x1]) below meth c H locs 0 0 (MQ below (va_Qi (fun r2 (_ : Unit) => r2 = r) (fun _ t => POST g A (cl_X12 g a_T zu_T zv_T ++ X) t) A) (List.toArray [.ref (a_T 0), .int x1]) s 0 0 A) (F0 m 45 ls []) := by
    intro  n
    induction n with
    | zero => intro u_T v_T w1 w2 H locs ls hf; exact absurd hf (by intro q; cases q)
    | succ n ih => exact fun hf hw hl => J45 ih hf hw hl
  have J17 : ∀ {K17 : S32 → S64 → Int32 → Int32 → Option (Int32 × S32 × S64)} (hK17 : ∀ {u_T : S32} {v_T : S64} {w1 : Int32} {w2 : Int32} {H : Heap} {locs : List Loc} {ls : Array Slot}, K17 u_T v_T w1 w2 = some (r, zu_T, zv_T) → WD g A s.heap (cl_X12 g a_T u_T v_T ++ X) H locs → lv_has ls 4 [(0, .ref (a_T 0)), (1, .int w1), (2, .int w2)] → W p l e (rmH 9) s m (List.toArray [.ref (a_T 0), .int x1]) below meth c H locs 0 0 (MQ below (va_Qi (fun r2 (_ : Unit) => r2 = r) (fun _ t => POST g A (cl_X12 g a_T zu_T zv_T ++ X) t) A) (List.toArray [.ref (a_T 0), .int x1]) s 0 0 A) (F0 m 17 ls [])), ∀ {u_T : S32} {v_T : S64} {w1 : Int32} {w2 : Int32} {H : Heap} {locs : List Loc} {ls : Array Slot}, f_X12_skills_J17 fu K17 u_T v_T w1 w2 = some (r, zu_T, zv_T) → WD g A s.heap (cl_X12 g a_T u_T v_T ++ X) H locs → lv_has ls 4 [(0, .ref (a_T 0)), (1, .int w1), (2, .int w2)] → W p l e (rmH 9) s m (List.toArray [.ref (a_T 0), .int x1]) below meth c H locs 0 0 (MQ below (va_Qi (fun r2 (_ : Unit) => r2 = r) (fun _ t => POST g A (cl_X12 g a_T zu_T zv_T ++ X) t) A) (List.toArray [.ref (a_T 0), .int x1]) s 0 0 A) (F0 m 17 ls []) := by
    intro K17 hK17 u_T v_T w1 w2 H locs ls hf hw hl
    unfold f_X12_skills_J17 at hf
    refine lv_iload_n hx hb dX12_skills_17 rfl (lv_at hl 2 rfl) ?_
    refine lv_aload_n hx hb dX12_skills_18 rfl (lv_at hl 0 rfl) ?_
    obtain ⟨r_6, h_5, hf⟩ := tx_b1_e hf
    refine tx_ci hw (tx_runV S hE hw (c_X12_knownBy h_5) lk_X12_507 (q0 := 0) rfl rfl rfl hl.1 (rest := [.int w2]) rfl (Nat.le_of_ble_eq_true rfl) ⟨by decide, by decide⟩ dX12_skills_19 ⟨Nat.zero_le _, Nat.zero_le _⟩) (fun H locs hw => ?_)
    refine lv_icmp_ge (tgt := 38) hx hb dX12_skills_22 (by decide) (fun h_7 => ?_) (fun h_7 => ?_)
    · replace hf := tx_pos hf h_7
      refine lv_aload_n hx hb dX12_skills_38 rfl (lv_at hl 0 rfl) ?_
      obtain ⟨r_9, h_8, hf⟩ := tx_b1_e hf
      refine tx_ci hw (tx_runV S hE hw (c_X12_knownBy h_8) lk_X12_507 (q0 := 0) rfl rfl rfl hl.1 (rest := []) rfl (Nat.le_of_ble_eq_true rfl) ⟨by decide, by decide⟩ dX12_skills_39 ⟨Nat.zero_le _, Nat.zero_le _⟩) (fun H locs hw => ?_)
      refine lv_iconst (v := 1) hx hb dX12_skills_42 (by decide) ?_
      refine lv_isub hx hb dX12_skills_43 ?_
      refine lv_topi (fun y_10 ey_10 => ?_)
      replace hf := tx_let_e hf ey_10
      refine lv_istore_n (lv' := [(2, .int y_10), (0, .ref (a_T 0)), (1, .int w1)]) hx hb dX12_skills_44 rfl hl (by decide) rfl (fun ls hl => ?_)
      exact L45 fu hf hw (lv_sub hl [1, 2, 0] rfl)
    · replace hf := tx_neg hf h_7
      refine lv_aload_n hx hb dX12_skills_25 rfl (lv_at hl 0 rfl) ?_
      refine gf_X12_127 S hE hw 0 rfl rfl dX12_skills_26 ?_
      refine lv_iload_n hx hb dX12_skills_29 rfl (lv_at hl 2 rfl) ?_
      refine lv_iconst (v := 1) hx hb dX12_skills_30 (by decide) ?_
      obtain ⟨h_11, hf⟩ := tx_ck_e hf
      obtain ⟨u_T_12, eu_T_12⟩ : ∃ z : S32, z = up2 u_T 75 w2.toNatClampNeg ((1 : Int32) &&& 1) := ⟨_, rfl⟩
      replace hf := tx_let_e hf eu_T_12
      refine tx_zast (ws' := cl_X12 g a_T u_T_12 v_T ++ X) S hE hw 37 rfl h_11 (by rw [eu_T_12]; rfl) dX12_skills_31 (fun H locs hw => ?_)
      obtain ⟨y_13, ey_13⟩ : ∃ y : Int32, y = w2 + (1 : Int32) := ⟨_, rfl⟩
      replace hf := tx_let_e hf ey_13
      refine lv_iinc (v := y_13) (lv' := [(2, .int y_13), (0, .ref (a_T 0)), (1, .int w1)]) hx hb dX12_skills_32 hl (k := 2) rfl (by rw [ey_13]; rfl) (by decide) rfl (fun ls hl => ?_)
      refine lv_goto (tgt := 17) hx hb dX12_skills_35 (by decide) ?_
      exact hK17 hf hw (lv_sub hl [1, 2, 0] rfl)
  have L17 : ∀ (n : Nat), ∀ {u_T : S32} {v_T : S64} {w1 : Int32} {w2 : Int32} {H : Heap} {locs : List Loc} {ls : Array Slot}, f_X12_skills_L17 fu n u_T v_T w1 w2 = some (r, zu_T, zv_T) → WD g A s.heap (cl_X12 g a_T u_T v_T ++ X) H locs → lv_has ls 4 [(0, .ref (a_T 0)), (1, .int w1), (2, .int w2)] → W p l e (rmH 9) s m (List.toArray [.ref (a_T 0), .int x1]) below meth c H locs 0 0 (MQ below (va_Qi (fun r2 (_ : Unit) => r2 = r) (fun _ t => POST g A (cl_X12 g a_T zu_T zv_T ++ X) t) A) (List.toArray [.ref (a_T 0), .int x1]) s 0 0 A) (F0 m 17 ls []) := by
    intro  n
    induction n with
    | zero => intro u_T v_T w1 w2 H locs ls hf; exact absurd hf (by intro q; cases q)
    | succ n ih => exact fun hf hw hl => J17 ih hf hw hl
  unfold f_X12_skills at hf
  refine lv_aload_n hx hb dX12_skills_0 rfl (lv_at hl 0 rfl) ?_
  refine lv_iconst (v := 0) hx hb dX12_skills_1 (by decide) ?_
  obtain ⟨u_T_1, eu_T_1⟩ : ∃ z : S32, z = up2 u_T 0 2 (0 : Int32) := ⟨_, rfl⟩
  replace hf := tx_let_e hf eu_T_1
  refine pf_X12_145 (ws' := cl_X12 g a_T u_T_1 v_T ++ X) S hE hw rfl rfl 0 rfl (Nat.le_of_ble_eq_true rfl) (by rw [eu_T_1]; rfl) dX12_skills_2 (fun H locs hw => ?_)
  refine lv_aload_n hx hb dX12_skills_5 rfl (lv_at hl 0 rfl) ?_
  refine lv_iload_n hx hb dX12_skills_6 rfl (lv_at hl 1 rfl) ?_
  obtain ⟨r_3, h_2, hf⟩ := tx_b1_e hf
  refine tx_ci hw (tx_runV S hE hw (c_X12_isReader h_2) lk_X12_463 (q0 := 0) rfl rfl rfl hl.1 (rest := []) rfl (Nat.le_of_ble_eq_true rfl) ⟨by decide, by decide⟩ dX12_skills_7 ⟨Nat.zero_le _, Nat.zero_le _⟩) (fun H locs hw => ?_)
  refine lv_if_ne (tgt := 15) hx hb dX12_skills_10 (by decide) (fun h_4 => ?_) (fun h_4 => ?_)
  · replace hf := tx_neg hf h_4
    refine lv_iconst (v := 0) hx hb dX12_skills_15 (by decide) ?_
    refine lv_istore_n (lv' := [(2, .int (0 : Int32)), (0, .ref (a_T 0)), (1, .int x1)]) hx hb dX12_skills_16 rfl hl (by decide) rfl (fun ls hl => ?_)
    exact L17 fu hf hw (lv_sub hl [1, 2, 0] rfl)
  · replace hf := tx_pos hf h_4
    refine lv_iconst (v := -1) hx hb dX12_skills_13 (by decide) ?_
    obtain ⟨e0, e1, e2⟩ := tx_in3 hf
    rw [← e0, ← e1, ← e2]
    exact tx_iret S hr hlk hw dX12_skills_14
