def f_X12_powerOf_J4 (fu : Nat) (K4 : Int32 → Int32 → Int32 → Int32 → Option (Int32)) (w0 : Int32) (w1 : Int32) (w2 : Int32) (w3 : Int32) : Option (Int32) := if w1 ≤ w3 then (some w2) else (tx_let (w2 * w0) fun (y_2 : Int32) => tx_let (w3 + (1 : Int32)) fun (y_3 : Int32) => K4 w0 w1 y_2 y_3)
def f_X12_powerOf_L4 (fu : Nat) : Nat → Int32 → Int32 → Int32 → Int32 → Option (Int32)
  | 0 => fun _ _ _ _ => none
  | n + 1 => f_X12_powerOf_J4 fu (f_X12_powerOf_L4 fu n)
def f_X12_powerOf (fu : Nat) (x0 : Int32) (x1 : Int32) : Option (Int32) := f_X12_powerOf_L4 fu fu x0 x1 (1 : Int32) (0 : Int32)
set_option maxHeartbeats 4000000 in
set_option maxRecDepth 100000 in
theorem c_X12_powerOf {l : Launch} {g : GG} {A : Nat → Prop} {X : va_W} {fu : Nat} {x0 : Int32} {x1 : Int32} {r : Int32} (hf : f_X12_powerOf fu  x0 x1 = some r) : MI l yX12_powerOf cX12_powerOf 4 (some .int) 0 g A (X) [.int x0, .int x1] r (X) := by
  refine tx_start (av := [.int x0, .int x1]) (by decide) (Nat.le_of_ble_eq_true rfl) ?_
  intro p e s m below meth c ls S hr hlk hE hw hl
  have S : CallFix p m c cX12_powerOf 4 s (List.toArray [.int x0, .int x1]) (Cond.code yX12_powerOf cX12_powerOf 4 (some .int) :: allW) RX12 := S
  have hx := S.1
  have hb := S.2.1
  have hown := S.2.2.2.1
  have hts : ∀ w ∈ allW, w.before (List.toArray [.int x0, .int x1]) s = true := fun w h => S.2.2.2.2 w (List.mem_cons_of_mem _ h)
  have hl : lv_has ls 4 [(0, .int x0), (1, .int x1)] := hl
  have J4 : ∀ {K4 : Int32 → Int32 → Int32 → Int32 → Option (Int32)} (hK4 : ∀ {w0 : Int32} {w1 : Int32} {w2 : Int32} {w3 : Int32} {H : Heap} {locs : List Loc} {ls : Array Slot}, K4 w0 w1 w2 w3 = some r → WD g A s.heap (X) H locs → lv_has ls 4 [(0, .int w0), (1, .int w1), (2, .int w2), (3, .int w3)] → W p l e (rmH 0) s m (List.toArray [.int x0, .int x1]) below meth c H locs 0 0 (MQ below (va_Qi (fun r2 (_ : Unit) => r2 = r) (fun _ t => POST g A (X) t) A) (List.toArray [.int x0, .int x1]) s 0 0 A) (F0 m 4 ls [])), ∀ {w0 : Int32} {w1 : Int32} {w2 : Int32} {w3 : Int32} {H : Heap} {locs : List Loc} {ls : Array Slot}, f_X12_powerOf_J4 fu K4 w0 w1 w2 w3 = some r → WD g A s.heap (X) H locs → lv_has ls 4 [(0, .int w0), (1, .int w1), (2, .int w2), (3, .int w3)] → W p l e (rmH 0) s m (List.toArray [.int x0, .int x1]) below meth c H locs 0 0 (MQ below (va_Qi (fun r2 (_ : Unit) => r2 = r) (fun _ t => POST g A (X) t) A) (List.toArray [.int x0, .int x1]) s 0 0 A) (F0 m 4 ls []) := by
    intro K4 hK4 w0 w1 w2 w3 H locs ls hf hw hl
    unfold f_X12_powerOf_J4 at hf
    refine lv_iload_n hx hb dX12_powerOf_4 rfl (lv_at hl 3 rfl) ?_
    refine lv_iload_n hx hb dX12_powerOf_5 rfl (lv_at hl 1 rfl) ?_
    refine lv_icmp_ge (tgt := 19) hx hb dX12_powerOf_6 (by decide) (fun h_1 => ?_) (fun h_1 => ?_)
    · replace hf := tx_pos hf h_1
      refine lv_iload_n hx hb dX12_powerOf_19 rfl (lv_at hl 2 rfl) ?_
      obtain e0 := tx_in1 hf
      rw [← e0]
      exact tx_iret S hr hlk hw dX12_powerOf_20
    · replace hf := tx_neg hf h_1
      refine lv_iload_n hx hb dX12_powerOf_9 rfl (lv_at hl 2 rfl) ?_
      refine lv_iload_n hx hb dX12_powerOf_10 rfl (lv_at hl 0 rfl) ?_
      refine lv_imul hx hb dX12_powerOf_11 ?_
      refine lv_topi (fun y_2 ey_2 => ?_)
      replace hf := tx_let_e hf ey_2
      refine lv_istore_n (lv' := [(2, .int y_2), (0, .int w0), (1, .int w1), (3, .int w3)]) hx hb dX12_powerOf_12 rfl hl (by decide) rfl (fun ls hl => ?_)
      obtain ⟨y_3, ey_3⟩ : ∃ y : Int32, y = w3 + (1 : Int32) := ⟨_, rfl⟩
      replace hf := tx_let_e hf ey_3
      refine lv_iinc (v := y_3) (lv' := [(3, .int y_3), (2, .int y_2), (0, .int w0), (1, .int w1)]) hx hb dX12_powerOf_13 hl (k := 3) rfl (by rw [ey_3]; rfl) (by decide) rfl (fun ls hl => ?_)
      refine lv_goto (tgt := 4) hx hb dX12_powerOf_16 (by decide) ?_
      exact hK4 hf hw (lv_sub hl [2, 3, 1, 0] rfl)
  have L4 : ∀ (n : Nat), ∀ {w0 : Int32} {w1 : Int32} {w2 : Int32} {w3 : Int32} {H : Heap} {locs : List Loc} {ls : Array Slot}, f_X12_powerOf_L4 fu n w0 w1 w2 w3 = some r → WD g A s.heap (X) H locs → lv_has ls 4 [(0, .int w0), (1, .int w1), (2, .int w2), (3, .int w3)] → W p l e (rmH 0) s m (List.toArray [.int x0, .int x1]) below meth c H locs 0 0 (MQ below (va_Qi (fun r2 (_ : Unit) => r2 = r) (fun _ t => POST g A (X) t) A) (List.toArray [.int x0, .int x1]) s 0 0 A) (F0 m 4 ls []) := by
    intro  n
    induction n with
    | zero => intro w0 w1 w2 w3 H locs ls hf; exact absurd hf (by intro q; cases q)
    | succ n ih => exact fun hf hw hl => J4 ih hf hw hl
  unfold f_X12_powerOf at hf
  refine lv_iconst (v := 1) hx hb dX12_powerOf_0 (by decide) ?_
  refine lv_istore_n (lv' := [(2, .int (1 : Int32)), (0, .int x0), (1, .int x1)]) hx hb dX12_powerOf_1 rfl hl (by decide) rfl (fun ls hl => ?_)
  refine lv_iconst (v := 0) hx hb dX12_powerOf_2 (by decide) ?_
  refine lv_istore_n (lv' := [(3, .int (0 : Int32)), (2, .int (1 : Int32)), (0, .int x0), (1, .int x1)]) hx hb dX12_powerOf_3 rfl hl (by decide) rfl (fun ls hl => ?_)
  exact L4 fu hf hw (lv_sub hl [2, 3, 1, 0] rfl)
def f_X12_bestRound_J161 (fu : Nat) (K61 : S32 → S64 → Int32 → Int32 → Int32 → Int32 → Int32 → Option (Int32 × S32 × S64)) (u_T : S32) (v_T : S64) (w1 : Int32) (w2 : Int32) (w3 : Int32) (w4 : Int32) (w5 : Int32) : Option (Int32 × S32 × S64) := tx_let (w5 + (1 : Int32)) fun (y_37 : Int32) => K61 u_T v_T w1 w2 w3 w4 y_37
def f_X12_bestRound_J154 (fu : Nat) (K61 : S32 → S64 → Int32 → Int32 → Int32 → Int32 → Int32 → Option (Int32 × S32 × S64)) (u_T : S32) (v_T : S64) (w1 : Int32) (w2 : Int32) (w5 : Int32) (w6 : Int32) : Option (Int32 × S32 × S64) := f_X12_bestRound_J161 fu K61 u_T v_T w1 w2 w5 w6 w5
def f_X12_bestRound_J81 (fu : Nat) (K61 : S32 → S64 → Int32 → Int32 → Int32 → Int32 → Int32 → Option (Int32 × S32 × S64)) (K81 : S32 → S64 → Int32 → Int32 → Int32 → Int32 → Int32 → Int32 → Option (Int32 × S32 × S64)) (u_T : S32) (v_T : S64) (w1 : Int32) (w2 : Int32) (w3 : Int32) (w4 : Int32) (w5 : Int32) (w6 : Int32) : Option (Int32 × S32 × S64) := if w2 ≤ w6 then (tx_let (up2 u_T 0 65 (1 : Int32)) fun (u_T_22 : S32) => tx_b2 (f_X12_weekGoes fu u_T_22 v_T (1 : Int32)) fun (u_T_24 : S32) (v_T_25 : S64) => tx_b1 (f_X12_more fu u_T_24 v_T_25) fun (r_27 : Int32) => if w3 < (0 : Int32) then (f_X12_bestRound_J154 fu K61 u_T_24 v_T_25 w1 w2 w5 r_27) else (if w4 < r_27 then (f_X12_bestRound_J154 fu K61 u_T_24 v_T_25 w1 w2 w5 r_27) else (f_X12_bestRound_J161 fu K61 u_T_24 v_T_25 w1 w2 w3 w4 w5))) else (tx_b1 (f_X12_powerOf fu (u_T 0 14) ((w2 - (1 : Int32)) - w6)) fun (r_31 : Int32) => tx_nz r_31 <| tx_nz (u_T 0 14) <| tx_ck ((6 : Int32) + w6) 12 <| tx_let (up2 u_T 57 ((6 : Int32) + w6).toNatClampNeg ((w5 / r_31) - (w5 / r_31) / (u_T 0 14) * (u_T 0 14))) fun (u_T_35 : S32) => tx_let (w6 + (1 : Int32)) fun (y_36 : Int32) => K81 u_T_35 v_T w1 w2 w3 w4 w5 y_36)
def f_X12_bestRound_L81 (fu : Nat) (K61 : S32 → S64 → Int32 → Int32 → Int32 → Int32 → Int32 → Option (Int32 × S32 × S64)) : Nat → S32 → S64 → Int32 → Int32 → Int32 → Int32 → Int32 → Int32 → Option (Int32 × S32 × S64)
  | 0 => fun _ _ _ _ _ _ _ _ => none
  | n + 1 => f_X12_bestRound_J81 fu K61 (f_X12_bestRound_L81 fu K61 n)
def f_X12_bestRound_J61 (fu : Nat) (K61 : S32 → S64 → Int32 → Int32 → Int32 → Int32 → Int32 → Option (Int32 × S32 × S64)) (u_T : S32) (v_T : S64) (w1 : Int32) (w2 : Int32) (w3 : Int32) (w4 : Int32) (w5 : Int32) : Option (Int32 × S32 × S64) := tx_b1 (f_X12_powerOf fu (u_T 0 14) w2) fun (r_10 : Int32) => if r_10 ≤ w5 then (tx_b1 (f_X12_plainTried fu v_T u_T) fun (u_T_13 : S32) => if w1 = (4 : Int32) then (some (w4, u_T_13, v_T)) else (tx_b1 (f_X12_powerOf fu (u_T_13 0 14) ((w2 - (1 : Int32)) - w1)) fun (r_16 : Int32) => tx_nz r_16 <| tx_nz (u_T_13 0 14) <| some ((w3 / r_16) - (w3 / r_16) / (u_T_13 0 14) * (u_T_13 0 14), u_T_13, v_T))) else (tx_b1 (f_X12_layTried fu v_T u_T) fun (u_T_20 : S32) => f_X12_bestRound_L81 fu K61 fu u_T_20 v_T w1 w2 w3 w4 w5 (0 : Int32))
def f_X12_bestRound_L61 (fu : Nat) : Nat → S32 → S64 → Int32 → Int32 → Int32 → Int32 → Int32 → Option (Int32 × S32 × S64)
  | 0 => fun _ _ _ _ _ _ _ => none
  | n + 1 => f_X12_bestRound_J61 fu (f_X12_bestRound_L61 fu n)
def f_X12_bestRound_J53 (fu : Nat) (u_T : S32) (v_T : S64) (w1 : Int32) (w2 : Int32) : Option (Int32 × S32 × S64) := f_X12_bestRound_L61 fu fu u_T v_T w1 w2 (-1 : Int32) (0 : Int32) (0 : Int32)
def f_X12_bestRound_J39 (fu : Nat) (u_T : S32) (v_T : S64) (w1 : Int32) (t0 : Int32) : Option (Int32 × S32 × S64) := if (4 : Int32) ≤ w1 then (f_X12_bestRound_J53 fu u_T v_T w1 t0) else (if w1 < t0 then (f_X12_bestRound_J53 fu u_T v_T w1 t0) else (some ((-2 : Int32), u_T, v_T)))
def f_X12_bestRound (fu : Nat) (u_T : S32) (v_T : S64) (x1 : Int32) : Option (Int32 × S32 × S64) := tx_let (up2 u_T 0 2 (0 : Int32)) fun (u_T_1 : S32) => tx_b1 (f_X12_isIn fu x1 (0 : Int32) (4 : Int32)) fun (r_3 : Int32) => if r_3 = (0 : Int32) then (some ((-1 : Int32), u_T_1, v_T)) else (if (u_T_1 0 14) = (0 : Int32) then (some ((-1 : Int32), u_T_1, v_T)) else (if (4 : Int32) ≤ (u_T_1 0 12) then (f_X12_bestRound_J39 fu u_T_1 v_T x1 (4 : Int32)) else (f_X12_bestRound_J39 fu u_T_1 v_T x1 (u_T_1 0 12))))
set_option maxHeartbeats 4000000 in
set_option maxRecDepth 100000 in
theorem c_X12_bestRound {l : Launch} {g : GG} {A : Nat → Prop} {X : va_W} {fu : Nat} {a_T : Nat → Nat} {u_T : S32} {v_T : S64} {x1 : Int32} {r : Int32} {zu_T : S32} {zv_T : S64} (hf : f_X12_bestRound fu  u_T v_T x1 = some (r, zu_T, zv_T)) : MI l yX12_bestRound cX12_bestRound 7 (some .int) 8 g A (cl_X12 g a_T u_T v_T ++ X) [.ref (a_T 0), .int x1] r (cl_X12 g a_T zu_T zv_T ++ X) := by
  refine tx_start (av := [.ref (a_T 0), .int x1]) (by decide) (Nat.le_of_ble_eq_true rfl) ?_
  intro p e s m below meth c ls S hr hlk hE hw hl
  have S : CallFix p m c cX12_bestRound 7 s (List.toArray [.ref (a_T 0), .int x1]) (Cond.code yX12_bestRound cX12_bestRound 7 (some .int) :: allW) RX12 := S
  have hx := S.1
  have hb := S.2.1
  have hown := S.2.2.2.1
  have hts : ∀ w ∈ allW, w.before (List.toArray [.ref (a_T 0), .int x1]) s = true := fun w h => S.2.2.2.2 w (List.mem_cons_of_mem _ h)
  have hl : lv_has ls 7 [(0, .ref (a_T 0)), (1, .int x1)] := hl
  have J161 : ∀ {K61 : S32 → S64 → Int32 → Int32 → Int32 → Int32 → Int32 → Option (Int32 × S32 × S64)} (hK61 : ∀ {u_T : S32} {v_T : S64} {w1 : Int32} {w2 : Int32} {w3 : Int32} {w4 : Int32} {w5 : Int32} {H : Heap} {locs : List Loc} {ls : Array Slot}, K61 u_T v_T w1 w2 w3 w4 w5 = some (r, zu_T, zv_T) → WD g A s.heap (cl_X12 g a_T u_T v_T ++ X) H locs → lv_has ls 7 [(0, .ref (a_T 0)), (1, .int w1), (2, .int w2), (3, .int w3), (4, .int w4), (5, .int w5)] → W p l e (rmH 8) s m (List.toArray [.ref (a_T 0), .int x1]) below meth c H locs 0 0 (MQ below (va_Qi (fun r2 (_ : Unit) => r2 = r) (fun _ t => POST g A (cl_X12 g a_T zu_T zv_T ++ X) t) A) (List.toArray [.ref (a_T 0), .int x1]) s 0 0 A) (F0 m 61 ls [])), ∀ {u_T : S32} {v_T : S64} {w1 : Int32} {w2 : Int32} {w3 : Int32} {w4 : Int32} {w5 : Int32} {H : Heap} {locs : List Loc} {ls : Array Slot}, f_X12_bestRound_J161 fu K61 u_T v_T w1 w2 w3 w4 w5 = some (r, zu_T, zv_T) → WD g A s.heap (cl_X12 g a_T u_T v_T ++ X) H locs → lv_has ls 7 [(0, .ref (a_T 0)), (1, .int w1), (2, .int w2), (3, .int w3), (4, .int w4), (5, .int w5)] → W p l e (rmH 8) s m (List.toArray [.ref (a_T 0), .int x1]) below meth c H locs 0 0 (MQ below (va_Qi (fun r2 (_ : Unit) => r2 = r) (fun _ t => POST g A (cl_X12 g a_T zu_T zv_T ++ X) t) A) (List.toArray [.ref (a_T 0), .int x1]) s 0 0 A) (F0 m 161 ls []) := by
    intro K61 hK61 u_T v_T w1 w2 w3 w4 w5 H locs ls hf hw hl
    unfold f_X12_bestRound_J161 at hf
    obtain ⟨y_37, ey_37⟩ : ∃ y : Int32, y = w5 + (1 : Int32) := ⟨_, rfl⟩
    replace hf := tx_let_e hf ey_37
    refine lv_iinc (v := y_37) (lv' := [(5, .int y_37), (0, .ref (a_T 0)), (1, .int w1), (2, .int w2), (3, .int w3), (4, .int w4)]) hx hb dX12_bestRound_161 hl (k := 5) rfl (by rw [ey_37]; rfl) (by decide) rfl (fun ls hl => ?_)
    refine lv_goto (tgt := 61) hx hb dX12_bestRound_164 (by decide) ?_
    exact hK61 hf hw (lv_sub hl [1, 2, 3, 4, 5, 0] rfl)
  have J154 : ∀ {K61 : S32 → S64 → Int32 → Int32 → Int32 → Int32 → Int32 → Option (Int32 × S32 × S64)} (hK61 : ∀ {u_T : S32} {v_T : S64} {w1 : Int32} {w2 : Int32} {w3 : Int32} {w4 : Int32} {w5 : Int32} {H : Heap} {locs : List Loc} {ls : Array Slot}, K61 u_T v_T w1 w2 w3 w4 w5 = some (r, zu_T, zv_T) → WD g A s.heap (cl_X12 g a_T u_T v_T ++ X) H locs → lv_has ls 7 [(0, .ref (a_T 0)), (1, .int w1), (2, .int w2), (3, .int w3), (4, .int w4), (5, .int w5)] → W p l e (rmH 8) s m (List.toArray [.ref (a_T 0), .int x1]) below meth c H locs 0 0 (MQ below (va_Qi (fun r2 (_ : Unit) => r2 = r) (fun _ t => POST g A (cl_X12 g a_T zu_T zv_T ++ X) t) A) (List.toArray [.ref (a_T 0), .int x1]) s 0 0 A) (F0 m 61 ls [])), ∀ {u_T : S32} {v_T : S64} {w1 : Int32} {w2 : Int32} {w5 : Int32} {w6 : Int32} {H : Heap} {locs : List Loc} {ls : Array Slot}, f_X12_bestRound_J154 fu K61 u_T v_T w1 w2 w5 w6 = some (r, zu_T, zv_T) → WD g A s.heap (cl_X12 g a_T u_T v_T ++ X) H locs → lv_has ls 7 [(0, .ref (a_T 0)), (1, .int w1), (2, .int w2), (5, .int w5), (6, .int w6)] → W p l e (rmH 8) s m (List.toArray [.ref (a_T 0), .int x1]) below meth c H locs 0 0 (MQ below (va_Qi (fun r2 (_ : Unit) => r2 = r) (fun _ t => POST g A (cl_X12 g a_T zu_T zv_T ++ X) t) A) (List.toArray [.ref (a_T 0), .int x1]) s 0 0 A) (F0 m 154 ls []) := by
    intro K61 hK61 u_T v_T w1 w2 w5 w6 H locs ls hf hw hl
    unfold f_X12_bestRound_J154 at hf
    refine lv_iload hx hb dX12_bestRound_154 (lv_at hl 3 rfl) ?_
    refine lv_istore_n (lv' := [(3, .int w5), (0, .ref (a_T 0)), (1, .int w1), (2, .int w2), (5, .int w5), (6, .int w6)]) hx hb dX12_bestRound_156 rfl hl (by decide) rfl (fun ls hl => ?_)
    refine lv_iload hx hb dX12_bestRound_157 (lv_at hl 5 rfl) ?_
    refine lv_istore (lv' := [(4, .int w6), (3, .int w5), (0, .ref (a_T 0)), (1, .int w1), (2, .int w2), (5, .int w5), (6, .int w6)]) hx hb dX12_bestRound_159 hl (by decide) rfl (fun ls hl => ?_)
    exact J161 hK61 hf hw (lv_sub hl [2, 3, 4, 1, 0, 5] rfl)
  have J81 : ∀ {K61 : S32 → S64 → Int32 → Int32 → Int32 → Int32 → Int32 → Option (Int32 × S32 × S64)} (hK61 : ∀ {u_T : S32} {v_T : S64} {w1 : Int32} {w2 : Int32} {w3 : Int32} {w4 : Int32} {w5 : Int32} {H : Heap} {locs : List Loc} {ls : Array Slot}, K61 u_T v_T w1 w2 w3 w4 w5 = some (r, zu_T, zv_T) → WD g A s.heap (cl_X12 g a_T u_T v_T ++ X) H locs → lv_has ls 7 [(0, .ref (a_T 0)), (1, .int w1), (2, .int w2), (3, .int w3), (4, .int w4), (5, .int w5)] → W p l e (rmH 8) s m (List.toArray [.ref (a_T 0), .int x1]) below meth c H locs 0 0 (MQ below (va_Qi (fun r2 (_ : Unit) => r2 = r) (fun _ t => POST g A (cl_X12 g a_T zu_T zv_T ++ X) t) A) (List.toArray [.ref (a_T 0), .int x1]) s 0 0 A) (F0 m 61 ls [])) {K81 : S32 → S64 → Int32 → Int32 → Int32 → Int32 → Int32 → Int32 → Option (Int32 × S32 × S64)} (hK81 : ∀ {u_T : S32} {v_T : S64} {w1 : Int32} {w2 : Int32} {w3 : Int32} {w4 : Int32} {w5 : Int32} {w6 : Int32} {H : Heap} {locs : List Loc} {ls : Array Slot}, K81 u_T v_T w1 w2 w3 w4 w5 w6 = some (r, zu_T, zv_T) → WD g A s.heap (cl_X12 g a_T u_T v_T ++ X) H locs → lv_has ls 7 [(0, .ref (a_T 0)), (1, .int w1), (2, .int w2), (3, .int w3), (4, .int w4), (5, .int w5), (6, .int w6)] → W p l e (rmH 8) s m (List.toArray [.ref (a_T 0), .int x1]) below meth c H locs 0 0 (MQ below (va_Qi (fun r2 (_ : Unit) => r2 = r) (fun _ t => POST g A (cl_X12 g a_T zu_T zv_T ++ X) t) A) (List.toArray [.ref (a_T 0), .int x1]) s 0 0 A) (F0 m 81 ls [])), ∀ {u_T : S32} {v_T : S64} {w1 : Int32} {w2 : Int32} {w3 : Int32} {w4 : Int32} {w5 : Int32} {w6 : Int32} {H : Heap} {locs : List Loc} {ls : Array Slot}, f_X12_bestRound_J81 fu K61 K81 u_T v_T w1 w2 w3 w4 w5 w6 = some (r, zu_T, zv_T) → WD g A s.heap (cl_X12 g a_T u_T v_T ++ X) H locs → lv_has ls 7 [(0, .ref (a_T 0)), (1, .int w1), (2, .int w2), (3, .int w3), (4, .int w4), (5, .int w5), (6, .int w6)] → W p l e (rmH 8) s m (List.toArray [.ref (a_T 0), .int x1]) below meth c H locs 0 0 (MQ below (va_Qi (fun r2 (_ : Unit) => r2 = r) (fun _ t => POST g A (cl_X12 g a_T zu_T zv_T ++ X) t) A) (List.toArray [.ref (a_T 0), .int x1]) s 0 0 A) (F0 m 81 ls []) := by
    intro K61 hK61 K81 hK81 u_T v_T w1 w2 w3 w4 w5 w6 H locs ls hf hw hl
    unfold f_X12_bestRound_J81 at hf
    refine lv_iload hx hb dX12_bestRound_81 (lv_at hl 6 rfl) ?_
    refine lv_iload_n hx hb dX12_bestRound_83 rfl (lv_at hl 2 rfl) ?_
    refine lv_icmp_ge (tgt := 124) hx hb dX12_bestRound_84 (by decide) (fun h_21 => ?_) (fun h_21 => ?_)
    · replace hf := tx_pos hf h_21
      refine lv_aload_n hx hb dX12_bestRound_124 rfl (lv_at hl 0 rfl) ?_
      refine lv_iconst (v := 1) hx hb dX12_bestRound_125 (by decide) ?_
      obtain ⟨u_T_22, eu_T_22⟩ : ∃ z : S32, z = up2 u_T 0 65 (1 : Int32) := ⟨_, rfl⟩
      replace hf := tx_let_e hf eu_T_22
      refine pf_X12_368 (ws' := cl_X12 g a_T u_T_22 v_T ++ X) S hE hw (by decide) (by decide) 0 rfl (Nat.le_of_ble_eq_true rfl) (by rw [eu_T_22]; rfl) dX12_bestRound_126 (fun H locs hw => ?_)
      refine lv_aload_n hx hb dX12_bestRound_129 rfl (lv_at hl 0 rfl) ?_
      refine lv_iconst (v := 1) hx hb dX12_bestRound_130 (by decide) ?_
      obtain ⟨u_T_24, v_T_25, h_23, hf⟩ := tx_b2_e hf
      refine tx_cv hw (tx_runV S hE hw (c_X12_weekGoes h_23) lk_X12_445 (q0 := 0) rfl rfl rfl hl.1 (rest := []) rfl (Nat.le_of_ble_eq_true rfl) ⟨by decide, by decide⟩ dX12_bestRound_131 ⟨Nat.zero_le _, Nat.zero_le _⟩) (fun H locs hw => ?_)
      refine lv_aload_n hx hb dX12_bestRound_134 rfl (lv_at hl 0 rfl) ?_
      obtain ⟨r_27, h_26, hf⟩ := tx_b1_e hf
      refine tx_ci hw (tx_runV S hE hw (c_X12_more h_26) lk_X12_486 (q0 := 0) rfl rfl rfl hl.1 (rest := []) rfl (Nat.le_of_ble_eq_true rfl) ⟨by decide, by decide⟩ dX12_bestRound_135 ⟨Nat.zero_le _, Nat.zero_le _⟩) (fun H locs hw => ?_)
      refine lv_istore (lv' := [(6, .int r_27), (0, .ref (a_T 0)), (1, .int w1), (2, .int w2), (3, .int w3), (4, .int w4), (5, .int w5)]) hx hb dX12_bestRound_138 hl (by decide) rfl (fun ls hl => ?_)
      refine lv_iload_n hx hb dX12_bestRound_140 rfl (lv_at hl 4 rfl) ?_
      refine lv_if_lt (tgt := 154) hx hb dX12_bestRound_141 (by decide) (fun h_28 => ?_) (fun h_28 => ?_)
      · replace hf := tx_pos hf h_28
        exact J154 hK61 hf hw (lv_sub hl [1, 2, 3, 6, 0] rfl)
      · replace hf := tx_neg hf h_28
        refine lv_iload hx hb dX12_bestRound_144 (lv_at hl 0 rfl) ?_
        refine lv_iload hx hb dX12_bestRound_146 (lv_at hl 5 rfl) ?_
        refine lv_icmp_gt (tgt := 154) hx hb dX12_bestRound_148 (by decide) (fun h_29 => ?_) (fun h_29 => ?_)
        · replace hf := tx_pos hf h_29
          exact J154 hK61 hf hw (lv_sub hl [1, 2, 3, 6, 0] rfl)
        · replace hf := tx_neg hf h_29
          refine lv_goto (tgt := 161) hx hb dX12_bestRound_151 (by decide) ?_
          exact J161 hK61 hf hw (lv_sub hl [1, 2, 3, 4, 5, 6] rfl)
    · replace hf := tx_neg hf h_21
      refine lv_aload_n hx hb dX12_bestRound_87 rfl (lv_at hl 0 rfl) ?_
      refine gf_X12_109 S hE hw 0 rfl rfl dX12_bestRound_88 ?_
      refine lv_bipush (v := 6) hx hb dX12_bestRound_91 (by decide) ?_
      refine lv_iload hx hb dX12_bestRound_93 (lv_at hl 6 rfl) ?_
      refine lv_iadd hx hb dX12_bestRound_95 ?_
      refine lv_iload hx hb dX12_bestRound_96 (lv_at hl 5 rfl) ?_
      refine lv_aload_n hx hb dX12_bestRound_98 rfl (lv_at hl 0 rfl) ?_
      refine gf_X12_228 S hE hw 0 rfl rfl dX12_bestRound_99 ?_
      refine lv_iload_n hx hb dX12_bestRound_102 rfl (lv_at hl 2 rfl) ?_
      refine lv_iconst (v := 1) hx hb dX12_bestRound_103 (by decide) ?_
      refine lv_isub hx hb dX12_bestRound_104 ?_
      refine lv_iload hx hb dX12_bestRound_105 (lv_at hl 6 rfl) ?_
      refine lv_isub hx hb dX12_bestRound_107 ?_
      obtain ⟨r_31, h_30, hf⟩ := tx_b1_e hf
      refine tx_ci hw (tx_runS S hE hw (c_X12_powerOf h_30) lk_X12_483 rfl hl.1 (rest := [.int w5, .int ((6 : Int32) + w6), .ref (a_T 57)]) rfl (Nat.le_of_ble_eq_true rfl) ⟨by decide, by decide⟩ dX12_bestRound_108 ⟨Nat.zero_le _, Nat.zero_le _⟩) (fun H locs hw => ?_)
      obtain ⟨h_32, hf⟩ := tx_nz_e hf
      refine lv_idiv hx hb dX12_bestRound_111 h_32 ?_
      refine lv_aload_n hx hb dX12_bestRound_112 rfl (lv_at hl 0 rfl) ?_
      refine gf_X12_228 S hE hw 0 rfl rfl dX12_bestRound_113 ?_
      obtain ⟨h_33, hf⟩ := tx_nz_e hf
      refine lv_irem hx hb dX12_bestRound_116 h_33 ?_
      obtain ⟨h_34, hf⟩ := tx_ck_e hf
      obtain ⟨u_T_35, eu_T_35⟩ : ∃ z : S32, z = up2 u_T 57 ((6 : Int32) + w6).toNatClampNeg ((w5 / r_31) - (w5 / r_31) / (u_T 0 14) * (u_T 0 14)) := ⟨_, rfl⟩
      replace hf := tx_let_e hf eu_T_35
      refine tx_iast (ws' := cl_X12 g a_T u_T_35 v_T ++ X) S hE hw 32 rfl h_34 (by rw [eu_T_35]; rfl) dX12_bestRound_117 (fun H locs hw => ?_)
      obtain ⟨y_36, ey_36⟩ : ∃ y : Int32, y = w6 + (1 : Int32) := ⟨_, rfl⟩
      replace hf := tx_let_e hf ey_36
      refine lv_iinc (v := y_36) (lv' := [(6, .int y_36), (0, .ref (a_T 0)), (1, .int w1), (2, .int w2), (3, .int w3), (4, .int w4), (5, .int w5)]) hx hb dX12_bestRound_118 hl (k := 6) rfl (by rw [ey_36]; rfl) (by decide) rfl (fun ls hl => ?_)
      refine lv_goto (tgt := 81) hx hb dX12_bestRound_121 (by decide) ?_
      exact hK81 hf hw (lv_sub hl [1, 2, 3, 4, 5, 6, 0] rfl)
  have L81 : ∀ {K61 : S32 → S64 → Int32 → Int32 → Int32 → Int32 → Int32 → Option (Int32 × S32 × S64)} (hK61 : ∀ {u_T : S32} {v_T : S64} {w1 : Int32} {w2 : Int32} {w3 : Int32} {w4 : Int32} {w5 : Int32} {H : Heap} {locs : List Loc} {ls : Array Slot}, K61 u_T v_T w1 w2 w3 w4 w5 = some (r, zu_T, zv_T) → WD g A s.heap (cl_X12 g a_T u_T v_T ++ X) H locs → lv_has ls 7 [(0, .ref (a_T 0)), (1, .int w1), (2, .int w2), (3, .int w3), (4, .int w4), (5, .int w5)] → W p l e (rmH 8) s m (List.toArray [.ref (a_T 0), .int x1]) below meth c H locs 0 0 (MQ below (va_Qi (fun r2 (_ : Unit) => r2 = r) (fun _ t => POST g A (cl_X12 g a_T zu_T zv_T ++ X) t) A) (List.toArray [.ref (a_T 0), .int x1]) s 0 0 A) (F0 m 61 ls [])), ∀ (n : Nat), ∀ {u_T : S32} {v_T : S64} {w1 : Int32} {w2 : Int32} {w3 : Int32} {w4 : Int32} {w5 : Int32} {w6 : Int32} {H : Heap} {locs : List Loc} {ls : Array Slot}, f_X12_bestRound_L81 fu K61 n u_T v_T w1 w2 w3 w4 w5 w6 = some (r, zu_T, zv_T) → WD g A s.heap (cl_X12 g a_T u_T v_T ++ X) H locs → lv_has ls 7 [(0, .ref (a_T 0)), (1, .int w1), (2, .int w2), (3, .int w3), (4, .int w4), (5, .int w5), (6, .int w6)] → W p l e (rmH 8) s m (List.toArray [.ref (a_T 0), .int x1]) below meth c H locs 0 0 (MQ below (va_Qi (fun r2 (_ : Unit) => r2 = r) (fun _ t => POST g A (cl_X12 g a_T zu_T zv_T ++ X) t) A) (List.toArray [.ref (a_T 0), .int x1]) s 0 0 A) (F0 m 81 ls []) := by
    intro K61 hK61 n
    induction n with
    | zero => intro u_T v_T w1 w2 w3 w4 w5 w6 H locs ls hf; exact absurd hf (by intro q; cases q)
    | succ n ih => exact fun hf hw hl => J81 hK61 ih hf hw hl
  have J61 : ∀ {K61 : S32 → S64 → Int32 → Int32 → Int32 → Int32 → Int32 → Option (Int32 × S32 × S64)} (hK61 : ∀ {u_T : S32} {v_T : S64} {w1 : Int32} {w2 : Int32} {w3 : Int32} {w4 : Int32} {w5 : Int32} {H : Heap} {locs : List Loc} {ls : Array Slot}, K61 u_T v_T w1 w2 w3 w4 w5 = some (r, zu_T, zv_T) → WD g A s.heap (cl_X12 g a_T u_T v_T ++ X) H locs → lv_has ls 7 [(0, .ref (a_T 0)), (1, .int w1), (2, .int w2), (3, .int w3), (4, .int w4), (5, .int w5)] → W p l e (rmH 8) s m (List.toArray [.ref (a_T 0), .int x1]) below meth c H locs 0 0 (MQ below (va_Qi (fun r2 (_ : Unit) => r2 = r) (fun _ t => POST g A (cl_X12 g a_T zu_T zv_T ++ X) t) A) (List.toArray [.ref (a_T 0), .int x1]) s 0 0 A) (F0 m 61 ls [])), ∀ {u_T : S32} {v_T : S64} {w1 : Int32} {w2 : Int32} {w3 : Int32} {w4 : Int32} {w5 : Int32} {H : Heap} {locs : List Loc} {ls : Array Slot}, f_X12_bestRound_J61 fu K61 u_T v_T w1 w2 w3 w4 w5 = some (r, zu_T, zv_T) → WD g A s.heap (cl_X12 g a_T u_T v_T ++ X) H locs → lv_has ls 7 [(0, .ref (a_T 0)), (1, .int w1), (2, .int w2), (3, .int w3), (4, .int w4), (5, .int w5)] → W p l e (rmH 8) s m (List.toArray [.ref (a_T 0), .int x1]) below meth c H locs 0 0 (MQ below (va_Qi (fun r2 (_ : Unit) => r2 = r) (fun _ t => POST g A (cl_X12 g a_T zu_T zv_T ++ X) t) A) (List.toArray [.ref (a_T 0), .int x1]) s 0 0 A) (F0 m 61 ls []) := by
    intro K61 hK61 u_T v_T w1 w2 w3 w4 w5 H locs ls hf hw hl
    unfold f_X12_bestRound_J61 at hf
    refine lv_iload hx hb dX12_bestRound_61 (lv_at hl 5 rfl) ?_
    refine lv_aload_n hx hb dX12_bestRound_63 rfl (lv_at hl 0 rfl) ?_
    refine gf_X12_228 S hE hw 0 rfl rfl dX12_bestRound_64 ?_
    refine lv_iload_n hx hb dX12_bestRound_67 rfl (lv_at hl 2 rfl) ?_
    obtain ⟨r_10, h_9, hf⟩ := tx_b1_e hf
    refine tx_ci hw (tx_runS S hE hw (c_X12_powerOf h_9) lk_X12_483 rfl hl.1 (rest := [.int w5]) rfl (Nat.le_of_ble_eq_true rfl) ⟨by decide, by decide⟩ dX12_bestRound_68 ⟨Nat.zero_le _, Nat.zero_le _⟩) (fun H locs hw => ?_)
    refine lv_icmp_ge (tgt := 167) hx hb dX12_bestRound_71 (by decide) (fun h_11 => ?_) (fun h_11 => ?_)
    · replace hf := tx_pos hf h_11
      refine lv_aload_n hx hb dX12_bestRound_167 rfl (lv_at hl 0 rfl) ?_
      obtain ⟨u_T_13, h_12, hf⟩ := tx_b1_e hf
      refine tx_cv hw (tx_runV S hE hw (c_X12_plainTried h_12) lk_X12_344 (q0 := 0) rfl rfl rfl hl.1 (rest := []) rfl (Nat.le_of_ble_eq_true rfl) ⟨by decide, by decide⟩ dX12_bestRound_168 ⟨Nat.zero_le _, Nat.zero_le _⟩) (fun H locs hw => ?_)
      refine lv_iload_n hx hb dX12_bestRound_171 rfl (lv_at hl 1 rfl) ?_
      refine lv_iconst (v := 4) hx hb dX12_bestRound_172 (by decide) ?_
      refine lv_icmp_ne (tgt := 181) hx hb dX12_bestRound_173 (by decide) (fun h_14 => ?_) (fun h_14 => ?_)
      · replace hf := tx_neg hf h_14
        refine lv_iload_n hx hb dX12_bestRound_181 rfl (lv_at hl 3 rfl) ?_
        refine lv_aload_n hx hb dX12_bestRound_182 rfl (lv_at hl 0 rfl) ?_
        refine gf_X12_228 S hE hw 0 rfl rfl dX12_bestRound_183 ?_
        refine lv_iload_n hx hb dX12_bestRound_186 rfl (lv_at hl 2 rfl) ?_
        refine lv_iconst (v := 1) hx hb dX12_bestRound_187 (by decide) ?_
        refine lv_isub hx hb dX12_bestRound_188 ?_
        refine lv_iload_n hx hb dX12_bestRound_189 rfl (lv_at hl 1 rfl) ?_
        refine lv_isub hx hb dX12_bestRound_190 ?_
        obtain ⟨r_16, h_15, hf⟩ := tx_b1_e hf
        refine tx_ci hw (tx_runS S hE hw (c_X12_powerOf h_15) lk_X12_483 rfl hl.1 (rest := [.int w3]) rfl (Nat.le_of_ble_eq_true rfl) ⟨by decide, by decide⟩ dX12_bestRound_191 ⟨Nat.zero_le _, Nat.zero_le _⟩) (fun H locs hw => ?_)
        obtain ⟨h_17, hf⟩ := tx_nz_e hf
        refine lv_idiv hx hb dX12_bestRound_194 h_17 ?_
        refine lv_aload_n hx hb dX12_bestRound_195 rfl (lv_at hl 0 rfl) ?_
        refine gf_X12_228 S hE hw 0 rfl rfl dX12_bestRound_196 ?_
        obtain ⟨h_18, hf⟩ := tx_nz_e hf
        refine lv_irem hx hb dX12_bestRound_199 h_18 ?_
        obtain ⟨e0, e1, e2⟩ := tx_in3 hf
        rw [← e0, ← e1, ← e2]
        exact tx_iret S hr hlk hw dX12_bestRound_200
      · replace hf := tx_pos hf h_14
        refine lv_iload hx hb dX12_bestRound_176 (lv_at hl 4 rfl) ?_
        refine lv_goto (tgt := 200) hx hb dX12_bestRound_178 (by decide) ?_
        obtain ⟨e0, e1, e2⟩ := tx_in3 hf
        rw [← e0, ← e1, ← e2]
        exact tx_iret S hr hlk hw dX12_bestRound_200
    · replace hf := tx_neg hf h_11
      refine lv_aload_n hx hb dX12_bestRound_74 rfl (lv_at hl 0 rfl) ?_
      obtain ⟨u_T_20, h_19, hf⟩ := tx_b1_e hf
      refine tx_cv hw (tx_runV S hE hw (c_X12_layTried h_19) lk_X12_474 (q0 := 0) rfl rfl rfl hl.1 (rest := []) rfl (Nat.le_of_ble_eq_true rfl) ⟨by decide, by decide⟩ dX12_bestRound_75 ⟨Nat.zero_le _, Nat.zero_le _⟩) (fun H locs hw => ?_)
      refine lv_iconst (v := 0) hx hb dX12_bestRound_78 (by decide) ?_
      refine lv_istore (lv' := [(6, .int (0 : Int32)), (0, .ref (a_T 0)), (1, .int w1), (2, .int w2), (3, .int w3), (4, .int w4), (5, .int w5)]) hx hb dX12_bestRound_79 hl (by decide) rfl (fun ls hl => ?_)
      exact L81 hK61 fu hf hw (lv_sub hl [1, 2, 3, 4, 5, 6, 0] rfl)
  have L61 : ∀ (n : Nat), ∀ {u_T : S32} {v_T : S64} {w1 : Int32} {w2 : Int32} {w3 : Int32} {w4 : Int32} {w5 : Int32} {H : Heap} {locs : List Loc} {ls : Array Slot}, f_X12_bestRound_L61 fu n u_T v_T w1 w2 w3 w4 w5 = some (r, zu_T, zv_T) → WD g A s.heap (cl_X12 g a_T u_T v_T ++ X) H locs → lv_has ls 7 [(0, .ref (a_T 0)), (1, .int w1), (2, .int w2), (3, .int w3), (4, .int w4), (5, .int w5)] → W p l e (rmH 8) s m (List.toArray [.ref (a_T 0), .int x1]) below meth c H locs 0 0 (MQ below (va_Qi (fun r2 (_ : Unit) => r2 = r) (fun _ t => POST g A (cl_X12 g a_T zu_T zv_T ++ X) t) A) (List.toArray [.ref (a_T 0), .int x1]) s 0 0 A) (F0 m 61 ls []) := by
    intro  n
    induction n with
    | zero => intro u_T v_T w1 w2 w3 w4 w5 H locs ls hf; exact absurd hf (by intro q; cases q)
    | succ n ih => exact fun hf hw hl => J61 ih hf hw hl
  have J53 : ∀ {u_T : S32} {v_T : S64} {w1 : Int32} {w2 : Int32} {H : Heap} {locs : List Loc} {ls : Array Slot}, f_X12_bestRound_J53 fu u_T v_T w1 w2 = some (r, zu_T, zv_T) → WD g A s.heap (cl_X12 g a_T u_T v_T ++ X) H locs → lv_has ls 7 [(0, .ref (a_T 0)), (1, .int w1), (2, .int w2)] → W p l e (rmH 8) s m (List.toArray [.ref (a_T 0), .int x1]) below meth c H locs 0 0 (MQ below (va_Qi (fun r2 (_ : Unit) => r2 = r) (fun _ t => POST g A (cl_X12 g a_T zu_T zv_T ++ X) t) A) (List.toArray [.ref (a_T 0), .int x1]) s 0 0 A) (F0 m 53 ls []) := by
    intro u_T v_T w1 w2 H locs ls hf hw hl
    unfold f_X12_bestRound_J53 at hf
    refine lv_iconst (v := -1) hx hb dX12_bestRound_53 (by decide) ?_
    refine lv_istore_n (lv' := [(3, .int (-1 : Int32)), (0, .ref (a_T 0)), (1, .int w1), (2, .int w2)]) hx hb dX12_bestRound_54 rfl hl (by decide) rfl (fun ls hl => ?_)
    refine lv_iconst (v := 0) hx hb dX12_bestRound_55 (by decide) ?_
    refine lv_istore (lv' := [(4, .int (0 : Int32)), (3, .int (-1 : Int32)), (0, .ref (a_T 0)), (1, .int w1), (2, .int w2)]) hx hb dX12_bestRound_56 hl (by decide) rfl (fun ls hl => ?_)
    refine lv_iconst (v := 0) hx hb dX12_bestRound_58 (by decide) ?_
    refine lv_istore (lv' := [(5, .int (0 : Int32)), (4, .int (0 : Int32)), (3, .int (-1 : Int32)), (0, .ref (a_T 0)), (1, .int w1), (2, .int w2)]) hx hb dX12_bestRound_59 hl (by decide) rfl (fun ls hl => ?_)
    exact L61 fu hf hw (lv_sub hl [3, 4, 5, 2, 1, 0] rfl)
  have J39 : ∀ {u_T : S32} {v_T : S64} {w1 : Int32} {t0 : Int32} {H : Heap} {locs : List Loc} {ls : Array Slot}, f_X12_bestRound_J39 fu u_T v_T w1 t0 = some (r, zu_T, zv_T) → WD g A s.heap (cl_X12 g a_T u_T v_T ++ X) H locs → lv_has ls 7 [(0, .ref (a_T 0)), (1, .int w1)] → W p l e (rmH 8) s m (List.toArray [.ref (a_T 0), .int x1]) below meth c H locs 0 0 (MQ below (va_Qi (fun r2 (_ : Unit) => r2 = r) (fun _ t => POST g A (cl_X12 g a_T zu_T zv_T ++ X) t) A) (List.toArray [.ref (a_T 0), .int x1]) s 0 0 A) (F0 m 39 ls [.int t0]) := by
    intro u_T v_T w1 t0 H locs ls hf hw hl
    unfold f_X12_bestRound_J39 at hf
    refine lv_istore_n (lv' := [(2, .int t0), (0, .ref (a_T 0)), (1, .int w1)]) hx hb dX12_bestRound_39 rfl hl (by decide) rfl (fun ls hl => ?_)
    refine lv_iload_n hx hb dX12_bestRound_40 rfl (lv_at hl 2 rfl) ?_
    refine lv_iconst (v := 4) hx hb dX12_bestRound_41 (by decide) ?_
    refine lv_icmp_ge (tgt := 53) hx hb dX12_bestRound_42 (by decide) (fun h_7 => ?_) (fun h_7 => ?_)
    · replace hf := tx_pos hf h_7
      exact J53 hf hw (lv_sub hl [1, 2, 0] rfl)
    · replace hf := tx_neg hf h_7
      refine lv_iload_n hx hb dX12_bestRound_45 rfl (lv_at hl 2 rfl) ?_
      refine lv_iload_n hx hb dX12_bestRound_46 rfl (lv_at hl 0 rfl) ?_
      refine lv_icmp_lt (tgt := 53) hx hb dX12_bestRound_47 (by decide) (fun h_8 => ?_) (fun h_8 => ?_)
      · replace hf := tx_pos hf h_8
        exact J53 hf hw (lv_sub hl [1, 2, 0] rfl)
      · replace hf := tx_neg hf h_8
        refine lv_bipush (v := -2) hx hb dX12_bestRound_50 (by decide) ?_
        obtain ⟨e0, e1, e2⟩ := tx_in3 hf
        rw [← e0, ← e1, ← e2]
        exact tx_iret S hr hlk hw dX12_bestRound_52
  unfold f_X12_bestRound at hf
  refine lv_aload_n hx hb dX12_bestRound_0 rfl (lv_at hl 0 rfl) ?_
  refine lv_iconst (v := 0) hx hb dX12_bestRound_1 (by decide) ?_
  obtain ⟨u_T_1, eu_T_1⟩ : ∃ z : S32, z = up2 u_T 0 2 (0 : Int32) := ⟨_, rfl⟩
  replace hf := tx_let_e hf eu_T_1
  refine pf_X12_145 (ws' := cl_X12 g a_T u_T_1 v_T ++ X) S hE hw rfl rfl 0 rfl (Nat.le_of_ble_eq_true rfl) (by rw [eu_T_1]; rfl) dX12_bestRound_2 (fun H locs hw => ?_)
  refine lv_iload_n hx hb dX12_bestRound_5 rfl (lv_at hl 1 rfl) ?_
  refine lv_iconst (v := 0) hx hb dX12_bestRound_6 (by decide) ?_
  refine lv_iconst (v := 4) hx hb dX12_bestRound_7 (by decide) ?_
  obtain ⟨r_3, h_2, hf⟩ := tx_b1_e hf
  refine tx_ci hw (tx_runS S hE hw (c_X12_isIn h_2) lk_X12_190 rfl hl.1 (rest := []) rfl (Nat.le_of_ble_eq_true rfl) ⟨by decide, by decide⟩ dX12_bestRound_8 ⟨Nat.zero_le _, Nat.zero_le _⟩) (fun H locs hw => ?_)
  refine lv_if_eq (tgt := 21) hx hb dX12_bestRound_11 (by decide) (fun h_4 => ?_) (fun h_4 => ?_)
  · replace hf := tx_pos hf h_4
    refine lv_iconst (v := -1) hx hb dX12_bestRound_21 (by decide) ?_
    obtain ⟨e0, e1, e2⟩ := tx_in3 hf
    rw [← e0, ← e1, ← e2]
    exact tx_iret S hr hlk hw dX12_bestRound_22
  · replace hf := tx_neg hf h_4
    refine lv_aload_n hx hb dX12_bestRound_14 rfl (lv_at hl 0 rfl) ?_
    refine gf_X12_228 S hE hw 0 rfl rfl dX12_bestRound_15 ?_
    refine lv_if_ne (tgt := 23) hx hb dX12_bestRound_18 (by decide) (fun h_5 => ?_) (fun h_5 => ?_)
    · replace hf := tx_neg hf h_5
      refine lv_aload_n hx hb dX12_bestRound_23 rfl (lv_at hl 0 rfl) ?_
      refine gf_X12_222 S hE hw 0 rfl rfl dX12_bestRound_24 ?_
      refine lv_iconst (v := 4) hx hb dX12_bestRound_27 (by decide) ?_
      refine lv_icmp_ge (tgt := 38) hx hb dX12_bestRound_28 (by decide) (fun h_6 => ?_) (fun h_6 => ?_)
      · replace hf := tx_pos hf h_6
        refine lv_iconst (v := 4) hx hb dX12_bestRound_38 (by decide) ?_
        exact J39 hf hw (lv_sub hl [0, 1] rfl)
      · replace hf := tx_neg hf h_6
        refine lv_aload_n hx hb dX12_bestRound_31 rfl (lv_at hl 0 rfl) ?_
        refine gf_X12_222 S hE hw 0 rfl rfl dX12_bestRound_32 ?_
        refine lv_goto (tgt := 39) hx hb dX12_bestRound_35 (by decide) ?_
        exact J39 hf hw (lv_sub hl [0, 1] rfl)
    · replace hf := tx_pos hf h_5
      refine lv_iconst (v := -1) hx hb dX12_bestRound_21 (by decide) ?_
      obtain ⟨e0, e1, e2⟩ := tx_in3 hf
      rw [← e0, ← e1, ← e2]
      exact tx_iret S hr hlk hw dX12_bestRound_22
def f_X12_hideIn_J100 (fu : Nat) (K45 : S32 → S64 → Int32 → Int32 → Int32 → Int32 → Int32 → Option (Int32 × S32 × S64)) (u_T : S32) (v_T : S64) (w1 : Int32) (w2 : Int32) (w3 : Int32) (w4 : Int32) (w5 : Int32) : Option (Int32 × S32 × S64) := tx_let (w5 + (1 : Int32)) fun (y_25 : Int32) => K45 u_T v_T w1 w2 w3 w4 y_25
def f_X12_hideIn_J91 (fu : Nat) (K45 : S32 → S64 → Int32 → Int32 → Int32 → Int32 → Int32 → Option (Int32 × S32 × S64)) (u_T : S32) (v_T : S64) (w1 : Int32) (w2 : Int32) (w5 : Int32) : Option (Int32 × S32 × S64) := tx_b1 (f_X12_more fu u_T v_T) fun (r_24 : Int32) => f_X12_hideIn_J100 fu K45 u_T v_T w1 w2 w5 r_24 w5
def f_X12_hideIn_J45 (fu : Nat) (K45 : S32 → S64 → Int32 → Int32 → Int32 → Int32 → Int32 → Option (Int32 × S32 × S64)) (u_T : S32) (v_T : S64) (w1 : Int32) (w2 : Int32) (w3 : Int32) (w4 : Int32) (w5 : Int32) : Option (Int32 × S32 × S64) := if (u_T 0 12) ≤ w5 then (if w2 = (0 : Int32) then (some (w3, u_T, v_T)) else (some (w4, u_T, v_T))) else (tx_b1 (f_X12_layTried fu v_T u_T) fun (u_T_13 : S32) => tx_ck ((12 : Int32) + w1) 24 <| tx_let (up2 u_T_13 51 ((12 : Int32) + w1).toNatClampNeg w5) fun (u_T_15 : S32) => tx_b2 (f_X12_goMany fu u_T_15 v_T (12 : Int32)) fun (u_T_17 : S32) (v_T_18 : S64) => if w3 < (0 : Int32) then (f_X12_hideIn_J91 fu K45 u_T_17 v_T_18 w1 w2 w5) else (tx_b1 (f_X12_more fu u_T_17 v_T_18) fun (r_21 : Int32) => if r_21 < w4 then (f_X12_hideIn_J91 fu K45 u_T_17 v_T_18 w1 w2 w5) else (f_X12_hideIn_J100 fu K45 u_T_17 v_T_18 w1 w2 w3 w4 w5)))
def f_X12_hideIn_L45 (fu : Nat) : Nat → S32 → S64 → Int32 → Int32 → Int32 → Int32 → Int32 → Option (Int32 × S32 × S64)
  | 0 => fun _ _ _ _ _ _ _ => none
  | n + 1 => f_X12_hideIn_J45 fu (f_X12_hideIn_L45 fu n)
def f_X12_hideIn (fu : Nat) (u_T : S32) (v_T : S64) (x1 : Int32) (x2 : Int32) : Option (Int32 × S32 × S64) := tx_let (up2 u_T 0 2 (0 : Int32)) fun (u_T_1 : S32) => tx_b1 (f_X12_isThought fu u_T_1 v_T x1) fun (r_3 : Int32) => if r_3 = (0 : Int32) then (some ((-1 : Int32), u_T_1, v_T)) else (tx_b1 (f_X12_isIn fu x2 (0 : Int32) (1 : Int32)) fun (r_6 : Int32) => if r_6 = (0 : Int32) then (some ((-1 : Int32), u_T_1, v_T)) else (tx_ck x1 24 <| if (u_T_1 50 x1.toNatClampNeg) = (1 : Int32) then (f_X12_hideIn_L45 fu fu u_T_1 v_T x1 x2 (-1 : Int32) (0 : Int32) (0 : Int32)) else (some ((-2 : Int32), u_T_1, v_T))))
set_option maxHeartbeats 4000000 in
set_option maxRecDepth 100000 in
theorem c_X12_hideIn {l : Launch} {g : GG} {A : Nat → Prop} {X : va_W} {fu : Nat} {a_T : Nat → Nat} {u_T : S32} {v_T : S64} {x1 : Int32} {x2 : Int32} {r : Int32} {zu_T : S32} {zv_T : S64} (hf : f_X12_hideIn fu  u_T v_T x1 x2 = some (r, zu_T, zv_T)) : MI l yX12_hideIn cX12_hideIn 6 (some .int) 9 g A (cl_X12 g a_T u_T v_T ++ X) [.ref (a_T 0), .int x1, .int x2] r (cl_X12 g a_T zu_T zv_T ++ X) := by
  refine tx_start (av := [.ref (a_T 0), .int x1, .int x2]) (by decide) (Nat.le_of_ble_eq_true rfl) ?_
  intro p e s m below meth c ls S hr hlk hE hw hl
  have S : CallFix p m c cX12_hideIn 6 s (List.toArray [.ref (a_T 0), .int x1, .int x2]) (Cond.code yX12_hideIn cX12_hideIn 6 (some .int) :: allW) RX12 := S
  have hx := S.1
  have hb := S.2.1
  have hown := S.2.2.2.1
  have hts : ∀ w ∈ allW, w.before (List.toArray [.ref (a_T 0), .int x1, .int x2]) s = true := fun w h => S.2.2.2.2 w (List.mem_cons_of_mem _ h)
  have hl : lv_has ls 6 [(0, .ref (a_T 0)), (1, .int x1), (2, .int x2)] := hl
  have J100 : ∀ {K45 : S32 → S64 → Int32 → Int32 → Int32 → Int32 → Int32 → Option (Int32 × S32 × S64)} (hK45 : ∀ {u_T : S32} {v_T : S64} {w1 : Int32} {w2 : Int32} {w3 : Int32} {w4 : Int32} {w5 : Int32} {H : Heap} {locs : List Loc} {ls : Array Slot}, K45 u_T v_T w1 w2 w3 w4 w5 = some (r, zu_T, zv_T) → WD g A s.heap (cl_X12 g a_T u_T v_T ++ X) H locs → lv_has ls 6 [(0, .ref (a_T 0)), (1, .int w1), (2, .int w2), (3, .int w3), (4, .int w4), (5, .int w5)] → W p l e (rmH 9) s m (List.toArray [.ref (a_T 0), .int x1, .int x2]) below meth c H locs 0 0 (MQ below (va_Qi (fun r2 (_ : Unit) => r2 = r) (fun _ t => POST g A (cl_X12 g a_T zu_T zv_T ++ X) t) A) (List.toArray [.ref (a_T 0), .int x1, .int x2]) s 0 0 A) (F0 m 45 ls [])), ∀ {u_T : S32} {v_T : S64} {w1 : Int32} {w2 : Int32} {w3 : Int32} {w4 : Int32} {w5 : Int32} {H : Heap} {locs : List Loc} {ls : Array Slot}, f_X12_hideIn_J100 fu K45 u_T v_T w1 w2 w3 w4 w5 = some (r, zu_T, zv_T) → WD g A s.heap (cl_X12 g a_T u_T v_T ++ X) H locs → lv_has ls 6 [(0, .ref (a_T 0)), (1, .int w1), (2, .int w2), (3, .int w3), (4, .int w4), (5, .int w5)] → W p l e (rmH 9) s m (List.toArray [.ref (a_T 0), .int x1, .int x2]) below meth c H locs 0 0 (MQ below (va_Qi (fun r2 (_ : Unit) => r2 = r) (fun _ t => POST g A (cl_X12 g a_T zu_T zv_T ++ X) t) A) (List.toArray [.ref (a_T 0), .int x1, .int x2]) s 0 0 A) (F0 m 100 ls []) := by
    intro K45 hK45 u_T v_T w1 w2 w3 w4 w5 H locs ls hf hw hl
    unfold f_X12_hideIn_J100 at hf
    obtain ⟨y_25, ey_25⟩ : ∃ y : Int32, y = w5 + (1 : Int32) := ⟨_, rfl⟩
    replace hf := tx_let_e hf ey_25
    refine lv_iinc (v := y_25) (lv' := [(5, .int y_25), (0, .ref (a_T 0)), (1, .int w1), (2, .int w2), (3, .int w3), (4, .int w4)]) hx hb dX12_hideIn_100 hl (k := 5) rfl (by rw [ey_25]; rfl) (by decide) rfl (fun ls hl => ?_)
    refine lv_goto (tgt := 45) hx hb dX12_hideIn_103 (by decide) ?_
    exact hK45 hf hw (lv_sub hl [1, 2, 3, 4, 5, 0] rfl)
  have J91 : ∀ {K45 : S32 → S64 → Int32 → Int32 → Int32 → Int32 → Int32 → Option (Int32 × S32 × S64)} (hK45 : ∀ {u_T : S32} {v_T : S64} {w1 : Int32} {w2 : Int32} {w3 : Int32} {w4 : Int32} {w5 : Int32} {H : Heap} {locs : List Loc} {ls : Array Slot}, K45 u_T v_T w1 w2 w3 w4 w5 = some (r, zu_T, zv_T) → WD g A s.heap (cl_X12 g a_T u_T v_T ++ X) H locs → lv_has ls 6 [(0, .ref (a_T 0)), (1, .int w1), (2, .int w2), (3, .int w3), (4, .int w4), (5, .int w5)] → W p l e (rmH 9) s m (List.toArray [.ref (a_T 0), .int x1, .int x2]) below meth c H locs 0 0 (MQ below (va_Qi (fun r2 (_ : Unit) => r2 = r) (fun _ t => POST g A (cl_X12 g a_T zu_T zv_T ++ X) t) A) (List.toArray [.ref (a_T 0), .int x1, .int x2]) s 0 0 A) (F0 m 45 ls [])), ∀ {u_T : S32} {v_T : S64} {w1 : Int32} {w2 : Int32} {w5 : Int32} {H : Heap} {locs : List Loc} {ls : Array Slot}, f_X12_hideIn_J91 fu K45 u_T v_T w1 w2 w5 = some (r, zu_T, zv_T) → WD g A s.heap (cl_X12 g a_T u_T v_T ++ X) H locs → lv_has ls 6 [(0, .ref (a_T 0)), (1, .int w1), (2, .int w2), (5, .int w5)] → W p l e (rmH 9) s m (List.toArray [.ref (a_T 0), .int x1, .int x2]) below meth c H locs 0 0 (MQ below (va_Qi (fun r2 (_ : Unit) => r2 = r) (fun _ t => POST g A (cl_X12 g a_T zu_T zv_T ++ X) t) A) (List.toArray [.ref (a_T 0), .int x1, .int x2]) s 0 0 A) (F0 m 91 ls []) := by
    intro K45 hK45 u_T v_T w1 w2 w5 H locs ls hf hw hl
    unfold f_X12_hideIn_J91 at hf
    refine lv_iload hx hb dX12_hideIn_91 (lv_at hl 3 rfl) ?_
    refine lv_istore_n (lv' := [(3, .int w5), (0, .ref (a_T 0)), (1, .int w1), (2, .int w2), (5, .int w5)]) hx hb dX12_hideIn_93 rfl hl (by decide) rfl (fun ls hl => ?_)
    refine lv_aload_n hx hb dX12_hideIn_94 rfl (lv_at hl 1 rfl) ?_
    obtain ⟨r_24, h_23, hf⟩ := tx_b1_e hf
    refine tx_ci hw (tx_runV S hE hw (c_X12_more h_23) lk_X12_486 (q0 := 0) rfl rfl rfl hl.1 (rest := []) rfl (Nat.le_of_ble_eq_true rfl) ⟨by decide, by decide⟩ dX12_hideIn_95 ⟨Nat.zero_le _, Nat.zero_le _⟩) (fun H locs hw => ?_)
    refine lv_istore (lv' := [(4, .int r_24), (3, .int w5), (0, .ref (a_T 0)), (1, .int w1), (2, .int w2), (5, .int w5)]) hx hb dX12_hideIn_98 hl (by decide) rfl (fun ls hl => ?_)
    exact J100 hK45 hf hw (lv_sub hl [2, 3, 4, 1, 0, 5] rfl)
  have J45 : ∀ {K45 : S32 → S64 → Int32 → Int32 → Int32 → Int32 → Int32 → Option (Int32 × S32 × S64)} (hK45 : ∀ {u_T : S32} {v_T : S64} {w1 : Int32} {w2 : Int32} {w3 : Int32} {w4 : Int32} {w5 : Int32} {H : Heap} {locs : List Loc} {ls : Array Slot}, K45 u_T v_T w1 w2 w3 w4 w5 = some (r, zu_T, zv_T) → WD g A s.heap (cl_X12 g a_T u_T v_T ++ X) H locs → lv_has ls 6 [(0, .ref (a_T 0)), (1, .int w1), (2, .int w2), (3, .int w3), (4, .int w4), (5, .int w5)] → W p l e (rmH 9) s m (List.toArray [.ref (a_T 0), .int x1, .int x2]) below meth c H locs 0 0 (MQ below (va_Qi (fun r2 (_ : Unit) => r2 = r) (fun _ t => POST g A (cl_X12 g a_T zu_T zv_T ++ X) t) A) (List.toArray [.ref (a_T 0), .int x1, .int x2]) s 0 0 A) (F0 m 45 ls [])), ∀ {u_T : S32} {v_T : S64} {w1 : Int32} {w2 : Int32} {w3 : Int32} {w4 : Int32} {w5 : Int32} {H : Heap} {locs : List Loc} {ls : Array Slot}, f_X12_hideIn_J45 fu K45 u_T v_T w1 w2 w3 w4 w5 = some (r, zu_T, zv_T) → WD g A s.heap (cl_X12 g a_T u_T v_T ++ X) H locs → lv_has ls 6 [(0, .ref (a_T 0)), (1, .int w1), (2, .int w2), (3, .int w3), (4, .int w4), (5, .int w5)] → W p l e (rmH 9) s m (List.toArray [.ref (a_T 0), .int x1, .int x2]) below meth c H locs 0 0 (MQ below (va_Qi (fun r2 (_ : Unit) => r2 = r) (fun _ t => POST g A (cl_X12 g a_T zu_T zv_T ++ X) t) A) (List.toArray [.ref (a_T 0), .int x1, .int x2]) s 0 0 A) (F0 m 45 ls []) := by
    intro K45 hK45 u_T v_T w1 w2 w3 w4 w5 H locs ls hf hw hl
    unfold f_X12_hideIn_J45 at hf
    refine lv_iload hx hb dX12_hideIn_45 (lv_at hl 5 rfl) ?_
    refine lv_aload_n hx hb dX12_hideIn_47 rfl (lv_at hl 0 rfl) ?_
    refine gf_X12_222 S hE hw 0 rfl rfl dX12_hideIn_48 ?_
    refine lv_icmp_ge (tgt := 106) hx hb dX12_hideIn_51 (by decide) (fun h_10 => ?_) (fun h_10 => ?_)
    · replace hf := tx_pos hf h_10
      refine lv_iload_n hx hb dX12_hideIn_106 rfl (lv_at hl 2 rfl) ?_
      refine lv_if_ne (tgt := 114) hx hb dX12_hideIn_107 (by decide) (fun h_11 => ?_) (fun h_11 => ?_)
      · replace hf := tx_neg hf h_11
        refine lv_iload hx hb dX12_hideIn_114 (lv_at hl 4 rfl) ?_
        obtain ⟨e0, e1, e2⟩ := tx_in3 hf
        rw [← e0, ← e1, ← e2]
        exact tx_iret S hr hlk hw dX12_hideIn_116
      · replace hf := tx_pos hf h_11
        refine lv_iload_n hx hb dX12_hideIn_110 rfl (lv_at hl 3 rfl) ?_
        refine lv_goto (tgt := 116) hx hb dX12_hideIn_111 (by decide) ?_
        obtain ⟨e0, e1, e2⟩ := tx_in3 hf
        rw [← e0, ← e1, ← e2]
        exact tx_iret S hr hlk hw dX12_hideIn_116
    · replace hf := tx_neg hf h_10
      refine lv_aload_n hx hb dX12_hideIn_54 rfl (lv_at hl 0 rfl) ?_
      obtain ⟨u_T_13, h_12, hf⟩ := tx_b1_e hf
      refine tx_cv hw (tx_runV S hE hw (c_X12_layTried h_12) lk_X12_474 (q0 := 0) rfl rfl rfl hl.1 (rest := []) rfl (Nat.le_of_ble_eq_true rfl) ⟨by decide, by decide⟩ dX12_hideIn_55 ⟨Nat.zero_le _, Nat.zero_le _⟩) (fun H locs hw => ?_)
      refine lv_aload_n hx hb dX12_hideIn_58 rfl (lv_at hl 0 rfl) ?_
      refine gf_X12_91 S hE hw 0 rfl rfl dX12_hideIn_59 ?_
      refine lv_bipush (v := 12) hx hb dX12_hideIn_62 (by decide) ?_
      refine lv_iload_n hx hb dX12_hideIn_64 rfl (lv_at hl 1 rfl) ?_
      refine lv_iadd hx hb dX12_hideIn_65 ?_
      refine lv_iload hx hb dX12_hideIn_66 (lv_at hl 5 rfl) ?_
      obtain ⟨h_14, hf⟩ := tx_ck_e hf
      obtain ⟨u_T_15, eu_T_15⟩ : ∃ z : S32, z = up2 u_T_13 51 ((12 : Int32) + w1).toNatClampNeg w5 := ⟨_, rfl⟩
      replace hf := tx_let_e hf eu_T_15
      refine tx_iast (ws' := cl_X12 g a_T u_T_15 v_T ++ X) S hE hw 26 rfl h_14 (by rw [eu_T_15]; rfl) dX12_hideIn_68 (fun H locs hw => ?_)
      refine lv_aload_n hx hb dX12_hideIn_69 rfl (lv_at hl 0 rfl) ?_
      refine lv_bipush (v := 12) hx hb dX12_hideIn_70 (by decide) ?_
      obtain ⟨u_T_17, v_T_18, h_16, hf⟩ := tx_b2_e hf
      refine tx_cv hw (tx_runV S hE hw (c_X12_goMany h_16) lk_X12_477 (q0 := 0) rfl rfl rfl hl.1 (rest := []) rfl (Nat.le_of_ble_eq_true rfl) ⟨by decide, by decide⟩ dX12_hideIn_72 ⟨Nat.zero_le _, Nat.zero_le _⟩) (fun H locs hw => ?_)
      refine lv_iload_n hx hb dX12_hideIn_75 rfl (lv_at hl 3 rfl) ?_
      refine lv_if_lt (tgt := 91) hx hb dX12_hideIn_76 (by decide) (fun h_19 => ?_) (fun h_19 => ?_)
      · replace hf := tx_pos hf h_19
        exact J91 hK45 hf hw (lv_sub hl [0, 1, 2, 5] rfl)
      · replace hf := tx_neg hf h_19
        refine lv_aload_n hx hb dX12_hideIn_79 rfl (lv_at hl 0 rfl) ?_
        obtain ⟨r_21, h_20, hf⟩ := tx_b1_e hf
        refine tx_ci hw (tx_runV S hE hw (c_X12_more h_20) lk_X12_486 (q0 := 0) rfl rfl rfl hl.1 (rest := []) rfl (Nat.le_of_ble_eq_true rfl) ⟨by decide, by decide⟩ dX12_hideIn_80 ⟨Nat.zero_le _, Nat.zero_le _⟩) (fun H locs hw => ?_)
        refine lv_iload hx hb dX12_hideIn_83 (lv_at hl 4 rfl) ?_
        refine lv_icmp_lt (tgt := 91) hx hb dX12_hideIn_85 (by decide) (fun h_22 => ?_) (fun h_22 => ?_)
        · replace hf := tx_pos hf h_22
          exact J91 hK45 hf hw (lv_sub hl [0, 1, 2, 5] rfl)
        · replace hf := tx_neg hf h_22
          refine lv_goto (tgt := 100) hx hb dX12_hideIn_88 (by decide) ?_
          exact J100 hK45 hf hw (lv_sub hl [0, 1, 2, 3, 4, 5] rfl)
  have L45 : ∀ (n : Nat), ∀ {u_T : S32} {v_T : S64} {w1 : Int32} {w2 : Int32} {w3 : Int32} {w4 : Int32} {w5 : Int32} {H : Heap} {locs : List Loc} {ls : Array Slot}, f_X12_hideIn_L45 fu n u_T v_T w1 w2 w3 w4 w5 = some (r, zu_T, zv_T) → WD g A s.heap (cl_X12 g a_T u_T v_T ++ X) H locs → lv_has ls 6 [(0, .ref (a_T 0)), (1, .int w1), (2, .int w2), (3, .int w3), (4, .int w4), (5, .int w5)] → W p l e (rmH 9) s m (List.toArray [.ref (a_T 0), .int x1, .int x2]) below meth c H locs 0 0 (MQ below (va_Qi (fun r2 (_ : Unit) => r2 = r) (fun _ t => POST g A (cl_X12 g a_T zu_T zv_T ++ X) t) A) (List.toArray [.ref (a_T 0), .int x1, .int x2]) s 0 0 A) (F0 m 45 ls []) := by
    intro  n
    induction n with
    | zero => intro u_T v_T w1 w2 w3 w4 w5 H locs ls hf; exact absurd hf (by intro q; cases q)
    | succ n ih => exact fun hf hw hl => J45 ih hf hw hl
  unfold f_X12_hideIn at hf
  refine lv_aload_n hx hb dX12_hideIn_0 rfl (lv_at hl 0 rfl) ?_
  refine lv_iconst (v := 0) hx hb dX12_hideIn_1 (by decide) ?_
  obtain ⟨u_T_1, eu_T_1⟩ : ∃ z : S32, z = up2 u_T 0 2 (0 : Int32) := ⟨_, rfl⟩
  replace hf := tx_let_e hf eu_T_1
  refine pf_X12_145 (ws' := cl_X12 g a_T u_T_1 v_T ++ X) S hE hw rfl rfl 0 rfl (Nat.le_of_ble_eq_true rfl) (by rw [eu_T_1]; rfl) dX12_hideIn_2 (fun H locs hw => ?_)
  refine lv_aload_n hx hb dX12_hideIn_5 rfl (lv_at hl 0 rfl) ?_
  refine lv_iload_n hx hb dX12_hideIn_6 rfl (lv_at hl 1 rfl) ?_
  obtain ⟨r_3, h_2, hf⟩ := tx_b1_e hf
  refine tx_ci hw (tx_runV S hE hw (c_X12_isThought h_2) lk_X12_454 (q0 := 0) rfl rfl rfl hl.1 (rest := []) rfl (Nat.le_of_ble_eq_true rfl) ⟨by decide, by decide⟩ dX12_hideIn_7 ⟨Nat.zero_le _, Nat.zero_le _⟩) (fun H locs hw => ?_)
  refine lv_if_eq (tgt := 22) hx hb dX12_hideIn_10 (by decide) (fun h_4 => ?_) (fun h_4 => ?_)
  · replace hf := tx_pos hf h_4
    refine lv_iconst (v := -1) hx hb dX12_hideIn_22 (by decide) ?_
    obtain ⟨e0, e1, e2⟩ := tx_in3 hf
    rw [← e0, ← e1, ← e2]
    exact tx_iret S hr hlk hw dX12_hideIn_23
  · replace hf := tx_neg hf h_4
    refine lv_iload_n hx hb dX12_hideIn_13 rfl (lv_at hl 2 rfl) ?_
    refine lv_iconst (v := 0) hx hb dX12_hideIn_14 (by decide) ?_
    refine lv_iconst (v := 1) hx hb dX12_hideIn_15 (by decide) ?_
    obtain ⟨r_6, h_5, hf⟩ := tx_b1_e hf
    refine tx_ci hw (tx_runS S hE hw (c_X12_isIn h_5) lk_X12_190 rfl hl.1 (rest := []) rfl (Nat.le_of_ble_eq_true rfl) ⟨by decide, by decide⟩ dX12_hideIn_16 ⟨Nat.zero_le _, Nat.zero_le _⟩) (fun H locs hw => ?_)
    refine lv_if_ne (tgt := 24) hx hb dX12_hideIn_19 (by decide) (fun h_7 => ?_) (fun h_7 => ?_)
    · replace hf := tx_neg hf h_7
      refine lv_aload_n hx hb dX12_hideIn_24 rfl (lv_at hl 0 rfl) ?_
      refine gf_X12_88 S hE hw 0 rfl rfl dX12_hideIn_25 ?_
      refine lv_iload_n hx hb dX12_hideIn_28 rfl (lv_at hl 1 rfl) ?_
      obtain ⟨h_8, hf⟩ := tx_ck_e hf
      refine tx_iald S hE hw 25 rfl h_8 dX12_hideIn_29 ?_
      refine lv_iconst (v := 1) hx hb dX12_hideIn_30 (by decide) ?_
      refine lv_icmp_eq (tgt := 37) hx hb dX12_hideIn_31 (by decide) (fun h_9 => ?_) (fun h_9 => ?_)
      · replace hf := tx_pos hf h_9
        refine lv_iconst (v := -1) hx hb dX12_hideIn_37 (by decide) ?_
        refine lv_istore_n (lv' := [(3, .int (-1 : Int32)), (0, .ref (a_T 0)), (1, .int x1), (2, .int x2)]) hx hb dX12_hideIn_38 rfl hl (by decide) rfl (fun ls hl => ?_)
        refine lv_iconst (v := 0) hx hb dX12_hideIn_39 (by decide) ?_
        refine lv_istore (lv' := [(4, .int (0 : Int32)), (3, .int (-1 : Int32)), (0, .ref (a_T 0)), (1, .int x1), (2, .int x2)]) hx hb dX12_hideIn_40 hl (by decide) rfl (fun ls hl => ?_)
        refine lv_iconst (v := 0) hx hb dX12_hideIn_42 (by decide) ?_
        refine lv_istore (lv' := [(5, .int (0 : Int32)), (4, .int (0 : Int32)), (3, .int (-1 : Int32)), (0, .ref (a_T 0)), (1, .int x1), (2, .int x2)]) hx hb dX12_hideIn_43 hl (by decide) rfl (fun ls hl => ?_)
        exact L45 fu hf hw (lv_sub hl [3, 4, 5, 2, 1, 0] rfl)
      · replace hf := tx_neg hf h_9
        refine lv_bipush (v := -2) hx hb dX12_hideIn_34 (by decide) ?_
        obtain ⟨e0, e1, e2⟩ := tx_in3 hf
        rw [← e0, ← e1, ← e2]
        exact tx_iret S hr hlk hw dX12_hideIn_36
    · replace hf := tx_pos hf h_7
      refine lv_iconst (v := -1) hx hb dX12_hideIn_22 (by decide) ?_
      obtain ⟨e0, e1, e2⟩ := tx_in3 hf
      rw [← e0, ← e1, ← e2]
      exact tx_iret S hr hlk hw dX12_hideIn_23
def f_X12_bestRate_J92 (fu : Nat) (K34 : S32 → S64 → Int32 → Int32 → Int32 → Int32 → Int32 → Option (Int32 × S32 × S64)) (u_T : S32) (v_T : S64) (w1 : Int32) (w2 : Int32) (w3 : Int32) (w4 : Int32) (w5 : Int32) : Option (Int32 × S32 × S64) := tx_let (w5 + (1 : Int32)) fun (y_23 : Int32) => K34 u_T v_T w1 w2 w3 w4 y_23
def f_X12_bestRate_J85 (fu : Nat) (K34 : S32 → S64 → Int32 → Int32 → Int32 → Int32 → Int32 → Option (Int32 × S32 × S64)) (u_T : S32) (v_T : S64) (w1 : Int32) (w2 : Int32) (w5 : Int32) (w6 : Int32) : Option (Int32 × S32 × S64) := f_X12_bestRate_J92 fu K34 u_T v_T w1 w2 w5 w6 w5
def f_X12_bestRate_J34 (fu : Nat) (K34 : S32 → S64 → Int32 → Int32 → Int32 → Int32 → Int32 → Option (Int32 × S32 × S64)) (u_T : S32) (v_T : S64) (w1 : Int32) (w2 : Int32) (w3 : Int32) (w4 : Int32) (w5 : Int32) : Option (Int32 × S32 × S64) := if (100 : Int32) < w5 then (if w2 = (0 : Int32) then (some (w3, u_T, v_T)) else (some (w4, u_T, v_T))) else (tx_b1 (f_X12_layTried fu v_T u_T) fun (u_T_11 : S32) => tx_let (up2 u_T_11 58 (1 : Int32).toNatClampNeg w5) fun (u_T_12 : S32) => tx_b2 (f_X12_goMany fu u_T_12 v_T w1) fun (u_T_14 : S32) (v_T_15 : S64) => tx_b1 (f_X12_paidAll fu u_T_14 v_T_15 (1 : Int32)) fun (r_17 : Int32) => tx_b1 (f_X12_paidAll fu u_T_14 v_T_15 (0 : Int32)) fun (r_19 : Int32) => tx_let (r_17 - r_19) fun (y_20 : Int32) => if w3 < (0 : Int32) then (f_X12_bestRate_J85 fu K34 u_T_14 v_T_15 w1 w2 w5 y_20) else (if w4 < y_20 then (f_X12_bestRate_J85 fu K34 u_T_14 v_T_15 w1 w2 w5 y_20) else (f_X12_bestRate_J92 fu K34 u_T_14 v_T_15 w1 w2 w3 w4 w5)))
def f_X12_bestRate_L34 (fu : Nat) : Nat → S32 → S64 → Int32 → Int32 → Int32 → Int32 → Int32 → Option (Int32 × S32 × S64)
  | 0 => fun _ _ _ _ _ _ _ => none
  | n + 1 => f_X12_bestRate_J34 fu (f_X12_bestRate_L34 fu n)
def f_X12_bestRate (fu : Nat) (u_T : S32) (v_T : S64) (x1 : Int32) (x2 : Int32) : Option (Int32 × S32 × S64) := tx_let (up2 u_T 0 2 (0 : Int32)) fun (u_T_1 : S32) => tx_b1 (f_X12_isIn fu x1 (1 : Int32) (40 : Int32)) fun (r_3 : Int32) => if r_3 = (0 : Int32) then (some ((-1 : Int32), u_T_1, v_T)) else (tx_b1 (f_X12_isIn fu x2 (0 : Int32) (1 : Int32)) fun (r_6 : Int32) => if r_6 = (0 : Int32) then (some ((-1 : Int32), u_T_1, v_T)) else (f_X12_bestRate_L34 fu fu u_T_1 v_T x1 x2 (-1 : Int32) (0 : Int32) (0 : Int32)))
set_option maxHeartbeats 4000000 in
set_option maxRecDepth 100000 in
theorem c_X12_bestRate {l : Launch} {g : GG} {A : Nat → Prop} {X : va_W} {fu : Nat} {a_T : Nat → Nat} {u_T : S32} {v_T : S64} {x1 : Int32} {x2 : Int32} {r : Int32} {zu_T : S32} {zv_T : S64} (hf : f_X12_bestRate fu  u_T v_T x1 x2 = some (r, zu_T, zv_T)) : MI l yX12_bestRate cX12_bestRate 7 (some .int) 9 g A (cl_X12 g a_T u_T v_T ++ X) [.ref (a_T 0), .int x1, .int x2] r (cl_X12 g a_T zu_T zv_T ++ X) := by
  refine tx_start (av := [.ref (a_T 0), .int x1, .int x2]) (by decide) (Nat.le_of_ble_eq_true rfl) ?_
  intro p e s m below meth c ls S hr hlk hE hw hl
  have S : CallFix p m c cX12_bestRate 7 s (List.toArray [.ref (a_T 0), .int x1, .int x2]) (Cond.code yX12_bestRate cX12_bestRate 7 (some .int) :: allW) RX12 := S
  have hx := S.1
  have hb := S.2.1
  have hown := S.2.2.2.1
  have hts : ∀ w ∈ allW, w.before (List.toArray [.ref (a_T 0), .int x1, .int x2]) s = true := fun w h => S.2.2.2.2 w (List.mem_cons_of_mem _ h)
  have hl : lv_has ls 7 [(0, .ref (a_T 0)), (1, .int x1), (2, .int x2)] := hl
  have J92 : ∀ {K34 : S32 → S64 → Int32 → Int32 → Int32 → Int32 → Int32 → Option (Int32 × S32 × S64)} (hK34 : ∀ {u_T : S32} {v_T : S64} {w1 : Int32} {w2 : Int32} {w3 : Int32} {w4 : Int32} {w5 : Int32} {H : Heap} {locs : List Loc} {ls : Array Slot}, K34 u_T v_T w1 w2 w3 w4 w5 = some (r, zu_T, zv_T) → WD g A s.heap (cl_X12 g a_T u_T v_T ++ X) H locs → lv_has ls 7 [(0, .ref (a_T 0)), (1, .int w1), (2, .int w2), (3, .int w3), (4, .int w4), (5, .int w5)] → W p l e (rmH 9) s m (List.toArray [.ref (a_T 0), .int x1, .int x2]) below meth c H locs 0 0 (MQ below (va_Qi (fun r2 (_ : Unit) => r2 = r) (fun _ t => POST g A (cl_X12 g a_T zu_T zv_T ++ X) t) A) (List.toArray [.ref (a_T 0), .int x1, .int x2]) s 0 0 A) (F0 m 34 ls [])), ∀ {u_T : S32} {v_T : S64} {w1 : Int32} {w2 : Int32} {w3 : Int32} {w4 : Int32} {w5 : Int32} {H : Heap} {locs : List Loc} {ls : Array Slot}, f_X12_bestRate_J92 fu K34 u_T v_T w1 w2 w3 w4 w5 = some (r, zu_T, zv_T) → WD g A s.heap (cl_X12 g a_T u_T v_T ++ X) H locs → lv_has ls 7 [(0, .ref (a_T 0)), (1, .int w1), (2, .int w2), (3, .int w3), (4, .int w4), (5, .int w5)] → W p l e (rmH 9) s m (List.toArray [.ref (a_T 0), .int x1, .int x2]) below meth c H locs 0 0 (MQ below (va_Qi (fun r2 (_ : Unit) => r2 = r) (fun _ t => POST g A (cl_X12 g a_T zu_T zv_T ++ X) t) A) (List.toArray [.ref (a_T 0), .int x1, .int x2]) s 0 0 A) (F0 m 92 ls []) := by
    intro K34 hK34 u_T v_T w1 w2 w3 w4 w5 H locs ls hf hw hl
    unfold f_X12_bestRate_J92 at hf
    obtain ⟨y_23, ey_23⟩ : ∃ y : Int32, y = w5 + (1 : Int32) := ⟨_, rfl⟩
    replace hf := tx_let_e hf ey_23
    refine lv_iinc (v := y_23) (lv' := [(5, .int y_23), (0, .ref (a_T 0)), (1, .int w1), (2, .int w2), (3, .int w3), (4, .int w4)]) hx hb dX12_bestRate_92 hl (k := 5) rfl (by rw [ey_23]; rfl) (by decide) rfl (fun ls hl => ?_)
    refine lv_goto (tgt := 34) hx hb dX12_bestRate_95 (by decide) ?_
    exact hK34 hf hw (lv_sub hl [1, 2, 3, 4, 5, 0] rfl)
  have J85 : ∀ {K34 : S32 → S64 → Int32 → Int32 → Int32 → Int32 → Int32 → Option (Int32 × S32 × S64)} (hK34 : ∀ {u_T : S32} {v_T : S64} {w1 : Int32} {w2 : Int32} {w3 : Int32} {w4 : Int32} {w5 : Int32} {H : Heap} {locs : List Loc} {ls : Array Slot}, K34 u_T v_T w1 w2 w3 w4 w5 = some (r, zu_T, zv_T) → WD g A s.heap (cl_X12 g a_T u_T v_T ++ X) H locs → lv_has ls 7 [(0, .ref (a_T 0)), (1, .int w1), (2, .int w2), (3, .int w3), (4, .int w4), (5, .int w5)] → W p l e (rmH 9) s m (List.toArray [.ref (a_T 0), .int x1, .int x2]) below meth c H locs 0 0 (MQ below (va_Qi (fun r2 (_ : Unit) => r2 = r) (fun _ t => POST g A (cl_X12 g a_T zu_T zv_T ++ X) t) A) (List.toArray [.ref (a_T 0), .int x1, .int x2]) s 0 0 A) (F0 m 34 ls [])), ∀ {u_T : S32} {v_T : S64} {w1 : Int32} {w2 : Int32} {w5 : Int32} {w6 : Int32} {H : Heap} {locs : List Loc} {ls : Array Slot}, f_X12_bestRate_J85 fu K34 u_T v_T w1 w2 w5 w6 = some (r, zu_T, zv_T) → WD g A s.heap (cl_X12 g a_T u_T v_T ++ X) H locs → lv_has ls 7 [(0, .ref (a_T 0)), (1, .int w1), (2, .int w2), (5, .int w5), (6, .int w6)] → W p l e (rmH 9) s m (List.toArray [.ref (a_T 0), .int x1, .int x2]) below meth c H locs 0 0 (MQ below (va_Qi (fun r2 (_ : Unit) => r2 = r) (fun _ t => POST g A (cl_X12 g a_T zu_T zv_T ++ X) t) A) (List.toArray [.ref (a_T 0), .int x1, .int x2]) s 0 0 A) (F0 m 85 ls []) := by
    intro K34 hK34 u_T v_T w1 w2 w5 w6 H locs ls hf hw hl
    unfold f_X12_bestRate_J85 at hf
    refine lv_iload hx hb dX12_bestRate_85 (lv_at hl 3 rfl) ?_
    refine lv_istore_n (lv' := [(3, .int w5), (0, .ref (a_T 0)), (1, .int w1), (2, .int w2), (5, .int w5), (6, .int w6)]) hx hb dX12_bestRate_87 rfl hl (by decide) rfl (fun ls hl => ?_)
    refine lv_iload hx hb dX12_bestRate_88 (lv_at hl 5 rfl) ?_
    refine lv_istore (lv' := [(4, .int w6), (3, .int w5), (0, .ref (a_T 0)), (1, .int w1), (2, .int w2), (5, .int w5), (6, .int w6)]) hx hb dX12_bestRate_90 hl (by decide) rfl (fun ls hl => ?_)
    exact J92 hK34 hf hw (lv_sub hl [2, 3, 4, 1, 0, 5] rfl)
  have J34 : ∀ {K34 : S32 → S64 → Int32 → Int32 → Int32 → Int32 → Int32 → Option (Int32 × S32 × S64)} (hK34 : ∀ {u_T : S32} {v_T : S64} {w1 : Int32} {w2 : Int32} {w3 : Int32} {w4 : Int32} {w5 : Int32} {H : Heap} {locs : List Loc} {ls : Array Slot}, K34 u_T v_T w1 w2 w3 w4 w5 = some (r, zu_T, zv_T) → WD g A s.heap (cl_X12 g a_T u_T v_T ++ X) H locs → lv_has ls 7 [(0, .ref (a_T 0)), (1, .int w1), (2, .int w2), (3, .int w3), (4, .int w4), (5, .int w5)] → W p l e (rmH 9) s m (List.toArray [.ref (a_T 0), .int x1, .int x2]) below meth c H locs 0 0 (MQ below (va_Qi (fun r2 (_ : Unit) => r2 = r) (fun _ t => POST g A (cl_X12 g a_T zu_T zv_T ++ X) t) A) (List.toArray [.ref (a_T 0), .int x1, .int x2]) s 0 0 A) (F0 m 34 ls [])), ∀ {u_T : S32} {v_T : S64} {w1 : Int32} {w2 : Int32} {w3 : Int32} {w4 : Int32} {w5 : Int32} {H : Heap} {locs : List Loc} {ls : Array Slot}, f_X12_bestRate_J34 fu K34 u_T v_T w1 w2 w3 w4 w5 = some (r, zu_T, zv_T) → WD g A s.heap (cl_X12 g a_T u_T v_T ++ X) H locs → lv_has ls 7 [(0, .ref (a_T 0)), (1, .int w1), (2, .int w2), (3, .int w3), (4, .int w4), (5, .int w5)] → W p l e (rmH 9) s m (List.toArray [.ref (a_T 0), .int x1, .int x2]) below meth c H locs 0 0 (MQ below (va_Qi (fun r2 (_ : Unit) => r2 = r) (fun _ t => POST g A (cl_X12 g a_T zu_T zv_T ++ X) t) A) (List.toArray [.ref (a_T 0), .int x1, .int x2]) s 0 0 A) (F0 m 34 ls []) := by
    intro K34 hK34 u_T v_T w1 w2 w3 w4 w5 H locs ls hf hw hl
    unfold f_X12_bestRate_J34 at hf
    refine lv_iload hx hb dX12_bestRate_34 (lv_at hl 5 rfl) ?_
    refine lv_bipush (v := 100) hx hb dX12_bestRate_36 (by decide) ?_
    refine lv_icmp_gt (tgt := 98) hx hb dX12_bestRate_38 (by decide) (fun h_8 => ?_) (fun h_8 => ?_)
    · replace hf := tx_pos hf h_8
      refine lv_iload_n hx hb dX12_bestRate_98 rfl (lv_at hl 2 rfl) ?_
      refine lv_if_ne (tgt := 106) hx hb dX12_bestRate_99 (by decide) (fun h_9 => ?_) (fun h_9 => ?_)
      · replace hf := tx_neg hf h_9
        refine lv_iload hx hb dX12_bestRate_106 (lv_at hl 4 rfl) ?_
        obtain ⟨e0, e1, e2⟩ := tx_in3 hf
        rw [← e0, ← e1, ← e2]
        exact tx_iret S hr hlk hw dX12_bestRate_108
      · replace hf := tx_pos hf h_9
        refine lv_iload_n hx hb dX12_bestRate_102 rfl (lv_at hl 3 rfl) ?_
        refine lv_goto (tgt := 108) hx hb dX12_bestRate_103 (by decide) ?_
        obtain ⟨e0, e1, e2⟩ := tx_in3 hf
        rw [← e0, ← e1, ← e2]
        exact tx_iret S hr hlk hw dX12_bestRate_108
    · replace hf := tx_neg hf h_8
      refine lv_aload_n hx hb dX12_bestRate_41 rfl (lv_at hl 0 rfl) ?_
      obtain ⟨u_T_11, h_10, hf⟩ := tx_b1_e hf
      refine tx_cv hw (tx_runV S hE hw (c_X12_layTried h_10) lk_X12_474 (q0 := 0) rfl rfl rfl hl.1 (rest := []) rfl (Nat.le_of_ble_eq_true rfl) ⟨by decide, by decide⟩ dX12_bestRate_42 ⟨Nat.zero_le _, Nat.zero_le _⟩) (fun H locs hw => ?_)
      refine lv_aload_n hx hb dX12_bestRate_45 rfl (lv_at hl 0 rfl) ?_
      refine gf_X12_112 S hE hw 0 rfl rfl dX12_bestRate_46 ?_
      refine lv_iconst (v := 1) hx hb dX12_bestRate_49 (by decide) ?_
      refine lv_iload hx hb dX12_bestRate_50 (lv_at hl 5 rfl) ?_
      obtain ⟨u_T_12, eu_T_12⟩ : ∃ z : S32, z = up2 u_T_11 58 (1 : Int32).toNatClampNeg w5 := ⟨_, rfl⟩
      replace hf := tx_let_e hf eu_T_12
      refine tx_iast (ws' := cl_X12 g a_T u_T_12 v_T ++ X) S hE hw 33 rfl (by unfold vp_in; decide) (by rw [eu_T_12]; rfl) dX12_bestRate_52 (fun H locs hw => ?_)
      refine lv_aload_n hx hb dX12_bestRate_53 rfl (lv_at hl 0 rfl) ?_
      refine lv_iload_n hx hb dX12_bestRate_54 rfl (lv_at hl 1 rfl) ?_
      obtain ⟨u_T_14, v_T_15, h_13, hf⟩ := tx_b2_e hf
      refine tx_cv hw (tx_runV S hE hw (c_X12_goMany h_13) lk_X12_477 (q0 := 0) rfl rfl rfl hl.1 (rest := []) rfl (Nat.le_of_ble_eq_true rfl) ⟨by decide, by decide⟩ dX12_bestRate_55 ⟨Nat.zero_le _, Nat.zero_le _⟩) (fun H locs hw => ?_)
      refine lv_aload_n hx hb dX12_bestRate_58 rfl (lv_at hl 0 rfl) ?_
      refine lv_iconst (v := 1) hx hb dX12_bestRate_59 (by decide) ?_
      obtain ⟨r_17, h_16, hf⟩ := tx_b1_e hf
      refine tx_ci hw (tx_runV S hE hw (c_X12_paidAll h_16) lk_X12_448 (q0 := 0) rfl rfl rfl hl.1 (rest := []) rfl (Nat.le_of_ble_eq_true rfl) ⟨by decide, by decide⟩ dX12_bestRate_60 ⟨Nat.zero_le _, Nat.zero_le _⟩) (fun H locs hw => ?_)
      refine lv_aload_n hx hb dX12_bestRate_63 rfl (lv_at hl 0 rfl) ?_
      refine lv_iconst (v := 0) hx hb dX12_bestRate_64 (by decide) ?_
      obtain ⟨r_19, h_18, hf⟩ := tx_b1_e hf
      refine tx_ci hw (tx_runV S hE hw (c_X12_paidAll h_18) lk_X12_448 (q0 := 0) rfl rfl rfl hl.1 (rest := [.int r_17]) rfl (Nat.le_of_ble_eq_true rfl) ⟨by decide, by decide⟩ dX12_bestRate_65 ⟨Nat.zero_le _, Nat.zero_le _⟩) (fun H locs hw => ?_)
      refine lv_isub hx hb dX12_bestRate_68 ?_
      refine lv_topi (fun y_20 ey_20 => ?_)
      replace hf := tx_let_e hf ey_20
      refine lv_istore (lv' := [(6, .int y_20), (0, .ref (a_T 0)), (1, .int w1), (2, .int w2), (3, .int w3), (4, .int w4), (5, .int w5)]) hx hb dX12_bestRate_69 hl (by decide) rfl (fun ls hl => ?_)
      refine lv_iload_n hx hb dX12_bestRate_71 rfl (lv_at hl 4 rfl) ?_
      refine lv_if_lt (tgt := 85) hx hb dX12_bestRate_72 (by decide) (fun h_21 => ?_) (fun h_21 => ?_)
      · replace hf := tx_pos hf h_21
        exact J85 hK34 hf hw (lv_sub hl [1, 2, 3, 6, 0] rfl)
      · replace hf := tx_neg hf h_21
        refine lv_iload hx hb dX12_bestRate_75 (lv_at hl 0 rfl) ?_
        refine lv_iload hx hb dX12_bestRate_77 (lv_at hl 5 rfl) ?_
        refine lv_icmp_gt (tgt := 85) hx hb dX12_bestRate_79 (by decide) (fun h_22 => ?_) (fun h_22 => ?_)
        · replace hf := tx_pos hf h_22
          exact J85 hK34 hf hw (lv_sub hl [1, 2, 3, 6, 0] rfl)
        · replace hf := tx_neg hf h_22
          refine lv_goto (tgt := 92) hx hb dX12_bestRate_82 (by decide) ?_
          exact J92 hK34 hf hw (lv_sub hl [1, 2, 3, 4, 5, 6] rfl)
  have L34 : ∀ (n : Nat), ∀ {u_T : S32} {v_T : S64} {w1 : Int32} {w2 : Int32} {w3 : Int32} {w4 : Int32} {w5 : Int32} {H : Heap} {locs : List Loc} {ls : Array Slot}, f_X12_bestRate_L34 fu n u_T v_T w1 w2 w3 w4 w5 = some (r, zu_T, zv_T) → WD g A s.heap (cl_X12 g a_T u_T v_T ++ X) H locs → lv_has ls 7 [(0, .ref (a_T 0)), (1, .int w1), (2, .int w2), (3, .int w3), (4, .int w4), (5, .int w5)] → W p l e (rmH 9) s m (List.toArray [.ref (a_T 0), .int x1, .int x2]) below meth c H locs 0 0 (MQ below (va_Qi (fun r2 (_ : Unit) => r2 = r) (fun _ t => POST g A (cl_X12 g a_T zu_T zv_T ++ X) t) A) (List.toArray [.ref (a_T 0), .int x1, .int x2]) s 0 0 A) (F0 m 34 ls []) := by
    intro  n
    induction n with
    | zero => intro u_T v_T w1 w2 w3 w4 w5 H locs ls hf; exact absurd hf (by intro q; cases q)
    | succ n ih => exact fun hf hw hl => J34 ih hf hw hl
  unfold f_X12_bestRate at hf
  refine lv_aload_n hx hb dX12_bestRate_0 rfl (lv_at hl 0 rfl) ?_
  refine lv_iconst (v := 0) hx hb dX12_bestRate_1 (by decide) ?_
  obtain ⟨u_T_1, eu_T_1⟩ : ∃ z : S32, z = up2 u_T 0 2 (0 : Int32) := ⟨_, rfl⟩
  replace hf := tx_let_e hf eu_T_1
  refine pf_X12_145 (ws' := cl_X12 g a_T u_T_1 v_T ++ X) S hE hw rfl rfl 0 rfl (Nat.le_of_ble_eq_true rfl) (by rw [eu_T_1]; rfl) dX12_bestRate_2 (fun H locs hw => ?_)
  refine lv_iload_n hx hb dX12_bestRate_5 rfl (lv_at hl 1 rfl) ?_
  refine lv_iconst (v := 1) hx hb dX12_bestRate_6 (by decide) ?_
  refine lv_bipush (v := 40) hx hb dX12_bestRate_7 (by decide) ?_
  obtain ⟨r_3, h_2, hf⟩ := tx_b1_e hf
  refine tx_ci hw (tx_runS S hE hw (c_X12_isIn h_2) lk_X12_190 rfl hl.1 (rest := []) rfl (Nat.le_of_ble_eq_true rfl) ⟨by decide, by decide⟩ dX12_bestRate_9 ⟨Nat.zero_le _, Nat.zero_le _⟩) (fun H locs hw => ?_)
  refine lv_if_eq (tgt := 24) hx hb dX12_bestRate_12 (by decide) (fun h_4 => ?_) (fun h_4 => ?_)
  · replace hf := tx_pos hf h_4
    refine lv_iconst (v := -1) hx hb dX12_bestRate_24 (by decide) ?_
    obtain ⟨e0, e1, e2⟩ := tx_in3 hf
    rw [← e0, ← e1, ← e2]
    exact tx_iret S hr hlk hw dX12_bestRate_25
  · replace hf := tx_neg hf h_4
    refine lv_iload_n hx hb dX12_bestRate_15 rfl (lv_at hl 2 rfl) ?_
    refine lv_iconst (v := 0) hx hb dX12_bestRate_16 (by decide) ?_
    refine lv_iconst (v := 1) hx hb dX12_bestRate_17 (by decide) ?_
    obtain ⟨r_6, h_5, hf⟩ := tx_b1_e hf
    refine tx_ci hw (tx_runS S hE hw (c_X12_isIn h_5) lk_X12_190 rfl hl.1 (rest := []) rfl (Nat.le_of_ble_eq_true rfl) ⟨by decide, by decide⟩ dX12_bestRate_18 ⟨Nat.zero_le _, Nat.zero_le _⟩) (fun H locs hw => ?_)
    refine lv_if_ne (tgt := 26) hx hb dX12_bestRate_21 (by decide) (fun h_7 => ?_) (fun h_7 => ?_)
    · replace hf := tx_neg hf h_7
      refine lv_iconst (v := -1) hx hb dX12_bestRate_26 (by decide) ?_
      refine lv_istore_n (lv' := [(3, .int (-1 : Int32)), (0, .ref (a_T 0)), (1, .int x1), (2, .int x2)]) hx hb dX12_bestRate_27 rfl hl (by decide) rfl (fun ls hl => ?_)
      refine lv_iconst (v := 0) hx hb dX12_bestRate_28 (by decide) ?_
      refine lv_istore (lv' := [(4, .int (0 : Int32)), (3, .int (-1 : Int32)), (0, .ref (a_T 0)), (1, .int x1), (2, .int x2)]) hx hb dX12_bestRate_29 hl (by decide) rfl (fun ls hl => ?_)
      refine lv_iconst (v := 0) hx hb dX12_bestRate_31 (by decide) ?_
      refine lv_istore (lv' := [(5, .int (0 : Int32)), (4, .int (0 : Int32)), (3, .int (-1 : Int32)), (0, .ref (a_T 0)), (1, .int x1), (2, .int x2)]) hx hb dX12_bestRate_32 hl (by decide) rfl (fun ls hl => ?_)
      exact L34 fu hf hw (lv_sub hl [3, 4, 5, 2, 1, 0] rfl)
    · replace hf := tx_pos hf h_7
      refine lv_iconst (v := -1) hx hb dX12_bestRate_24 (by decide) ?_
      obtain ⟨e0, e1, e2⟩ := tx_in3 hf
      rw [← e0, ← e1, ← e2]
      exact tx_iret S hr hlk hw dX12_bestRate_25
def f_X12_worthless_J88 (fu : Nat) (K9 : S32 → S64 → Int32 → Int32 → Option (Int32 × S32 × S64)) (u_T : S32) (v_T : S64) (w1 : Int32) (w2 : Int32) : Option (Int32 × S32 × S64) := tx_let (w2 + (1 : Int32)) fun (y_26 : Int32) => K9 u_T v_T w1 y_26
def f_X12_worthless_J86 (fu : Nat) (K9 : S32 → S64 → Int32 → Int32 → Option (Int32 × S32 × S64)) (u_T : S32) (v_T : S64) (w2 : Int32) (t0 : Int32) (t1 : Int32) : Option (Int32 × S32 × S64) := tx_let (t0 ||| t1) fun (y_25 : Int32) => f_X12_worthless_J88 fu K9 u_T v_T y_25 w2
def f_X12_worthless_J9 (fu : Nat) (K9 : S32 → S64 → Int32 → Int32 → Option (Int32 × S32 × S64)) (u_T : S32) (v_T : S64) (w1 : Int32) (w2 : Int32) : Option (Int32 × S32 × S64) := if (u_T 0 13) ≤ w2 then (tx_b1 (f_X12_plainTried fu v_T u_T) fun (u_T_4 : S32) => some (w1, u_T_4, v_T)) else (tx_ck w2 24 <| if (u_T 50 w2.toNatClampNeg) = (0 : Int32) then (tx_ck w2 24 <| tx_let (u_T 26 w2.toNatClampNeg) fun (y_8 : Int32) => tx_b1 (f_X12_layTried fu v_T u_T) fun (u_T_10 : S32) => tx_b2 (f_X12_goMany fu u_T_10 v_T (20 : Int32)) fun (u_T_12 : S32) (v_T_13 : S64) => tx_b1 (f_X12_moreOf fu u_T_12 v_T_13 y_8) fun (r_15 : Int32) => tx_b1 (f_X12_layTried fu v_T_13 u_T_12) fun (u_T_17 : S32) => tx_let (up2 u_T_17 0 67 w2) fun (u_T_18 : S32) => tx_b2 (f_X12_goMany fu u_T_18 v_T_13 (20 : Int32)) fun (u_T_20 : S32) (v_T_21 : S64) => tx_b1 (f_X12_moreOf fu u_T_20 v_T_21 y_8) fun (r_23 : Int32) => if r_15 ≤ r_23 then (f_X12_worthless_J86 fu K9 u_T_20 v_T_21 w2 w1 (0 : Int32)) else (f_X12_worthless_J86 fu K9 u_T_20 v_T_21 w2 w1 ((1 : Int32) <<< (w2 &&& 31)))) else (f_X12_worthless_J88 fu K9 u_T v_T w1 w2))
def f_X12_worthless_L9 (fu : Nat) : Nat → S32 → S64 → Int32 → Int32 → Option (Int32 × S32 × S64)
  | 0 => fun _ _ _ _ => none
  | n + 1 => f_X12_worthless_J9 fu (f_X12_worthless_L9 fu n)
def f_X12_worthless (fu : Nat) (u_T : S32) (v_T : S64) : Option (Int32 × S32 × S64) := tx_let (up2 u_T 0 2 (0 : Int32)) fun (u_T_1 : S32) => f_X12_worthless_L9 fu fu u_T_1 v_T (0 : Int32) (0 : Int32)
set_option maxHeartbeats 4000000 in
set_option maxRecDepth 100000 in
theorem c_X12_worthless {l : Launch} {g : GG} {A : Nat → Prop} {X : va_W} {fu : Nat} {a_T : Nat → Nat} {u_T : S32} {v_T : S64} {r : Int32} {zu_T : S32} {zv_T : S64} (hf : f_X12_worthless fu  u_T v_T = some (r, zu_T, zv_T)) : MI l yX12_worthless cX12_worthless 5 (some .int) 9 g A (cl_X12 g a_T u_T v_T ++ X) [.ref (a_T 0)] r (cl_X12 g a_T zu_T zv_T ++ X) := by
  refine tx_start (av := [.ref (a_T 0)]) (by decide) (Nat.le_of_ble_eq_true rfl) ?_
  intro p e s m below meth c ls S hr hlk hE hw hl
  have S : CallFix p m c cX12_worthless 5 s (List.toArray [.ref (a_T 0)]) (Cond.code yX12_worthless cX12_worthless 5 (some .int) :: allW) RX12 := S
  have hx := S.1
  have hb := S.2.1
  have hown := S.2.2.2.1
  have hts : ∀ w ∈ allW, w.before (List.toArray [.ref (a_T 0)]) s = true := fun w h => S.2.2.2.2 w (List.mem_cons_of_mem _ h)
  have hl : lv_has ls 5 [(0, .ref (a_T 0))] := hl
  have J88 : ∀ {K9 : S32 → S64 → Int32 → Int32 → Option (Int32 × S32 × S64)} (hK9 : ∀ {u_T : S32} {v_T : S64} {w1 : Int32} {w2 : Int32} {H : Heap} {locs : List Loc} {ls : Array Slot}, K9 u_T v_T w1 w2 = some (r, zu_T, zv_T) → WD g A s.heap (cl_X12 g a_T u_T v_T ++ X) H locs → lv_has ls 5 [(0, .ref (a_T 0)), (1, .int w1), (2, .int w2)] → W p l e (rmH 9) s m (List.toArray [.ref (a_T 0)]) below meth c H locs 0 0 (MQ below (va_Qi (fun r2 (_ : Unit) => r2 = r) (fun _ t => POST g A (cl_X12 g a_T zu_T zv_T ++ X) t) A) (List.toArray [.ref (a_T 0)]) s 0 0 A) (F0 m 9 ls [])), ∀ {u_T : S32} {v_T : S64} {w1 : Int32} {w2 : Int32} {H : Heap} {locs : List Loc} {ls : Array Slot}, f_X12_worthless_J88 fu K9 u_T v_T w1 w2 = some (r, zu_T, zv_T) → WD g A s.heap (cl_X12 g a_T u_T v_T ++ X) H locs → lv_has ls 5 [(0, .ref (a_T 0)), (1, .int w1), (2, .int w2)] → W p l e (rmH 9) s m (List.toArray [.ref (a_T 0)]) below meth c H locs 0 0 (MQ below (va_Qi (fun r2 (_ : Unit) => r2 = r) (fun _ t => POST g A (cl_X12 g a_T zu_T zv_T ++ X) t) A) (List.toArray [.ref (a_T 0)]) s 0 0 A) (F0 m 88 ls []) := by
    intro K9 hK9 u_T v_T w1 w2 H locs ls hf hw hl
    unfold f_X12_worthless_J88 at hf
    obtain ⟨y_26, ey_26⟩ : ∃ y : Int32, y = w2 + (1 : Int32) := ⟨_, rfl⟩
    replace hf := tx_let_e hf ey_26
    refine lv_iinc (v := y_26) (lv' := [(2, .int y_26), (0, .ref (a_T 0)), (1, .int w1)]) hx hb dX12_worthless_88 hl (k := 2) rfl (by rw [ey_26]; rfl) (by decide) rfl (fun ls hl => ?_)
    refine lv_goto (tgt := 9) hx hb dX12_worthless_91 (by decide) ?_
    exact hK9 hf hw (lv_sub hl [1, 2, 0] rfl)
  have J86 : ∀ {K9 : S32 → S64 → Int32 → Int32 → Option (Int32 × S32 × S64)} (hK9 : ∀ {u_T : S32} {v_T : S64} {w1 : Int32} {w2 : Int32} {H : Heap} {locs : List Loc} {ls : Array Slot}, K9 u_T v_T w1 w2 = some (r, zu_T, zv_T) → WD g A s.heap (cl_X12 g a_T u_T v_T ++ X) H locs → lv_has ls 5 [(0, .ref (a_T 0)), (1, .int w1), (2, .int w2)] → W p l e (rmH 9) s m (List.toArray [.ref (a_T 0)]) below meth c H locs 0 0 (MQ below (va_Qi (fun r2 (_ : Unit) => r2 = r) (fun _ t => POST g A (cl_X12 g a_T zu_T zv_T ++ X) t) A) (List.toArray [.ref (a_T 0)]) s 0 0 A) (F0 m 9 ls [])), ∀ {u_T : S32} {v_T : S64} {w2 : Int32} {t0 : Int32} {t1 : Int32} {H : Heap} {locs : List Loc} {ls : Array Slot}, f_X12_worthless_J86 fu K9 u_T v_T w2 t0 t1 = some (r, zu_T, zv_T) → WD g A s.heap (cl_X12 g a_T u_T v_T ++ X) H locs → lv_has ls 5 [(0, .ref (a_T 0)), (2, .int w2)] → W p l e (rmH 9) s m (List.toArray [.ref (a_T 0)]) below meth c H locs 0 0 (MQ below (va_Qi (fun r2 (_ : Unit) => r2 = r) (fun _ t => POST g A (cl_X12 g a_T zu_T zv_T ++ X) t) A) (List.toArray [.ref (a_T 0)]) s 0 0 A) (F0 m 86 ls [.int t1, .int t0]) := by
    intro K9 hK9 u_T v_T w2 t0 t1 H locs ls hf hw hl
    unfold f_X12_worthless_J86 at hf
    refine lv_ior hx hb dX12_worthless_86 ?_
    refine lv_topi (fun y_25 ey_25 => ?_)
    replace hf := tx_let_e hf ey_25
    refine lv_istore_n (lv' := [(1, .int y_25), (0, .ref (a_T 0)), (2, .int w2)]) hx hb dX12_worthless_87 rfl hl (by decide) rfl (fun ls hl => ?_)
    exact J88 hK9 hf hw (lv_sub hl [1, 0, 2] rfl)
  have J9 : ∀ {K9 : S32 → S64 → Int32 → Int32 → Option (Int32 × S32 × S64)} (hK9 : ∀ {u_T : S32} {v_T : S64} {w1 : Int32} {w2 : Int32} {H : Heap} {locs : List Loc} {ls : Array Slot}, K9 u_T v_T w1 w2 = some (r, zu_T, zv_T) → WD g A s.heap (cl_X12 g a_T u_T v_T ++ X) H locs → lv_has ls 5 [(0, .ref (a_T 0)), (1, .int w1), (2, .int w2)] → W p l e (rmH 9) s m (List.toArray [.ref (a_T 0)]) below meth c H locs 0 0 (MQ below (va_Qi (fun r2 (_ : Unit) => r2 = r) (fun _ t => POST g A (cl_X12 g a_T zu_T zv_T ++ X) t) A) (List.toArray [.ref (a_T 0)]) s 0 0 A) (F0 m 9 ls [])), ∀ {u_T : S32} {v_T : S64} {w1 : Int32} {w2 : Int32} {H : Heap} {locs : List Loc} {ls : Array Slot}, f_X12_worthless_J9 fu K9 u_T v_T w1 w2 = some (r, zu_T, zv_T) → WD g A s.heap (cl_X12 g a_T u_T v_T ++ X) H locs → lv_has ls 5 [(0, .ref (a_T 0)), (1, .int w1), (2, .int w2)] → W p l e (rmH 9) s m (List.toArray [.ref (a_T 0)]) below meth c H locs 0 0 (MQ below (va_Qi (fun r2 (_ : Unit) => r2 = r) (fun _ t => POST g A (cl_X12 g a_T zu_T zv_T ++ X) t) A) (List.toArray [.ref (a_T 0)]) s 0 0 A) (F0 m 9 ls []) := by
    intro K9 hK9 u_T v_T w1 w2 H locs ls hf hw hl
    unfold f_X12_worthless_J9 at hf
    refine lv_iload_n hx hb dX12_worthless_9 rfl (lv_at hl 2 rfl) ?_
    refine lv_aload_n hx hb dX12_worthless_10 rfl (lv_at hl 0 rfl) ?_
    refine gf_X12_225 S hE hw 0 rfl rfl dX12_worthless_11 ?_
    refine lv_icmp_ge (tgt := 94) hx hb dX12_worthless_14 (by decide) (fun h_2 => ?_) (fun h_2 => ?_)
    · replace hf := tx_pos hf h_2
      refine lv_aload_n hx hb dX12_worthless_94 rfl (lv_at hl 0 rfl) ?_
      obtain ⟨u_T_4, h_3, hf⟩ := tx_b1_e hf
      refine tx_cv hw (tx_runV S hE hw (c_X12_plainTried h_3) lk_X12_344 (q0 := 0) rfl rfl rfl hl.1 (rest := []) rfl (Nat.le_of_ble_eq_true rfl) ⟨by decide, by decide⟩ dX12_worthless_95 ⟨Nat.zero_le _, Nat.zero_le _⟩) (fun H locs hw => ?_)
      refine lv_iload_n hx hb dX12_worthless_98 rfl (lv_at hl 1 rfl) ?_
      obtain ⟨e0, e1, e2⟩ := tx_in3 hf
      rw [← e0, ← e1, ← e2]
      exact tx_iret S hr hlk hw dX12_worthless_99
    · replace hf := tx_neg hf h_2
      refine lv_aload_n hx hb dX12_worthless_17 rfl (lv_at hl 0 rfl) ?_
      refine gf_X12_88 S hE hw 0 rfl rfl dX12_worthless_18 ?_
      refine lv_iload_n hx hb dX12_worthless_21 rfl (lv_at hl 2 rfl) ?_
      obtain ⟨h_5, hf⟩ := tx_ck_e hf
      refine tx_iald S hE hw 25 rfl h_5 dX12_worthless_22 ?_
      refine lv_if_eq (tgt := 29) hx hb dX12_worthless_23 (by decide) (fun h_6 => ?_) (fun h_6 => ?_)
      · replace hf := tx_pos hf h_6
        refine lv_aload_n hx hb dX12_worthless_29 rfl (lv_at hl 0 rfl) ?_
        refine gf_X12_36 S hE hw 0 rfl rfl dX12_worthless_30 ?_
        refine lv_iload_n hx hb dX12_worthless_33 rfl (lv_at hl 2 rfl) ?_
        obtain ⟨h_7, hf⟩ := tx_ck_e hf
        refine tx_iald S hE hw 8 rfl h_7 dX12_worthless_34 ?_
        refine lv_topi (fun y_8 ey_8 => ?_)
        replace hf := tx_let_e hf ey_8
        refine lv_istore_n (lv' := [(3, .int y_8), (0, .ref (a_T 0)), (1, .int w1), (2, .int w2)]) hx hb dX12_worthless_35 rfl hl (by decide) rfl (fun ls hl => ?_)
        refine lv_aload_n hx hb dX12_worthless_36 rfl (lv_at hl 1 rfl) ?_
        obtain ⟨u_T_10, h_9, hf⟩ := tx_b1_e hf
        refine tx_cv hw (tx_runV S hE hw (c_X12_layTried h_9) lk_X12_474 (q0 := 0) rfl rfl rfl hl.1 (rest := []) rfl (Nat.le_of_ble_eq_true rfl) ⟨by decide, by decide⟩ dX12_worthless_37 ⟨Nat.zero_le _, Nat.zero_le _⟩) (fun H locs hw => ?_)
        refine lv_aload_n hx hb dX12_worthless_40 rfl (lv_at hl 1 rfl) ?_
        refine lv_bipush (v := 20) hx hb dX12_worthless_41 (by decide) ?_
        obtain ⟨u_T_12, v_T_13, h_11, hf⟩ := tx_b2_e hf
        refine tx_cv hw (tx_runV S hE hw (c_X12_goMany h_11) lk_X12_477 (q0 := 0) rfl rfl rfl hl.1 (rest := []) rfl (Nat.le_of_ble_eq_true rfl) ⟨by decide, by decide⟩ dX12_worthless_43 ⟨Nat.zero_le _, Nat.zero_le _⟩) (fun H locs hw => ?_)
        refine lv_aload_n hx hb dX12_worthless_46 rfl (lv_at hl 1 rfl) ?_
        refine lv_iload_n hx hb dX12_worthless_47 rfl (lv_at hl 0 rfl) ?_
        obtain ⟨r_15, h_14, hf⟩ := tx_b1_e hf
        refine tx_ci hw (tx_runV S hE hw (c_X12_moreOf h_14) lk_X12_489 (q0 := 0) rfl rfl rfl hl.1 (rest := []) rfl (Nat.le_of_ble_eq_true rfl) ⟨by decide, by decide⟩ dX12_worthless_48 ⟨Nat.zero_le _, Nat.zero_le _⟩) (fun H locs hw => ?_)
        refine lv_istore (lv' := [(4, .int r_15), (3, .int y_8), (0, .ref (a_T 0)), (1, .int w1), (2, .int w2)]) hx hb dX12_worthless_51 hl (by decide) rfl (fun ls hl => ?_)
        refine lv_aload_n hx hb dX12_worthless_53 rfl (lv_at hl 2 rfl) ?_
        obtain ⟨u_T_17, h_16, hf⟩ := tx_b1_e hf
        refine tx_cv hw (tx_runV S hE hw (c_X12_layTried h_16) lk_X12_474 (q0 := 0) rfl rfl rfl hl.1 (rest := []) rfl (Nat.le_of_ble_eq_true rfl) ⟨by decide, by decide⟩ dX12_worthless_54 ⟨Nat.zero_le _, Nat.zero_le _⟩) (fun H locs hw => ?_)
        refine lv_aload_n hx hb dX12_worthless_57 rfl (lv_at hl 2 rfl) ?_
        refine lv_iload_n hx hb dX12_worthless_58 rfl (lv_at hl 4 rfl) ?_
        obtain ⟨u_T_18, eu_T_18⟩ : ∃ z : S32, z = up2 u_T_17 0 67 w2 := ⟨_, rfl⟩
        replace hf := tx_let_e hf eu_T_18
        refine pf_X12_374 (ws' := cl_X12 g a_T u_T_18 v_T_13 ++ X) S hE hw rfl rfl 0 rfl (Nat.le_of_ble_eq_true rfl) (by rw [eu_T_18]; rfl) dX12_worthless_59 (fun H locs hw => ?_)
        refine lv_aload_n hx hb dX12_worthless_62 rfl (lv_at hl 2 rfl) ?_
        refine lv_bipush (v := 20) hx hb dX12_worthless_63 (by decide) ?_
        obtain ⟨u_T_20, v_T_21, h_19, hf⟩ := tx_b2_e hf
        refine tx_cv hw (tx_runV S hE hw (c_X12_goMany h_19) lk_X12_477 (q0 := 0) rfl rfl rfl hl.1 (rest := []) rfl (Nat.le_of_ble_eq_true rfl) ⟨by decide, by decide⟩ dX12_worthless_65 ⟨Nat.zero_le _, Nat.zero_le _⟩) (fun H locs hw => ?_)
        refine lv_iload_n hx hb dX12_worthless_68 rfl (lv_at hl 3 rfl) ?_
        refine lv_aload_n hx hb dX12_worthless_69 rfl (lv_at hl 2 rfl) ?_
        refine lv_iload_n hx hb dX12_worthless_70 rfl (lv_at hl 1 rfl) ?_
        obtain ⟨r_23, h_22, hf⟩ := tx_b1_e hf
        refine tx_ci hw (tx_runV S hE hw (c_X12_moreOf h_22) lk_X12_489 (q0 := 0) rfl rfl rfl hl.1 (rest := [.int w1]) rfl (Nat.le_of_ble_eq_true rfl) ⟨by decide, by decide⟩ dX12_worthless_71 ⟨Nat.zero_le _, Nat.zero_le _⟩) (fun H locs hw => ?_)
        refine lv_iload hx hb dX12_worthless_74 (lv_at hl 0 rfl) ?_
        refine lv_icmp_ge (tgt := 85) hx hb dX12_worthless_76 (by decide) (fun h_24 => ?_) (fun h_24 => ?_)
        · replace hf := tx_pos hf h_24
          refine lv_iconst (v := 0) hx hb dX12_worthless_85 (by decide) ?_
          exact J86 hK9 hf hw (lv_sub hl [2, 4] rfl)
        · replace hf := tx_neg hf h_24
          refine lv_iconst (v := 1) hx hb dX12_worthless_79 (by decide) ?_
          refine lv_iload_n hx hb dX12_worthless_80 rfl (lv_at hl 4 rfl) ?_
          refine lv_ishl hx hb dX12_worthless_81 ?_
          refine lv_goto (tgt := 86) hx hb dX12_worthless_82 (by decide) ?_
          exact J86 hK9 hf hw (lv_sub hl [2, 4] rfl)
      · replace hf := tx_neg hf h_6
        refine lv_goto (tgt := 88) hx hb dX12_worthless_26 (by decide) ?_
        exact J88 hK9 hf hw (lv_sub hl [0, 1, 2] rfl)
  have L9 : ∀ (n : Nat), ∀ {u_T : S32} {v_T : S64} {w1 : Int32} {w2 : Int32} {H : Heap} {locs : List Loc} {ls : Array Slot}, f_X12_worthless_L9 fu n u_T v_T w1 w2 = some (r, zu_T, zv_T) → WD g A s.heap (cl_X12 g a_T u_T v_T ++ X) H locs → lv_has ls 5 [(0, .ref (a_T 0)), (1, .int w1), (2, .int w2)] → W p l e (rmH 9) s m (List.toArray [.ref (a_T 0)]) below meth c H locs 0 0 (MQ below (va_Qi (fun r2 (_ : Unit) => r2 = r) (fun _ t => POST g A (cl_X12 g a_T zu_T zv_T ++ X) t) A) (List.toArray [.ref (a_T 0)]) s 0 0 A) (F0 m 9 ls []) := by
    intro  n
    induction n with
    | zero => intro u_T v_T w1 w2 H locs ls hf; exact absurd hf (by intro q; cases q)
    | succ n ih => exact fun hf hw hl => J9 ih hf hw hl
  unfold f_X12_worthless at hf
  refine lv_aload_n hx hb dX12_worthless_0 rfl (lv_at hl 0 rfl) ?_
  refine lv_iconst (v := 0) hx hb dX12_worthless_1 (by decide) ?_
  obtain ⟨u_T_1, eu_T_1⟩ : ∃ z : S32, z = up2 u_T 0 2 (0 : Int32) := ⟨_, rfl⟩
  replace hf := tx_let_e hf eu_T_1
  refine pf_X12_145 (ws' := cl_X12 g a_T u_T_1 v_T ++ X) S hE hw rfl rfl 0 rfl (Nat.le_of_ble_eq_true rfl) (by rw [eu_T_1]; rfl) dX12_worthless_2 (fun H locs hw => ?_)
  refine lv_iconst (v := 0) hx hb dX12_worthless_5 (by decide) ?_
  refine lv_istore_n (lv' := [(1, .int (0 : Int32)), (0, .ref (a_T 0))]) hx hb dX12_worthless_6 rfl hl (by decide) rfl (fun ls hl => ?_)
  refine lv_iconst (v := 0) hx hb dX12_worthless_7 (by decide) ?_
  refine lv_istore_n (lv' := [(2, .int (0 : Int32)), (1, .int (0 : Int32)), (0, .ref (a_T 0))]) hx hb dX12_worthless_8 rfl hl (by decide) rfl (fun ls hl => ?_)
  exact L9 fu hf hw (lv_sub hl [2, 1, 0] rfl)
def f_X12_share_J77 (fu : Nat) (v_T : S64) (u_T : S32) (w3 : Int32) (w4 : Int32) (w5 : Int32) (t0 : Int32) : Option (Int32 × S32) := tx_let ((t0 * (u_T 58 (0 : Int32).toNatClampNeg)) / (100 : Int32)) fun (y_19 : Int32) => tx_nz (w4 + w5) <| tx_let ((y_19 * w4) / (w4 + w5)) fun (y_21 : Int32) => if w3 = (0 : Int32) then (some (y_21, u_T)) else (some (y_19 - y_21, u_T))
def f_X12_share (fu : Nat) (v_T : S64) (u_T : S32) (x1 : Int32) (x2 : Int32) (x3 : Int32) : Option (Int32 × S32) := tx_let (up2 u_T 0 2 (0 : Int32)) fun (u_T_1 : S32) => tx_b1 (f_X12_isThought fu u_T_1 v_T x1) fun (r_3 : Int32) => if r_3 = (0 : Int32) then (some ((-1 : Int32), u_T_1)) else (tx_b1 (f_X12_isThought fu u_T_1 v_T x2) fun (r_6 : Int32) => if r_6 = (0 : Int32) then (some ((-1 : Int32), u_T_1)) else (tx_ck x1 24 <| tx_ck x2 24 <| if (u_T_1 26 x1.toNatClampNeg) = (u_T_1 26 x2.toNatClampNeg) then (some ((-1 : Int32), u_T_1)) else (tx_b1 (f_X12_isIn fu x3 (0 : Int32) (1 : Int32)) fun (r_12 : Int32) => if r_12 = (0 : Int32) then (some ((-1 : Int32), u_T_1)) else (tx_ck x1 24 <| tx_let (u_T_1 27 x1.toNatClampNeg) fun (y_15 : Int32) => tx_ck x2 24 <| tx_let (u_T_1 27 x2.toNatClampNeg) fun (y_17 : Int32) => if y_15 ≤ y_17 then (f_X12_share_J77 fu v_T u_T_1 x3 y_15 y_17 y_17) else (f_X12_share_J77 fu v_T u_T_1 x3 y_15 y_17 y_15)))))
set_option maxHeartbeats 4000000 in
set_option maxRecDepth 100000 in
theorem c_X12_share {l : Launch} {g : GG} {A : Nat → Prop} {X : va_W} {fu : Nat} {a_T : Nat → Nat} {u_T : S32} {v_T : S64} {x1 : Int32} {x2 : Int32} {x3 : Int32} {r : Int32} {zu_T : S32} (hf : f_X12_share fu v_T u_T x1 x2 x3 = some (r, zu_T)) : MI l yX12_share cX12_share 8 (some .int) 1 g A (cl_X12 g a_T u_T v_T ++ X) [.ref (a_T 0), .int x1, .int x2, .int x3] r (cl_X12 g a_T zu_T v_T ++ X) := by
  refine tx_start (av := [.ref (a_T 0), .int x1, .int x2, .int x3]) (by decide) (Nat.le_of_ble_eq_true rfl) ?_
  intro p e s m below meth c ls S hr hlk hE hw hl
  have S : CallFix p m c cX12_share 8 s (List.toArray [.ref (a_T 0), .int x1, .int x2, .int x3]) (Cond.code yX12_share cX12_share 8 (some .int) :: allW) RX12 := S
  have hx := S.1
  have hb := S.2.1
  have hown := S.2.2.2.1
  have hts : ∀ w ∈ allW, w.before (List.toArray [.ref (a_T 0), .int x1, .int x2, .int x3]) s = true := fun w h => S.2.2.2.2 w (List.mem_cons_of_mem _ h)
  have hl : lv_has ls 8 [(0, .ref (a_T 0)), (1, .int x1), (2, .int x2), (3, .int x3)] := hl
  have J77 : ∀ {u_T : S32} {w3 : Int32} {w4 : Int32} {w5 : Int32} {t0 : Int32} {H : Heap} {locs : List Loc} {ls : Array Slot}, f_X12_share_J77 fu v_T u_T w3 w4 w5 t0 = some (r, zu_T) → WD g A s.heap (cl_X12 g a_T u_T v_T ++ X) H locs → lv_has ls 8 [(0, .ref (a_T 0)), (3, .int w3), (4, .int w4), (5, .int w5)] → W p l e (rmH 1) s m (List.toArray [.ref (a_T 0), .int x1, .int x2, .int x3]) below meth c H locs 0 0 (MQ below (va_Qi (fun r2 (_ : Unit) => r2 = r) (fun _ t => POST g A (cl_X12 g a_T zu_T v_T ++ X) t) A) (List.toArray [.ref (a_T 0), .int x1, .int x2, .int x3]) s 0 0 A) (F0 m 77 ls [.int t0]) := by
    intro u_T w3 w4 w5 t0 H locs ls hf hw hl
    unfold f_X12_share_J77 at hf
    refine lv_aload_n hx hb dX12_share_77 rfl (lv_at hl 0 rfl) ?_
    refine gf_X12_112 S hE hw 0 rfl rfl dX12_share_78 ?_
    refine lv_iconst (v := 0) hx hb dX12_share_81 (by decide) ?_
    refine tx_iald S hE hw 33 rfl (by unfold vp_in; decide) dX12_share_82 ?_
    refine lv_imul hx hb dX12_share_83 ?_
    refine lv_bipush (v := 100) hx hb dX12_share_84 (by decide) ?_
    refine lv_idiv hx hb dX12_share_86 (by decide) ?_
    refine lv_topi (fun y_19 ey_19 => ?_)
    replace hf := tx_let_e hf ey_19
    refine lv_istore (lv' := [(6, .int y_19), (0, .ref (a_T 0)), (3, .int w3), (4, .int w4), (5, .int w5)]) hx hb dX12_share_87 hl (by decide) rfl (fun ls hl => ?_)
    refine lv_iload hx hb dX12_share_89 (lv_at hl 0 rfl) ?_
    refine lv_iload hx hb dX12_share_91 (lv_at hl 3 rfl) ?_
    refine lv_imul hx hb dX12_share_93 ?_
    refine lv_iload hx hb dX12_share_94 (lv_at hl 3 rfl) ?_
    refine lv_iload hx hb dX12_share_96 (lv_at hl 4 rfl) ?_
    refine lv_iadd hx hb dX12_share_98 ?_
    obtain ⟨h_20, hf⟩ := tx_nz_e hf
    refine lv_idiv hx hb dX12_share_99 h_20 ?_
    refine lv_topi (fun y_21 ey_21 => ?_)
    replace hf := tx_let_e hf ey_21
    refine lv_istore (lv' := [(7, .int y_21), (6, .int y_19), (0, .ref (a_T 0)), (3, .int w3), (4, .int w4), (5, .int w5)]) hx hb dX12_share_100 hl (by decide) rfl (fun ls hl => ?_)
    refine lv_iload_n hx hb dX12_share_102 rfl (lv_at hl 3 rfl) ?_
    refine lv_if_ne (tgt := 111) hx hb dX12_share_103 (by decide) (fun h_22 => ?_) (fun h_22 => ?_)
    · replace hf := tx_neg hf h_22
      refine lv_iload hx hb dX12_share_111 (lv_at hl 1 rfl) ?_
      refine lv_iload hx hb dX12_share_113 (lv_at hl 0 rfl) ?_
      refine lv_isub hx hb dX12_share_115 ?_
      obtain ⟨e0, e1⟩ := tx_in2 hf
      rw [← e0, ← e1]
      exact tx_iret S hr hlk hw dX12_share_116
    · replace hf := tx_pos hf h_22
      refine lv_iload hx hb dX12_share_106 (lv_at hl 0 rfl) ?_
      refine lv_goto (tgt := 116) hx hb dX12_share_108 (by decide) ?_
      obtain ⟨e0, e1⟩ := tx_in2 hf
      rw [← e0, ← e1]
      exact tx_iret S hr hlk hw dX12_share_116
  unfold f_X12_share at hf
  refine lv_aload_n hx hb dX12_share_0 rfl (lv_at hl 0 rfl) ?_
  refine lv_iconst (v := 0) hx hb dX12_share_1 (by decide) ?_
  obtain ⟨u_T_1, eu_T_1⟩ : ∃ z : S32, z = up2 u_T 0 2 (0 : Int32) := ⟨_, rfl⟩
  replace hf := tx_let_e hf eu_T_1
  refine pf_X12_145 (ws' := cl_X12 g a_T u_T_1 v_T ++ X) S hE hw rfl rfl 0 rfl (Nat.le_of_ble_eq_true rfl) (by rw [eu_T_1]; rfl) dX12_share_2 (fun H locs hw => ?_)
  refine lv_aload_n hx hb dX12_share_5 rfl (lv_at hl 0 rfl) ?_
  refine lv_iload_n hx hb dX12_share_6 rfl (lv_at hl 1 rfl) ?_
  obtain ⟨r_3, h_2, hf⟩ := tx_b1_e hf
  refine tx_ci hw (tx_runV S hE hw (c_X12_isThought h_2) lk_X12_454 (q0 := 0) rfl rfl rfl hl.1 (rest := []) rfl (Nat.le_of_ble_eq_true rfl) ⟨by decide, by decide⟩ dX12_share_7 ⟨Nat.zero_le _, Nat.zero_le _⟩) (fun H locs hw => ?_)
  refine lv_if_eq (tgt := 45) hx hb dX12_share_10 (by decide) (fun h_4 => ?_) (fun h_4 => ?_)
  · replace hf := tx_pos hf h_4
    refine lv_iconst (v := -1) hx hb dX12_share_45 (by decide) ?_
    obtain ⟨e0, e1⟩ := tx_in2 hf
    rw [← e0, ← e1]
    exact tx_iret S hr hlk hw dX12_share_46
  · replace hf := tx_neg hf h_4
    refine lv_aload_n hx hb dX12_share_13 rfl (lv_at hl 0 rfl) ?_
    refine lv_iload_n hx hb dX12_share_14 rfl (lv_at hl 2 rfl) ?_
    obtain ⟨r_6, h_5, hf⟩ := tx_b1_e hf
    refine tx_ci hw (tx_runV S hE hw (c_X12_isThought h_5) lk_X12_454 (q0 := 0) rfl rfl rfl hl.1 (rest := []) rfl (Nat.le_of_ble_eq_true rfl) ⟨by decide, by decide⟩ dX12_share_15 ⟨Nat.zero_le _, Nat.zero_le _⟩) (fun H locs hw => ?_)
    refine lv_if_eq (tgt := 45) hx hb dX12_share_18 (by decide) (fun h_7 => ?_) (fun h_7 => ?_)
    · replace hf := tx_pos hf h_7
      refine lv_iconst (v := -1) hx hb dX12_share_45 (by decide) ?_
      obtain ⟨e0, e1⟩ := tx_in2 hf
      rw [← e0, ← e1]
      exact tx_iret S hr hlk hw dX12_share_46
    · replace hf := tx_neg hf h_7
      refine lv_aload_n hx hb dX12_share_21 rfl (lv_at hl 0 rfl) ?_
      refine gf_X12_36 S hE hw 0 rfl rfl dX12_share_22 ?_
      refine lv_iload_n hx hb dX12_share_25 rfl (lv_at hl 1 rfl) ?_
      obtain ⟨h_8, hf⟩ := tx_ck_e hf
      refine tx_iald S hE hw 8 rfl h_8 dX12_share_26 ?_
      refine lv_aload_n hx hb dX12_share_27 rfl (lv_at hl 0 rfl) ?_
      refine gf_X12_36 S hE hw 0 rfl rfl dX12_share_28 ?_
      refine lv_iload_n hx hb dX12_share_31 rfl (lv_at hl 2 rfl) ?_
      obtain ⟨h_9, hf⟩ := tx_ck_e hf
      refine tx_iald S hE hw 8 rfl h_9 dX12_share_32 ?_
      refine lv_icmp_eq (tgt := 45) hx hb dX12_share_33 (by decide) (fun h_10 => ?_) (fun h_10 => ?_)
      · replace hf := tx_pos hf h_10
        refine lv_iconst (v := -1) hx hb dX12_share_45 (by decide) ?_
        obtain ⟨e0, e1⟩ := tx_in2 hf
        rw [← e0, ← e1]
        exact tx_iret S hr hlk hw dX12_share_46
      · replace hf := tx_neg hf h_10
        refine lv_iload_n hx hb dX12_share_36 rfl (lv_at hl 3 rfl) ?_
        refine lv_iconst (v := 0) hx hb dX12_share_37 (by decide) ?_
        refine lv_iconst (v := 1) hx hb dX12_share_38 (by decide) ?_
        obtain ⟨r_12, h_11, hf⟩ := tx_b1_e hf
        refine tx_ci hw (tx_runS S hE hw (c_X12_isIn h_11) lk_X12_190 rfl hl.1 (rest := []) rfl (Nat.le_of_ble_eq_true rfl) ⟨by decide, by decide⟩ dX12_share_39 ⟨Nat.zero_le _, Nat.zero_le _⟩) (fun H locs hw => ?_)
        refine lv_if_ne (tgt := 47) hx hb dX12_share_42 (by decide) (fun h_13 => ?_) (fun h_13 => ?_)
        · replace hf := tx_neg hf h_13
          refine lv_aload_n hx hb dX12_share_47 rfl (lv_at hl 0 rfl) ?_
          refine gf_X12_39 S hE hw 0 rfl rfl dX12_share_48 ?_
          refine lv_iload_n hx hb dX12_share_51 rfl (lv_at hl 1 rfl) ?_
          obtain ⟨h_14, hf⟩ := tx_ck_e hf
          refine tx_iald S hE hw 9 rfl h_14 dX12_share_52 ?_
          refine lv_topi (fun y_15 ey_15 => ?_)
          replace hf := tx_let_e hf ey_15
          refine lv_istore (lv' := [(4, .int y_15), (0, .ref (a_T 0)), (1, .int x1), (2, .int x2), (3, .int x3)]) hx hb dX12_share_53 hl (by decide) rfl (fun ls hl => ?_)
          refine lv_aload_n hx hb dX12_share_55 rfl (lv_at hl 1 rfl) ?_
          refine gf_X12_39 S hE hw 0 rfl rfl dX12_share_56 ?_
          refine lv_iload_n hx hb dX12_share_59 rfl (lv_at hl 3 rfl) ?_
          obtain ⟨h_16, hf⟩ := tx_ck_e hf
          refine tx_iald S hE hw 9 rfl h_16 dX12_share_60 ?_
          refine lv_topi (fun y_17 ey_17 => ?_)
          replace hf := tx_let_e hf ey_17
          refine lv_istore (lv' := [(5, .int y_17), (4, .int y_15), (0, .ref (a_T 0)), (1, .int x1), (2, .int x2), (3, .int x3)]) hx hb dX12_share_61 hl (by decide) rfl (fun ls hl => ?_)
          refine lv_iload hx hb dX12_share_63 (lv_at hl 1 rfl) ?_
          refine lv_iload hx hb dX12_share_65 (lv_at hl 0 rfl) ?_
          refine lv_icmp_le (tgt := 75) hx hb dX12_share_67 (by decide) (fun h_18 => ?_) (fun h_18 => ?_)
          · replace hf := tx_pos hf h_18
            refine lv_iload hx hb dX12_share_75 (lv_at hl 0 rfl) ?_
            exact J77 hf hw (lv_sub hl [2, 5, 1, 0] rfl)
          · replace hf := tx_neg hf h_18
            refine lv_iload hx hb dX12_share_70 (lv_at hl 1 rfl) ?_
            refine lv_goto (tgt := 77) hx hb dX12_share_72 (by decide) ?_
            exact J77 hf hw (lv_sub hl [2, 5, 1, 0] rfl)
        · replace hf := tx_pos hf h_13
          refine lv_iconst (v := -1) hx hb dX12_share_45 (by decide) ?_
          obtain ⟨e0, e1⟩ := tx_in2 hf
          rw [← e0, ← e1]
          exact tx_iret S hr hlk hw dX12_share_46
def f_X12_chain_J74 (fu : Nat) (v_T : S64) (K26 : S32 → Int32 → Int32 → Int32 → Option (Int32 × S32)) (K35 : S32 → Int32 → Int32 → Int32 → Int32 → Option (Int32 × S32)) (u_T : S32) (w1 : Int32) (w3 : Int32) (w4 : Int32) (t0 : Int32) : Option (Int32 × S32) := tx_let (w4 + (1 : Int32)) fun (y_12 : Int32) => K35 u_T w1 t0 w3 y_12
def f_X12_chain_J73 (fu : Nat) (v_T : S64) (K26 : S32 → Int32 → Int32 → Int32 → Option (Int32 × S32)) (K35 : S32 → Int32 → Int32 → Int32 → Int32 → Option (Int32 × S32)) (u_T : S32) (w1 : Int32) (w2 : Int32) (w3 : Int32) (w4 : Int32) : Option (Int32 × S32) := f_X12_chain_J74 fu v_T K26 K35 u_T w1 w3 w4 w2
def f_X12_chain_J35 (fu : Nat) (v_T : S64) (K26 : S32 → Int32 → Int32 → Int32 → Option (Int32 × S32)) (K35 : S32 → Int32 → Int32 → Int32 → Int32 → Option (Int32 × S32)) (u_T : S32) (w1 : Int32) (w2 : Int32) (w3 : Int32) (w4 : Int32) : Option (Int32 × S32) := if (u_T 0 14) ≤ w4 then (tx_let (w3 + (1 : Int32)) fun (y_6 : Int32) => K26 u_T w1 w2 y_6) else (tx_b1 (f_X12_isOf fu w1 w4) fun (r_8 : Int32) => if r_8 = (0 : Int32) then (f_X12_chain_J73 fu v_T K26 K35 u_T w1 w2 w3 w4) else (tx_ck w4 8 <| if (u_T 31 w4.toNatClampNeg) = w3 then (f_X12_chain_J74 fu v_T K26 K35 u_T w1 w3 w4 ((w2 * w3) / (10 : Int32))) else (f_X12_chain_J73 fu v_T K26 K35 u_T w1 w2 w3 w4)))
def f_X12_chain_L35 (fu : Nat) (v_T : S64) (K26 : S32 → Int32 → Int32 → Int32 → Option (Int32 × S32)) : Nat → S32 → Int32 → Int32 → Int32 → Int32 → Option (Int32 × S32)
  | 0 => fun _ _ _ _ _ => none
  | n + 1 => f_X12_chain_J35 fu v_T K26 (f_X12_chain_L35 fu v_T K26 n)
def f_X12_chain_J26 (fu : Nat) (v_T : S64) (K26 : S32 → Int32 → Int32 → Int32 → Option (Int32 × S32)) (u_T : S32) (w1 : Int32) (w2 : Int32) (w3 : Int32) : Option (Int32 × S32) := if (10 : Int32) ≤ w3 then (some (w2, u_T)) else (f_X12_chain_L35 fu v_T K26 fu u_T w1 w2 w3 (0 : Int32))
def f_X12_chain_L26 (fu : Nat) (v_T : S64) : Nat → S32 → Int32 → Int32 → Int32 → Option (Int32 × S32)
  | 0 => fun _ _ _ _ => none
  | n + 1 => f_X12_chain_J26 fu v_T (f_X12_chain_L26 fu v_T n)
def f_X12_chain (fu : Nat) (v_T : S64) (u_T : S32) (x1 : Int32) : Option (Int32 × S32) := tx_let (up2 u_T 0 2 (0 : Int32)) fun (u_T_1 : S32) => if x1 < (0 : Int32) then (some ((-1 : Int32), u_T_1)) else (if x1 < ((1 : Int32) <<< ((u_T_1 0 14) &&& 31)) then (f_X12_chain_L26 fu v_T fu u_T_1 x1 (100 : Int32) (0 : Int32)) else (some ((-1 : Int32), u_T_1)))
set_option maxHeartbeats 4000000 in
set_option maxRecDepth 100000 in
theorem c_X12_chain {l : Launch} {g : GG} {A : Nat → Prop} {X : va_W} {fu : Nat} {a_T : Nat → Nat} {u_T : S32} {v_T : S64} {x1 : Int32} {r : Int32} {zu_T : S32} (hf : f_X12_chain fu v_T u_T x1 = some (r, zu_T)) : MI l yX12_chain cX12_chain 5 (some .int) 1 g A (cl_X12 g a_T u_T v_T ++ X) [.ref (a_T 0), .int x1] r (cl_X12 g a_T zu_T v_T ++ X) := by
  refine tx_start (av := [.ref (a_T 0), .int x1]) (by decide) (Nat.le_of_ble_eq_true rfl) ?_
  intro p e s m below meth c ls S hr hlk hE hw hl
  have S : CallFix p m c cX12_chain 5 s (List.toArray [.ref (a_T 0), .int x1]) (Cond.code yX12_chain cX12_chain 5 (some .int) :: allW) RX12 := S
  have hx := S.1
  have hb := S.2.1
  have hown := S.2.2.2.1
  have hts : ∀ w ∈ allW, w.before (List.toArray [.ref (a_T 0), .int x1]) s = true := fun w h => S.2.2.2.2 w (List.mem_cons_of_mem _ h)
  have hl : lv_has ls 5 [(0, .ref (a_T 0)), (1, .int x1)] := hl
  have J74 : ∀ {K26 : S32 → Int32 → Int32 → Int32 → Option (Int32 × S32)} (hK26 : ∀ {u_T : S32} {w1 : Int32} {w2 : Int32} {w3 : Int32} {H : Heap} {locs : List Loc} {ls : Array Slot}, K26 u_T w1 w2 w3 = some (r, zu_T) → WD g A s.heap (cl_X12 g a_T u_T v_T ++ X) H locs → lv_has ls 5 [(0, .ref (a_T 0)), (1, .int w1), (2, .int w2), (3, .int w3)] → W p l e (rmH 1) s m (List.toArray [.ref (a_T 0), .int x1]) below meth c H locs 0 0 (MQ below (va_Qi (fun r2 (_ : Unit) => r2 = r) (fun _ t => POST g A (cl_X12 g a_T zu_T v_T ++ X) t) A) (List.toArray [.ref (a_T 0), .int x1]) s 0 0 A) (F0 m 26 ls [])) {K35 : S32 → Int32 → Int32 → Int32 → Int32 → Option (Int32 × S32)} (hK35 : ∀ {u_T : S32} {w1 : Int32} {w2 : Int32} {w3 : Int32} {w4 : Int32} {H : Heap} {locs : List Loc} {ls : Array Slot}, K35 u_T w1 w2 w3 w4 = some (r, zu_T) → WD g A s.heap (cl_X12 g a_T u_T v_T ++ X) H locs → lv_has ls 5 [(0, .ref (a_T 0)), (1, .int w1), (2, .int w2), (3, .int w3), (4, .int w4)] → W p l e (rmH 1) s m (List.toArray [.ref (a_T 0), .int x1]) below meth c H locs 0 0 (MQ below (va_Qi (fun r2 (_ : Unit) => r2 = r) (fun _ t => POST g A (cl_X12 g a_T zu_T v_T ++ X) t) A) (List.toArray [.ref (a_T 0), .int x1]) s 0 0 A) (F0 m 35 ls [])), ∀ {u_T : S32} {w1 : Int32} {w3 : Int32} {w4 : Int32} {t0 : Int32} {H : Heap} {locs : List Loc} {ls : Array Slot}, f_X12_chain_J74 fu v_T K26 K35 u_T w1 w3 w4 t0 = some (r, zu_T) → WD g A s.heap (cl_X12 g a_T u_T v_T ++ X) H locs → lv_has ls 5 [(0, .ref (a_T 0)), (1, .int w1), (3, .int w3), (4, .int w4)] → W p l e (rmH 1) s m (List.toArray [.ref (a_T 0), .int x1]) below meth c H locs 0 0 (MQ below (va_Qi (fun r2 (_ : Unit) => r2 = r) (fun _ t => POST g A (cl_X12 g a_T zu_T v_T ++ X) t) A) (List.toArray [.ref (a_T 0), .int x1]) s 0 0 A) (F0 m 74 ls [.int t0]) := by
    intro K26 hK26 K35 hK35 u_T w1 w3 w4 t0 H locs ls hf hw hl
    unfold f_X12_chain_J74 at hf
    refine lv_istore_n (lv' := [(2, .int t0), (0, .ref (a_T 0)), (1, .int w1), (3, .int w3), (4, .int w4)]) hx hb dX12_chain_74 rfl hl (by decide) rfl (fun ls hl => ?_)
    obtain ⟨y_12, ey_12⟩ : ∃ y : Int32, y = w4 + (1 : Int32) := ⟨_, rfl⟩
    replace hf := tx_let_e hf ey_12
    refine lv_iinc (v := y_12) (lv' := [(4, .int y_12), (2, .int t0), (0, .ref (a_T 0)), (1, .int w1), (3, .int w3)]) hx hb dX12_chain_75 hl (k := 4) rfl (by rw [ey_12]; rfl) (by decide) rfl (fun ls hl => ?_)
    refine lv_goto (tgt := 35) hx hb dX12_chain_78 (by decide) ?_
    exact hK35 hf hw (lv_sub hl [2, 3, 1, 4, 0] rfl)
  have J73 : ∀ {K26 : S32 → Int32 → Int32 → Int32 → Option (Int32 × S32)} (hK26 : ∀ {u_T : S32} {w1 : Int32} {w2 : Int32} {w3 : Int32} {H : Heap} {locs : List Loc} {ls : Array Slot}, K26 u_T w1 w2 w3 = some (r, zu_T) → WD g A s.heap (cl_X12 g a_T u_T v_T ++ X) H locs → lv_has ls 5 [(0, .ref (a_T 0)), (1, .int w1), (2, .int w2), (3, .int w3)] → W p l e (rmH 1) s m (List.toArray [.ref (a_T 0), .int x1]) below meth c H locs 0 0 (MQ below (va_Qi (fun r2 (_ : Unit) => r2 = r) (fun _ t => POST g A (cl_X12 g a_T zu_T v_T ++ X) t) A) (List.toArray [.ref (a_T 0), .int x1]) s 0 0 A) (F0 m 26 ls [])) {K35 : S32 → Int32 → Int32 → Int32 → Int32 → Option (Int32 × S32)} (hK35 : ∀ {u_T : S32} {w1 : Int32} {w2 : Int32} {w3 : Int32} {w4 : Int32} {H : Heap} {locs : List Loc} {ls : Array Slot}, K35 u_T w1 w2 w3 w4 = some (r, zu_T) → WD g A s.heap (cl_X12 g a_T u_T v_T ++ X) H locs → lv_has ls 5 [(0, .ref (a_T 0)), (1, .int w1), (2, .int w2), (3, .int w3), (4, .int w4)] → W p l e (rmH 1) s m (List.toArray [.ref (a_T 0), .int x1]) below meth c H locs 0 0 (MQ below (va_Qi (fun r2 (_ : Unit) => r2 = r) (fun _ t => POST g A (cl_X12 g a_T zu_T v_T ++ X) t) A) (List.toArray [.ref (a_T 0), .int x1]) s 0 0 A) (F0 m 35 ls [])), ∀ {u_T : S32} {w1 : Int32} {w2 : Int32} {w3 : Int32} {w4 : Int32} {H : Heap} {locs : List Loc} {ls : Array Slot}, f_X12_chain_J73 fu v_T K26 K35 u_T w1 w2 w3 w4 = some (r, zu_T) → WD g A s.heap (cl_X12 g a_T u_T v_T ++ X) H locs → lv_has ls 5 [(0, .ref (a_T 0)), (1, .int w1), (2, .int w2), (3, .int w3), (4, .int w4)] → W p l e (rmH 1) s m (List.toArray [.ref (a_T 0), .int x1]) below meth c H locs 0 0 (MQ below (va_Qi (fun r2 (_ : Unit) => r2 = r) (fun _ t => POST g A (cl_X12 g a_T zu_T v_T ++ X) t) A) (List.toArray [.ref (a_T 0), .int x1]) s 0 0 A) (F0 m 73 ls []) := by
    intro K26 hK26 K35 hK35 u_T w1 w2 w3 w4 H locs ls hf hw hl
    unfold f_X12_chain_J73 at hf
    refine lv_iload_n hx hb dX12_chain_73 rfl (lv_at hl 2 rfl) ?_
    exact J74 hK26 hK35 hf hw (lv_sub hl [0, 1, 3, 4] rfl)
  have J35 : ∀ {K26 : S32 → Int32 → Int32 → Int32 → Option (Int32 × S32)} (hK26 : ∀ {u_T : S32} {w1 : Int32} {w2 : Int32} {w3 : Int32} {H : Heap} {locs : List Loc} {ls : Array Slot}, K26 u_T w1 w2 w3 = some (r, zu_T) → WD g A s.heap (cl_X12 g a_T u_T v_T ++ X) H locs → lv_has ls 5 [(0, .ref (a_T 0)), (1, .int w1), (2, .int w2), (3, .int w3)] → W p l e (rmH 1) s m (List.toArray [.ref (a_T 0), .int x1]) below meth c H locs 0 0 (MQ below (va_Qi (fun r2 (_ : Unit) => r2 = r) (fun _ t => POST g A (cl_X12 g a_T zu_T v_T ++ X) t) A) (List.toArray [.ref (a_T 0), .int x1]) s 0 0 A) (F0 m 26 ls [])) {K35 : S32 → Int32 → Int32 → Int32 → Int32 → Option (Int32 × S32)} (hK35 : ∀ {u_T : S32} {w1 : Int32} {w2 : Int32} {w3 : Int32} {w4 : Int32} {H : Heap} {locs : List Loc} {ls : Array Slot}, K35 u_T w1 w2 w3 w4 = some (r, zu_T) → WD g A s.heap (cl_X12 g a_T u_T v_T ++ X) H locs → lv_has ls 5 [(0, .ref (a_T 0)), (1, .int w1), (2, .int w2), (3, .int w3), (4, .int w4)] → W p l e (rmH 1) s m (List.toArray [.ref (a_T 0), .int x1]) below meth c H locs 0 0 (MQ below (va_Qi (fun r2 (_ : Unit) => r2 = r) (fun _ t => POST g A (cl_X12 g a_T zu_T v_T ++ X) t) A) (List.toArray [.ref (a_T 0), .int x1]) s 0 0 A) (F0 m 35 ls [])), ∀ {u_T : S32} {w1 : Int32} {w2 : Int32} {w3 : Int32} {w4 : Int32} {H : Heap} {locs : List Loc} {ls : Array Slot}, f_X12_chain_J35 fu v_T K26 K35 u_T w1 w2 w3 w4 = some (r, zu_T) → WD g A s.heap (cl_X12 g a_T u_T v_T ++ X) H locs → lv_has ls 5 [(0, .ref (a_T 0)), (1, .int w1), (2, .int w2), (3, .int w3), (4, .int w4)] → W p l e (rmH 1) s m (List.toArray [.ref (a_T 0), .int x1]) below meth c H locs 0 0 (MQ below (va_Qi (fun r2 (_ : Unit) => r2 = r) (fun _ t => POST g A (cl_X12 g a_T zu_T v_T ++ X) t) A) (List.toArray [.ref (a_T 0), .int x1]) s 0 0 A) (F0 m 35 ls []) := by
    intro K26 hK26 K35 hK35 u_T w1 w2 w3 w4 H locs ls hf hw hl
    unfold f_X12_chain_J35 at hf
    refine lv_iload hx hb dX12_chain_35 (lv_at hl 4 rfl) ?_
    refine lv_aload_n hx hb dX12_chain_37 rfl (lv_at hl 0 rfl) ?_
    refine gf_X12_228 S hE hw 0 rfl rfl dX12_chain_38 ?_
    refine lv_icmp_ge (tgt := 81) hx hb dX12_chain_41 (by decide) (fun h_5 => ?_) (fun h_5 => ?_)
    · replace hf := tx_pos hf h_5
      obtain ⟨y_6, ey_6⟩ : ∃ y : Int32, y = w3 + (1 : Int32) := ⟨_, rfl⟩
      replace hf := tx_let_e hf ey_6
      refine lv_iinc (v := y_6) (lv' := [(3, .int y_6), (0, .ref (a_T 0)), (1, .int w1), (2, .int w2), (4, .int w4)]) hx hb dX12_chain_81 hl (k := 3) rfl (by rw [ey_6]; rfl) (by decide) rfl (fun ls hl => ?_)
      refine lv_goto (tgt := 26) hx hb dX12_chain_84 (by decide) ?_
      exact hK26 hf hw (lv_sub hl [1, 2, 3, 0] rfl)
    · replace hf := tx_neg hf h_5
      refine lv_iload_n hx hb dX12_chain_44 rfl (lv_at hl 1 rfl) ?_
      refine lv_iload hx hb dX12_chain_45 (lv_at hl 4 rfl) ?_
      obtain ⟨r_8, h_7, hf⟩ := tx_b1_e hf
      refine tx_ci hw (tx_runS S hE hw (c_X12_isOf h_7) lk_X12_383 rfl hl.1 (rest := []) rfl (Nat.le_of_ble_eq_true rfl) ⟨by decide, by decide⟩ dX12_chain_47 ⟨Nat.zero_le _, Nat.zero_le _⟩) (fun H locs hw => ?_)
      refine lv_if_eq (tgt := 73) hx hb dX12_chain_50 (by decide) (fun h_9 => ?_) (fun h_9 => ?_)
      · replace hf := tx_pos hf h_9
        exact J73 hK26 hK35 hf hw (lv_sub hl [0, 1, 2, 3, 4] rfl)
      · replace hf := tx_neg hf h_9
        refine lv_aload_n hx hb dX12_chain_53 rfl (lv_at hl 0 rfl) ?_
        refine gf_X12_51 S hE hw 0 rfl rfl dX12_chain_54 ?_
        refine lv_iload hx hb dX12_chain_57 (lv_at hl 4 rfl) ?_
        obtain ⟨h_10, hf⟩ := tx_ck_e hf
        refine tx_iald S hE hw 13 rfl h_10 dX12_chain_59 ?_
        refine lv_iload_n hx hb dX12_chain_60 rfl (lv_at hl 3 rfl) ?_
        refine lv_icmp_ne (tgt := 73) hx hb dX12_chain_61 (by decide) (fun h_11 => ?_) (fun h_11 => ?_)
        · replace hf := tx_neg hf h_11
          exact J73 hK26 hK35 hf hw (lv_sub hl [0, 1, 2, 3, 4] rfl)
        · replace hf := tx_pos hf h_11
          refine lv_iload_n hx hb dX12_chain_64 rfl (lv_at hl 2 rfl) ?_
          refine lv_iload_n hx hb dX12_chain_65 rfl (lv_at hl 3 rfl) ?_
          refine lv_imul hx hb dX12_chain_66 ?_
          refine lv_bipush (v := 10) hx hb dX12_chain_67 (by decide) ?_
          refine lv_idiv hx hb dX12_chain_69 (by decide) ?_
          refine lv_goto (tgt := 74) hx hb dX12_chain_70 (by decide) ?_
          exact J74 hK26 hK35 hf hw (lv_sub hl [0, 1, 3, 4] rfl)
  have L35 : ∀ {K26 : S32 → Int32 → Int32 → Int32 → Option (Int32 × S32)} (hK26 : ∀ {u_T : S32} {w1 : Int32} {w2 : Int32} {w3 : Int32} {H : Heap} {locs : List Loc} {ls : Array Slot}, K26 u_T w1 w2 w3 = some (r, zu_T) → WD g A s.heap (cl_X12 g a_T u_T v_T ++ X) H locs → lv_has ls 5 [(0, .ref (a_T 0)), (1, .int w1), (2, .int w2), (3, .int w3)] → W p l e (rmH 1) s m (List.toArray [.ref (a_T 0), .int x1]) below meth c H locs 0 0 (MQ below (va_Qi (fun r2 (_ : Unit) => r2 = r) (fun _ t => POST g A (cl_X12 g a_T zu_T v_T ++ X) t) A) (List.toArray [.ref (a_T 0), .int x1]) s 0 0 A) (F0 m 26 ls [])), ∀ (n : Nat), ∀ {u_T : S32} {w1 : Int32} {w2 : Int32} {w3 : Int32} {w4 : Int32} {H : Heap} {locs : List Loc} {ls : Array Slot}, f_X12_chain_L35 fu v_T K26 n u_T w1 w2 w3 w4 = some (r, zu_T) → WD g A s.heap (cl_X12 g a_T u_T v_T ++ X) H locs → lv_has ls 5 [(0, .ref (a_T 0)), (1, .int w1), (2, .int w2), (3, .int w3), (4, .int w4)] → W p l e (rmH 1) s m (List.toArray [.ref (a_T 0), .int x1]) below meth c H locs 0 0 (MQ below (va_Qi (fun r2 (_ : Unit) => r2 = r) (fun _ t => POST g A (cl_X12 g a_T zu_T v_T ++ X) t) A) (List.toArray [.ref (a_T 0), .int x1]) s 0 0 A) (F0 m 35 ls []) := by
    intro K26 hK26 n
    induction n with
    | zero => intro u_T w1 w2 w3 w4 H locs ls hf; exact absurd hf (by intro q; cases q)
    | succ n ih => exact fun hf hw hl => J35 hK26 ih hf hw hl
  have J26 : ∀ {K26 : S32 → Int32 → Int32 → Int32 → Option (Int32 × S32)} (hK26 : ∀ {u_T : S32} {w1 : Int32} {w2 : Int32} {w3 : Int32} {H : Heap} {locs : List Loc} {ls : Array Slot}, K26 u_T w1 w2 w3 = some (r, zu_T) → WD g A s.heap (cl_X12 g a_T u_T v_T ++ X) H locs → lv_has ls 5 [(0, .ref (a_T 0)), (1, .int w1), (2, .int w2), (3, .int w3)] → W p l e (rmH 1) s m (List.toArray [.ref (a_T 0), .int x1]) below meth c H locs 0 0 (MQ below (va_Qi (fun r2 (_ : Unit) => r2 = r) (fun _ t => POST g A (cl_X12 g a_T zu_T v_T ++ X) t) A) (List.toArray [.ref (a_T 0), .int x1]) s 0 0 A) (F0 m 26 ls [])), ∀ {u_T : S32} {w1 : Int32} {w2 : Int32} {w3 : Int32} {H : Heap} {locs : List Loc} {ls : Array Slot}, f_X12_chain_J26 fu v_T K26 u_T w1 w2 w3 = some (r, zu_T) → WD g A s.heap (cl_X12 g a_T u_T v_T ++ X) H locs → lv_has ls 5 [(0, .ref (a_T 0)), (1, .int w1), (2, .int w2), (3, .int w3)] → W p l e (rmH 1) s m (List.toArray [.ref (a_T 0), .int x1]) below meth c H locs 0 0 (MQ below (va_Qi (fun r2 (_ : Unit) => r2 = r) (fun _ t => POST g A (cl_X12 g a_T zu_T v_T ++ X) t) A) (List.toArray [.ref (a_T 0), .int x1]) s 0 0 A) (F0 m 26 ls []) := by
    intro K26 hK26 u_T w1 w2 w3 H locs ls hf hw hl
    unfold f_X12_chain_J26 at hf
    refine lv_iload_n hx hb dX12_chain_26 rfl (lv_at hl 3 rfl) ?_
    refine lv_bipush (v := 10) hx hb dX12_chain_27 (by decide) ?_
    refine lv_icmp_ge (tgt := 87) hx hb dX12_chain_29 (by decide) (fun h_4 => ?_) (fun h_4 => ?_)
    · replace hf := tx_pos hf h_4
      refine lv_iload_n hx hb dX12_chain_87 rfl (lv_at hl 2 rfl) ?_
      obtain ⟨e0, e1⟩ := tx_in2 hf
      rw [← e0, ← e1]
      exact tx_iret S hr hlk hw dX12_chain_88
    · replace hf := tx_neg hf h_4
      refine lv_iconst (v := 0) hx hb dX12_chain_32 (by decide) ?_
      refine lv_istore (lv' := [(4, .int (0 : Int32)), (0, .ref (a_T 0)), (1, .int w1), (2, .int w2), (3, .int w3)]) hx hb dX12_chain_33 hl (by decide) rfl (fun ls hl => ?_)
      exact L35 hK26 fu hf hw (lv_sub hl [1, 2, 3, 4, 0] rfl)
  have L26 : ∀ (n : Nat), ∀ {u_T : S32} {w1 : Int32} {w2 : Int32} {w3 : Int32} {H : Heap} {locs : List Loc} {ls : Array Slot}, f_X12_chain_L26 fu v_T n u_T w1 w2 w3 = some (r, zu_T) → WD g A s.heap (cl_X12 g a_T u_T v_T ++ X) H locs → lv_has ls 5 [(0, .ref (a_T 0)), (1, .int w1), (2, .int w2), (3, .int w3)] → W p l e (rmH 1) s m (List.toArray [.ref (a_T 0), .int x1]) below meth c H locs 0 0 (MQ below (va_Qi (fun r2 (_ : Unit) => r2 = r) (fun _ t => POST g A (cl_X12 g a_T zu_T v_T ++ X) t) A) (List.toArray [.ref (a_T 0), .int x1]) s 0 0 A) (F0 m 26 ls []) := by
    intro  n
    induction n with
    | zero => intro u_T w1 w2 w3 H locs ls hf; exact absurd hf (by intro q; cases q)
    | succ n ih => exact fun hf hw hl => J26 ih hf hw hl
  unfold f_X12_chain at hf
  refine lv_aload_n hx hb dX12_chain_0 rfl (lv_at hl 0 rfl) ?_
  refine lv_iconst (v := 0) hx hb dX12_chain_1 (by decide) ?_
  obtain ⟨u_T_1, eu_T_1⟩ : ∃ z : S32, z = up2 u_T 0 2 (0 : Int32) := ⟨_, rfl⟩
  replace hf := tx_let_e hf eu_T_1
  refine pf_X12_145 (ws' := cl_X12 g a_T u_T_1 v_T ++ X) S hE hw rfl rfl 0 rfl (Nat.le_of_ble_eq_true rfl) (by rw [eu_T_1]; rfl) dX12_chain_2 (fun H locs hw => ?_)
  refine lv_iload_n hx hb dX12_chain_5 rfl (lv_at hl 1 rfl) ?_
  refine lv_if_lt (tgt := 19) hx hb dX12_chain_6 (by decide) (fun h_2 => ?_) (fun h_2 => ?_)
  · replace hf := tx_pos hf h_2
    refine lv_iconst (v := -1) hx hb dX12_chain_19 (by decide) ?_
    obtain ⟨e0, e1⟩ := tx_in2 hf
    rw [← e0, ← e1]
    exact tx_iret S hr hlk hw dX12_chain_20
  · replace hf := tx_neg hf h_2
    refine lv_iload_n hx hb dX12_chain_9 rfl (lv_at hl 1 rfl) ?_
    refine lv_iconst (v := 1) hx hb dX12_chain_10 (by decide) ?_
    refine lv_aload_n hx hb dX12_chain_11 rfl (lv_at hl 0 rfl) ?_
    refine gf_X12_228 S hE hw 0 rfl rfl dX12_chain_12 ?_
    refine lv_ishl hx hb dX12_chain_15 ?_
    refine lv_icmp_lt (tgt := 21) hx hb dX12_chain_16 (by decide) (fun h_3 => ?_) (fun h_3 => ?_)
    · replace hf := tx_pos hf h_3
      refine lv_bipush (v := 100) hx hb dX12_chain_21 (by decide) ?_
      refine lv_istore_n (lv' := [(2, .int (100 : Int32)), (0, .ref (a_T 0)), (1, .int x1)]) hx hb dX12_chain_23 rfl hl (by decide) rfl (fun ls hl => ?_)
      refine lv_iconst (v := 0) hx hb dX12_chain_24 (by decide) ?_
      refine lv_istore_n (lv' := [(3, .int (0 : Int32)), (2, .int (100 : Int32)), (0, .ref (a_T 0)), (1, .int x1)]) hx hb dX12_chain_25 rfl hl (by decide) rfl (fun ls hl => ?_)
      exact L26 fu hf hw (lv_sub hl [2, 3, 1, 0] rfl)
    · replace hf := tx_neg hf h_3
      refine lv_iconst (v := -1) hx hb dX12_chain_19 (by decide) ?_
      obtain ⟨e0, e1⟩ := tx_in2 hf
      rw [← e0, ← e1]
      exact tx_iret S hr hlk hw dX12_chain_20
